def lc_root : List (Nat × Instr × Nat × pm_L) := [(470, .aload_n 1, 1, ([], .null)), (471, .aload_n 0, 1, ([], .null)), (472, .iload 5, 2, ([], .null)), (474, .iconst 1, 1, ([], .null)), (475, .iadd, 1, ([], .null)), (476, .iaload, 1, ([], .null)), (477, .aload_n 0, 1, ([], .null)), (478, .iload 5, 2, ([], .null)), (480, .iconst 2, 1, ([], .null)), (481, .iadd, 1, ([], .null)), (482, .iaload, 1, ([], .null)), (483, .aload_n 3, 1, ([], .null)), (484, .invokestatic 127, 3, ([26, 4, 0, 0], .null)), (487, .istore 6, 2, ([], .null)), (489, .aload_n 2, 1, ([], .null)), (490, .aload_n 0, 1, ([], .null)), (491, .iload 5, 2, ([], .null)), (493, .iconst 1, 1, ([], .null)), (494, .iadd, 1, ([], .null)), (495, .iaload, 1, ([], .null)), (496, .aload_n 0, 1, ([], .null)), (497, .iload 5, 2, ([], .null)), (499, .iconst 2, 1, ([], .null)), (500, .iadd, 1, ([], .null)), (501, .iaload, 1, ([], .null)), (502, .invokevirtual 129, 3, ([180, 3, 0, 10], .null)), (505, .istore 7, 2, ([], .null)), (507, .aload_n 2, 1, ([], .null)), (508, .invokevirtual 110, 3, ([169, 1, 0, 10], .null)), (511, .iload 6, 2, ([], .null)), (513, .if_icmp .eq 5, 3, ([518], .null)), (516, .iconst 0, 1, ([], .null)), (517, .ireturn, 1, ([1], .null)), (518, .iload 6, 2, ([], .null)), (520, .ifCond .ne 15, 3, ([535], .null)), (523, .aload_n 3, 1, ([], .null)), (524, .iconst 0, 1, ([], .null)), (525, .laload, 1, ([], .null)), (526, .iload 7, 2, ([], .null)), (528, .i2l, 1, ([], .null)), (529, .lcmp, 1, ([], .null)), (530, .ifCond .eq 5, 3, ([535], .null)), (533, .iconst 0, 1, ([], .null)), (534, .ireturn, 1, ([1], .null)), (535, .goto 1369, 3, ([1904], .null))]
theorem ls_root : pm_sub lc_root kc_L_law := pm_sub_of (by decide +kernel)
theorem lw_root {X : pm_X} {n : Nat} {xs : Nat → Int32} (h0 : X 0 = (n, xs)) (hX : X 1 = (8, eb)) {d : Nat} {i : Int32} (hi : lw_in i n) {a b e : Option Value} {c k : Nat} {I : st_I} {J : st_J} (h : RR I J) : lw_S X d 470 i a b e c k I J := by
  obtain ⟨q0, q1, q2, q3, q4, q5, q6, q7⟩ := hi
  obtain ⟨I1, J1, kk, cc, ks, e1, n1, n2, I2, J2, v, e2, e3, e4, hR⟩ := s_root (X := X) hX (d := d + 66) (p1 := (xs (Int32.toNatClampNeg (i + (1 : Int32))))) (p2 := (xs (Int32.toNatClampNeg (i + (2 : Int32))))) h
  refine ⟨I2, J2, some (.int kk), some (.int v), e, c + cc, k + ks, hR, by omega, by omega, fun r g => ?_⟩
  refine (t_pS ls_root (pc' := 476) (ls' := [some (.retAddr 0), some (.ref 0), some (.ref 166), some (.ref 187), some (.ref 188), some (.int i), a, b, e]) (st' := [.int (i + (1 : Int32)), .retAddr 0, .ref 0]) 5 rfl).mpr ?_
  refine (t_lX (ls_root _ _ rfl) rfl h0).mpr ⟨q1, ?_⟩
  refine (t_pS ls_root (pc' := 482) (ls' := [some (.retAddr 0), some (.ref 0), some (.ref 166), some (.ref 187), some (.ref 188), some (.int i), a, b, e]) (st' := [.int (i + (2 : Int32)), .retAddr 0, .int (xs (Int32.toNatClampNeg (i + (1 : Int32)))), .ref 0]) 4 rfl).mpr ?_
  refine (t_lX (ls_root _ _ rfl) rfl h0).mpr ⟨q2, ?_⟩
  refine (t_pS ls_root (pc' := 484) (ls' := [some (.retAddr 0), some (.ref 0), some (.ref 166), some (.ref 187), some (.ref 188), some (.int i), a, b, e]) (st' := [.ref 187, .int (xs (Int32.toNatClampNeg (i + (2 : Int32)))), .int (xs (Int32.toNatClampNeg (i + (1 : Int32)))), .ref 0]) 1 rfl).mpr ?_
  refine (t_cS (ls_root _ _ rfl) rfl rfl (Ex_of e1)).mpr ?_
  show Gx X (d + 72) (kc_L_law, []) (487, [some (.retAddr 0), some (.ref 0), some (.ref 166), some (.ref 187), some (.ref 188), some (.int i), a, b, e], [.int kk], st_h I1 J1, c + cc, k + ks) r
  refine (t_pS ls_root (pc' := 495) (ls' := [some (.retAddr 0), some (.ref 0), some (.ref 166), some (.ref 187), some (.ref 188), some (.int i), some (.int kk), b, e]) (st' := [.int (i + (1 : Int32)), .retAddr 0, .ref 166]) 6 rfl).mpr ?_
  refine (t_lX (ls_root _ _ rfl) rfl h0).mpr ⟨q1, ?_⟩
  refine (t_pS ls_root (pc' := 501) (ls' := [some (.retAddr 0), some (.ref 0), some (.ref 166), some (.ref 187), some (.ref 188), some (.int i), some (.int kk), b, e]) (st' := [.int (i + (2 : Int32)), .retAddr 0, .int (xs (Int32.toNatClampNeg (i + (1 : Int32)))), .ref 166]) 4 rfl).mpr ?_
  refine (t_lX (ls_root _ _ rfl) rfl h0).mpr ⟨q2, ?_⟩
  refine (t_cV (ls_root _ _ rfl) rfl rfl rfl (Ex_of e2)).mpr ?_
  show Gx X (d + 72) (kc_L_law, []) (505, [some (.retAddr 0), some (.ref 0), some (.ref 166), some (.ref 187), some (.ref 188), some (.int i), some (.int kk), b, e], [.int v], st_h I2 J2, c + cc, k + ks) r
  refine (t_pS ls_root (pc' := 508) (ls' := [some (.retAddr 0), some (.ref 0), some (.ref 166), some (.ref 187), some (.ref 188), some (.int i), some (.int kk), some (.int v), e]) (st' := [.ref 166]) 2 rfl).mpr ?_
  refine (t_cV (ls_root _ _ rfl) rfl rfl rfl (ev_M_thrown (d := d + 71))).mpr ?_
  show Gx X (d + 72) (kc_L_law, []) (511, [some (.retAddr 0), some (.ref 0), some (.ref 166), some (.ref 187), some (.ref 188), some (.int i), some (.int kk), some (.int v), e], [.int (I2 166 10)], st_h I2 J2, c + cc, k + ks) r
  refine (t_pS ls_root (pc' := 513) (ls' := [some (.retAddr 0), some (.ref 0), some (.ref 166), some (.ref 187), some (.ref 188), some (.int i), some (.int kk), some (.int v), e]) (st' := [.int kk, .int (I2 166 10)]) 1 rfl).mpr ?_
  refine (t_ieq (ls_root _ _ rfl)).mpr ?_
  rw [if_pos e3]
  refine (t_pS ls_root (pc' := 520) (ls' := [some (.retAddr 0), some (.ref 0), some (.ref 166), some (.ref 187), some (.ref 188), some (.int i), some (.int kk), some (.int v), e]) (st' := [.int kk]) 1 rfl).mpr ?_
  refine (t_fne (ls_root _ _ rfl)).mpr ?_
  by_cases hk : kk = 0
  rotate_left
  · rw [if_neg hk]
    refine (t_pS ls_root (pc' := 1904) (ls' := [some (.retAddr 0), some (.ref 0), some (.ref 166), some (.ref 187), some (.ref 188), some (.int i), some (.int kk), some (.int v), e]) (st' := []) 1 rfl).mpr ?_
    exact g
  rw [if_pos hk]
  refine (t_pS ls_root (pc' := 525) (ls' := [some (.retAddr 0), some (.ref 0), some (.ref 166), some (.ref 187), some (.ref 188), some (.int i), some (.int kk), some (.int v), e]) (st' := [.int (0 : Int32), .ref 187]) 2 rfl).mpr ?_
  refine (t_lJ (ls_root _ _ rfl) rfl).mpr ⟨rfl, ?_⟩
  refine (t_pS ls_root (pc' := 530) (ls' := [some (.retAddr 0), some (.ref 0), some (.ref 166), some (.ref 187), some (.ref 188), some (.int i), some (.int kk), some (.int v), e]) (st' := [.int (lg_cmp (J2 187 0) (Int32.toInt64 v))]) 3 rfl).mpr ?_
  refine (t_Leq (ls_root _ _ rfl)).mpr ?_
  rw [if_pos (e4 hk)]
  refine (t_pS ls_root (pc' := 1904) (ls' := [some (.retAddr 0), some (.ref 0), some (.ref 166), some (.ref 187), some (.ref 188), some (.int i), some (.int kk), some (.int v), e]) (st' := []) 1 rfl).mpr ?_
  exact g
def lc_follow : List (Nat × Instr × Nat × pm_L) := [(538, .aload_n 1, 1, ([], .null)), (539, .aload_n 0, 1, ([], .null)), (540, .iload 5, 2, ([], .null)), (542, .iconst 1, 1, ([], .null)), (543, .iadd, 1, ([], .null)), (544, .iaload, 1, ([], .null)), (545, .aload_n 0, 1, ([], .null)), (546, .iload 5, 2, ([], .null)), (548, .iconst 2, 1, ([], .null)), (549, .iadd, 1, ([], .null)), (550, .iaload, 1, ([], .null)), (551, .aload_n 0, 1, ([], .null)), (552, .iload 5, 2, ([], .null)), (554, .iconst 3, 1, ([], .null)), (555, .iadd, 1, ([], .null)), (556, .iaload, 1, ([], .null)), (557, .aload_n 3, 1, ([], .null)), (558, .invokestatic 130, 3, ([53, 5, 0, 0], .null)), (561, .istore 6, 2, ([], .null)), (563, .aload_n 2, 1, ([], .null)), (564, .aload_n 0, 1, ([], .null)), (565, .iload 5, 2, ([], .null)), (567, .iconst 1, 1, ([], .null)), (568, .iadd, 1, ([], .null)), (569, .iaload, 1, ([], .null)), (570, .aload_n 0, 1, ([], .null)), (571, .iload 5, 2, ([], .null)), (573, .iconst 2, 1, ([], .null)), (574, .iadd, 1, ([], .null)), (575, .iaload, 1, ([], .null)), (576, .aload_n 0, 1, ([], .null)), (577, .iload 5, 2, ([], .null)), (579, .iconst 3, 1, ([], .null)), (580, .iadd, 1, ([], .null)), (581, .iaload, 1, ([], .null)), (582, .invokevirtual 133, 3, ([192, 4, 0, 10], .null)), (585, .istore 7, 2, ([], .null)), (587, .aload_n 2, 1, ([], .null)), (588, .invokevirtual 110, 3, ([169, 1, 0, 10], .null)), (591, .iload 6, 2, ([], .null)), (593, .if_icmp .eq 5, 3, ([598], .null)), (596, .iconst 0, 1, ([], .null)), (597, .ireturn, 1, ([1], .null)), (598, .iload 6, 2, ([], .null)), (600, .ifCond .ne 15, 3, ([615], .null)), (603, .aload_n 3, 1, ([], .null)), (604, .iconst 0, 1, ([], .null)), (605, .laload, 1, ([], .null)), (606, .iload 7, 2, ([], .null)), (608, .i2l, 1, ([], .null)), (609, .lcmp, 1, ([], .null)), (610, .ifCond .eq 5, 3, ([615], .null)), (613, .iconst 0, 1, ([], .null)), (614, .ireturn, 1, ([1], .null)), (615, .goto 1289, 3, ([1904], .null))]
theorem ls_follow : pm_sub lc_follow kc_L_law := pm_sub_of (by decide +kernel)
theorem lw_follow {X : pm_X} {n : Nat} {xs : Nat → Int32} (h0 : X 0 = (n, xs)) (hX : X 1 = (8, eb)) {d : Nat} {i : Int32} (hi : lw_in i n) {a b e : Option Value} {c k : Nat} {I : st_I} {J : st_J} (h : RR I J) : lw_S X d 538 i a b e c k I J := by
  obtain ⟨q0, q1, q2, q3, q4, q5, q6, q7⟩ := hi
  obtain ⟨I1, J1, kk, cc, ks, e1, n1, n2, I2, J2, v, e2, e3, e4, hR⟩ := s_follow (X := X) hX (d := d + 66) (p1 := (xs (Int32.toNatClampNeg (i + (1 : Int32))))) (p2 := (xs (Int32.toNatClampNeg (i + (2 : Int32))))) (p3 := (xs (Int32.toNatClampNeg (i + (3 : Int32))))) h
  refine ⟨I2, J2, some (.int kk), some (.int v), e, c + cc, k + ks, hR, by omega, by omega, fun r g => ?_⟩
  refine (t_pS ls_follow (pc' := 544) (ls' := [some (.retAddr 0), some (.ref 0), some (.ref 166), some (.ref 187), some (.ref 188), some (.int i), a, b, e]) (st' := [.int (i + (1 : Int32)), .retAddr 0, .ref 0]) 5 rfl).mpr ?_
  refine (t_lX (ls_follow _ _ rfl) rfl h0).mpr ⟨q1, ?_⟩
  refine (t_pS ls_follow (pc' := 550) (ls' := [some (.retAddr 0), some (.ref 0), some (.ref 166), some (.ref 187), some (.ref 188), some (.int i), a, b, e]) (st' := [.int (i + (2 : Int32)), .retAddr 0, .int (xs (Int32.toNatClampNeg (i + (1 : Int32)))), .ref 0]) 4 rfl).mpr ?_
  refine (t_lX (ls_follow _ _ rfl) rfl h0).mpr ⟨q2, ?_⟩
  refine (t_pS ls_follow (pc' := 556) (ls' := [some (.retAddr 0), some (.ref 0), some (.ref 166), some (.ref 187), some (.ref 188), some (.int i), a, b, e]) (st' := [.int (i + (3 : Int32)), .retAddr 0, .int (xs (Int32.toNatClampNeg (i + (2 : Int32)))), .int (xs (Int32.toNatClampNeg (i + (1 : Int32)))), .ref 0]) 4 rfl).mpr ?_
  refine (t_lX (ls_follow _ _ rfl) rfl h0).mpr ⟨q3, ?_⟩
  refine (t_pS ls_follow (pc' := 558) (ls' := [some (.retAddr 0), some (.ref 0), some (.ref 166), some (.ref 187), some (.ref 188), some (.int i), a, b, e]) (st' := [.ref 187, .int (xs (Int32.toNatClampNeg (i + (3 : Int32)))), .int (xs (Int32.toNatClampNeg (i + (2 : Int32)))), .int (xs (Int32.toNatClampNeg (i + (1 : Int32)))), .ref 0]) 1 rfl).mpr ?_
  refine (t_cS (ls_follow _ _ rfl) rfl rfl (Ex_of e1)).mpr ?_
  show Gx X (d + 72) (kc_L_law, []) (561, [some (.retAddr 0), some (.ref 0), some (.ref 166), some (.ref 187), some (.ref 188), some (.int i), a, b, e], [.int kk], st_h I1 J1, c + cc, k + ks) r
  refine (t_pS ls_follow (pc' := 569) (ls' := [some (.retAddr 0), some (.ref 0), some (.ref 166), some (.ref 187), some (.ref 188), some (.int i), some (.int kk), b, e]) (st' := [.int (i + (1 : Int32)), .retAddr 0, .ref 166]) 6 rfl).mpr ?_
  refine (t_lX (ls_follow _ _ rfl) rfl h0).mpr ⟨q1, ?_⟩
  refine (t_pS ls_follow (pc' := 575) (ls' := [some (.retAddr 0), some (.ref 0), some (.ref 166), some (.ref 187), some (.ref 188), some (.int i), some (.int kk), b, e]) (st' := [.int (i + (2 : Int32)), .retAddr 0, .int (xs (Int32.toNatClampNeg (i + (1 : Int32)))), .ref 166]) 4 rfl).mpr ?_
  refine (t_lX (ls_follow _ _ rfl) rfl h0).mpr ⟨q2, ?_⟩
  refine (t_pS ls_follow (pc' := 581) (ls' := [some (.retAddr 0), some (.ref 0), some (.ref 166), some (.ref 187), some (.ref 188), some (.int i), some (.int kk), b, e]) (st' := [.int (i + (3 : Int32)), .retAddr 0, .int (xs (Int32.toNatClampNeg (i + (2 : Int32)))), .int (xs (Int32.toNatClampNeg (i + (1 : Int32)))), .ref 166]) 4 rfl).mpr ?_
  refine (t_lX (ls_follow _ _ rfl) rfl h0).mpr ⟨q3, ?_⟩
  refine (t_cV (ls_follow _ _ rfl) rfl rfl rfl (Ex_of e2)).mpr ?_
  show Gx X (d + 72) (kc_L_law, []) (585, [some (.retAddr 0), some (.ref 0), some (.ref 166), some (.ref 187), some (.ref 188), some (.int i), some (.int kk), b, e], [.int v], st_h I2 J2, c + cc, k + ks) r
  refine (t_pS ls_follow (pc' := 588) (ls' := [some (.retAddr 0), some (.ref 0), some (.ref 166), some (.ref 187), some (.ref 188), some (.int i), some (.int kk), some (.int v), e]) (st' := [.ref 166]) 2 rfl).mpr ?_
  refine (t_cV (ls_follow _ _ rfl) rfl rfl rfl (ev_M_thrown (d := d + 71))).mpr ?_
  show Gx X (d + 72) (kc_L_law, []) (591, [some (.retAddr 0), some (.ref 0), some (.ref 166), some (.ref 187), some (.ref 188), some (.int i), some (.int kk), some (.int v), e], [.int (I2 166 10)], st_h I2 J2, c + cc, k + ks) r
  refine (t_pS ls_follow (pc' := 593) (ls' := [some (.retAddr 0), some (.ref 0), some (.ref 166), some (.ref 187), some (.ref 188), some (.int i), some (.int kk), some (.int v), e]) (st' := [.int kk, .int (I2 166 10)]) 1 rfl).mpr ?_
  refine (t_ieq (ls_follow _ _ rfl)).mpr ?_
  rw [if_pos e3]
  refine (t_pS ls_follow (pc' := 600) (ls' := [some (.retAddr 0), some (.ref 0), some (.ref 166), some (.ref 187), some (.ref 188), some (.int i), some (.int kk), some (.int v), e]) (st' := [.int kk]) 1 rfl).mpr ?_
  refine (t_fne (ls_follow _ _ rfl)).mpr ?_
  by_cases hk : kk = 0
  rotate_left
  · rw [if_neg hk]
    refine (t_pS ls_follow (pc' := 1904) (ls' := [some (.retAddr 0), some (.ref 0), some (.ref 166), some (.ref 187), some (.ref 188), some (.int i), some (.int kk), some (.int v), e]) (st' := []) 1 rfl).mpr ?_
    exact g
  rw [if_pos hk]
  refine (t_pS ls_follow (pc' := 605) (ls' := [some (.retAddr 0), some (.ref 0), some (.ref 166), some (.ref 187), some (.ref 188), some (.int i), some (.int kk), some (.int v), e]) (st' := [.int (0 : Int32), .ref 187]) 2 rfl).mpr ?_
  refine (t_lJ (ls_follow _ _ rfl) rfl).mpr ⟨rfl, ?_⟩
  refine (t_pS ls_follow (pc' := 610) (ls' := [some (.retAddr 0), some (.ref 0), some (.ref 166), some (.ref 187), some (.ref 188), some (.int i), some (.int kk), some (.int v), e]) (st' := [.int (lg_cmp (J2 187 0) (Int32.toInt64 v))]) 3 rfl).mpr ?_
  refine (t_Leq (ls_follow _ _ rfl)).mpr ?_
  rw [if_pos (e4 hk)]
  refine (t_pS ls_follow (pc' := 1904) (ls' := [some (.retAddr 0), some (.ref 0), some (.ref 166), some (.ref 187), some (.ref 188), some (.int i), some (.int kk), some (.int v), e]) (st' := []) 1 rfl).mpr ?_
  exact g
def lc_element : List (Nat × Instr × Nat × pm_L) := [(618, .aload_n 1, 1, ([], .null)), (619, .aload_n 0, 1, ([], .null)), (620, .iload 5, 2, ([], .null)), (622, .iconst 1, 1, ([], .null)), (623, .iadd, 1, ([], .null)), (624, .iaload, 1, ([], .null)), (625, .aload_n 0, 1, ([], .null)), (626, .iload 5, 2, ([], .null)), (628, .iconst 2, 1, ([], .null)), (629, .iadd, 1, ([], .null)), (630, .iaload, 1, ([], .null)), (631, .aload_n 0, 1, ([], .null)), (632, .iload 5, 2, ([], .null)), (634, .iconst 3, 1, ([], .null)), (635, .iadd, 1, ([], .null)), (636, .iaload, 1, ([], .null)), (637, .aload_n 3, 1, ([], .null)), (638, .invokestatic 134, 3, ([60, 5, 0, 0], .null)), (641, .istore 6, 2, ([], .null)), (643, .aload_n 2, 1, ([], .null)), (644, .aload_n 0, 1, ([], .null)), (645, .iload 5, 2, ([], .null)), (647, .iconst 1, 1, ([], .null)), (648, .iadd, 1, ([], .null)), (649, .iaload, 1, ([], .null)), (650, .aload_n 0, 1, ([], .null)), (651, .iload 5, 2, ([], .null)), (653, .iconst 2, 1, ([], .null)), (654, .iadd, 1, ([], .null)), (655, .iaload, 1, ([], .null)), (656, .aload_n 0, 1, ([], .null)), (657, .iload 5, 2, ([], .null)), (659, .iconst 3, 1, ([], .null)), (660, .iadd, 1, ([], .null)), (661, .iaload, 1, ([], .null)), (662, .invokevirtual 136, 3, ([194, 4, 0, 10], .null)), (665, .istore 7, 2, ([], .null)), (667, .aload_n 2, 1, ([], .null)), (668, .invokevirtual 110, 3, ([169, 1, 0, 10], .null)), (671, .iload 6, 2, ([], .null)), (673, .if_icmp .eq 5, 3, ([678], .null)), (676, .iconst 0, 1, ([], .null)), (677, .ireturn, 1, ([1], .null)), (678, .iload 6, 2, ([], .null)), (680, .ifCond .ne 15, 3, ([695], .null)), (683, .aload_n 3, 1, ([], .null)), (684, .iconst 0, 1, ([], .null)), (685, .laload, 1, ([], .null)), (686, .iload 7, 2, ([], .null)), (688, .i2l, 1, ([], .null)), (689, .lcmp, 1, ([], .null)), (690, .ifCond .eq 5, 3, ([695], .null)), (693, .iconst 0, 1, ([], .null)), (694, .ireturn, 1, ([1], .null)), (695, .goto 1209, 3, ([1904], .null))]
theorem ls_element : pm_sub lc_element kc_L_law := pm_sub_of (by decide +kernel)
theorem lw_element {X : pm_X} {n : Nat} {xs : Nat → Int32} (h0 : X 0 = (n, xs)) (hX : X 1 = (8, eb)) {d : Nat} {i : Int32} (hi : lw_in i n) {a b e : Option Value} {c k : Nat} {I : st_I} {J : st_J} (h : RR I J) : lw_S X d 618 i a b e c k I J := by
  obtain ⟨q0, q1, q2, q3, q4, q5, q6, q7⟩ := hi
  obtain ⟨I1, J1, kk, cc, ks, e1, n1, n2, I2, J2, v, e2, e3, e4, hR⟩ := s_element (X := X) (d := d + 67) (p1 := (xs (Int32.toNatClampNeg (i + (1 : Int32))))) (p2 := (xs (Int32.toNatClampNeg (i + (2 : Int32))))) (p3 := (xs (Int32.toNatClampNeg (i + (3 : Int32))))) h
  refine ⟨I2, J2, some (.int kk), some (.int v), e, c + cc, k + ks, hR, by omega, by omega, fun r g => ?_⟩
  refine (t_pS ls_element (pc' := 624) (ls' := [some (.retAddr 0), some (.ref 0), some (.ref 166), some (.ref 187), some (.ref 188), some (.int i), a, b, e]) (st' := [.int (i + (1 : Int32)), .retAddr 0, .ref 0]) 5 rfl).mpr ?_
  refine (t_lX (ls_element _ _ rfl) rfl h0).mpr ⟨q1, ?_⟩
  refine (t_pS ls_element (pc' := 630) (ls' := [some (.retAddr 0), some (.ref 0), some (.ref 166), some (.ref 187), some (.ref 188), some (.int i), a, b, e]) (st' := [.int (i + (2 : Int32)), .retAddr 0, .int (xs (Int32.toNatClampNeg (i + (1 : Int32)))), .ref 0]) 4 rfl).mpr ?_
  refine (t_lX (ls_element _ _ rfl) rfl h0).mpr ⟨q2, ?_⟩
  refine (t_pS ls_element (pc' := 636) (ls' := [some (.retAddr 0), some (.ref 0), some (.ref 166), some (.ref 187), some (.ref 188), some (.int i), a, b, e]) (st' := [.int (i + (3 : Int32)), .retAddr 0, .int (xs (Int32.toNatClampNeg (i + (2 : Int32)))), .int (xs (Int32.toNatClampNeg (i + (1 : Int32)))), .ref 0]) 4 rfl).mpr ?_
  refine (t_lX (ls_element _ _ rfl) rfl h0).mpr ⟨q3, ?_⟩
  refine (t_pS ls_element (pc' := 638) (ls' := [some (.retAddr 0), some (.ref 0), some (.ref 166), some (.ref 187), some (.ref 188), some (.int i), a, b, e]) (st' := [.ref 187, .int (xs (Int32.toNatClampNeg (i + (3 : Int32)))), .int (xs (Int32.toNatClampNeg (i + (2 : Int32)))), .int (xs (Int32.toNatClampNeg (i + (1 : Int32)))), .ref 0]) 1 rfl).mpr ?_
  refine (t_cS (ls_element _ _ rfl) rfl rfl (Ex_of e1)).mpr ?_
  show Gx X (d + 72) (kc_L_law, []) (641, [some (.retAddr 0), some (.ref 0), some (.ref 166), some (.ref 187), some (.ref 188), some (.int i), a, b, e], [.int kk], st_h I1 J1, c + cc, k + ks) r
  refine (t_pS ls_element (pc' := 649) (ls' := [some (.retAddr 0), some (.ref 0), some (.ref 166), some (.ref 187), some (.ref 188), some (.int i), some (.int kk), b, e]) (st' := [.int (i + (1 : Int32)), .retAddr 0, .ref 166]) 6 rfl).mpr ?_
  refine (t_lX (ls_element _ _ rfl) rfl h0).mpr ⟨q1, ?_⟩
  refine (t_pS ls_element (pc' := 655) (ls' := [some (.retAddr 0), some (.ref 0), some (.ref 166), some (.ref 187), some (.ref 188), some (.int i), some (.int kk), b, e]) (st' := [.int (i + (2 : Int32)), .retAddr 0, .int (xs (Int32.toNatClampNeg (i + (1 : Int32)))), .ref 166]) 4 rfl).mpr ?_
  refine (t_lX (ls_element _ _ rfl) rfl h0).mpr ⟨q2, ?_⟩
  refine (t_pS ls_element (pc' := 661) (ls' := [some (.retAddr 0), some (.ref 0), some (.ref 166), some (.ref 187), some (.ref 188), some (.int i), some (.int kk), b, e]) (st' := [.int (i + (3 : Int32)), .retAddr 0, .int (xs (Int32.toNatClampNeg (i + (2 : Int32)))), .int (xs (Int32.toNatClampNeg (i + (1 : Int32)))), .ref 166]) 4 rfl).mpr ?_
  refine (t_lX (ls_element _ _ rfl) rfl h0).mpr ⟨q3, ?_⟩
  refine (t_cV (ls_element _ _ rfl) rfl rfl rfl (Ex_of e2)).mpr ?_
  show Gx X (d + 72) (kc_L_law, []) (665, [some (.retAddr 0), some (.ref 0), some (.ref 166), some (.ref 187), some (.ref 188), some (.int i), some (.int kk), b, e], [.int v], st_h I2 J2, c + cc, k + ks) r
  refine (t_pS ls_element (pc' := 668) (ls' := [some (.retAddr 0), some (.ref 0), some (.ref 166), some (.ref 187), some (.ref 188), some (.int i), some (.int kk), some (.int v), e]) (st' := [.ref 166]) 2 rfl).mpr ?_
  refine (t_cV (ls_element _ _ rfl) rfl rfl rfl (ev_M_thrown (d := d + 71))).mpr ?_
  show Gx X (d + 72) (kc_L_law, []) (671, [some (.retAddr 0), some (.ref 0), some (.ref 166), some (.ref 187), some (.ref 188), some (.int i), some (.int kk), some (.int v), e], [.int (I2 166 10)], st_h I2 J2, c + cc, k + ks) r
  refine (t_pS ls_element (pc' := 673) (ls' := [some (.retAddr 0), some (.ref 0), some (.ref 166), some (.ref 187), some (.ref 188), some (.int i), some (.int kk), some (.int v), e]) (st' := [.int kk, .int (I2 166 10)]) 1 rfl).mpr ?_
  refine (t_ieq (ls_element _ _ rfl)).mpr ?_
  rw [if_pos e3]
  refine (t_pS ls_element (pc' := 680) (ls' := [some (.retAddr 0), some (.ref 0), some (.ref 166), some (.ref 187), some (.ref 188), some (.int i), some (.int kk), some (.int v), e]) (st' := [.int kk]) 1 rfl).mpr ?_
  refine (t_fne (ls_element _ _ rfl)).mpr ?_
  by_cases hk : kk = 0
  rotate_left
  · rw [if_neg hk]
    refine (t_pS ls_element (pc' := 1904) (ls' := [some (.retAddr 0), some (.ref 0), some (.ref 166), some (.ref 187), some (.ref 188), some (.int i), some (.int kk), some (.int v), e]) (st' := []) 1 rfl).mpr ?_
    exact g
  rw [if_pos hk]
  refine (t_pS ls_element (pc' := 685) (ls' := [some (.retAddr 0), some (.ref 0), some (.ref 166), some (.ref 187), some (.ref 188), some (.int i), some (.int kk), some (.int v), e]) (st' := [.int (0 : Int32), .ref 187]) 2 rfl).mpr ?_
  refine (t_lJ (ls_element _ _ rfl) rfl).mpr ⟨rfl, ?_⟩
  refine (t_pS ls_element (pc' := 690) (ls' := [some (.retAddr 0), some (.ref 0), some (.ref 166), some (.ref 187), some (.ref 188), some (.int i), some (.int kk), some (.int v), e]) (st' := [.int (lg_cmp (J2 187 0) (Int32.toInt64 v))]) 3 rfl).mpr ?_
  refine (t_Leq (ls_element _ _ rfl)).mpr ?_
  rw [if_pos (e4 hk)]
  refine (t_pS ls_element (pc' := 1904) (ls' := [some (.retAddr 0), some (.ref 0), some (.ref 166), some (.ref 187), some (.ref 188), some (.int i), some (.int kk), some (.int v), e]) (st' := []) 1 rfl).mpr ?_
  exact g
def lc_number : List (Nat × Instr × Nat × pm_L) := [(698, .aload_n 1, 1, ([], .null)), (699, .aload_n 0, 1, ([], .null)), (700, .iload 5, 2, ([], .null)), (702, .iconst 1, 1, ([], .null)), (703, .iadd, 1, ([], .null)), (704, .iaload, 1, ([], .null)), (705, .aload_n 0, 1, ([], .null)), (706, .iload 5, 2, ([], .null)), (708, .iconst 2, 1, ([], .null)), (709, .iadd, 1, ([], .null)), (710, .iaload, 1, ([], .null)), (711, .aload_n 0, 1, ([], .null)), (712, .iload 5, 2, ([], .null)), (714, .iconst 3, 1, ([], .null)), (715, .iadd, 1, ([], .null)), (716, .iaload, 1, ([], .null)), (717, .aload_n 0, 1, ([], .null)), (718, .iload 5, 2, ([], .null)), (720, .iconst 4, 1, ([], .null)), (721, .iadd, 1, ([], .null)), (722, .iaload, 1, ([], .null)), (723, .i2l, 1, ([], .null)), (724, .bipush 32, 2, ([], .null)), (726, .lshl, 1, ([], .null)), (727, .aload_n 0, 1, ([], .null)), (728, .iload 5, 2, ([], .null)), (730, .iconst 5, 1, ([], .null)), (731, .iadd, 1, ([], .null)), (732, .iaload, 1, ([], .null)), (733, .i2l, 1, ([], .null)), (734, .ldc2_w 113, 3, ([], .long 4294967295)), (737, .land, 1, ([], .null)), (738, .lor, 1, ([], .null)), (739, .aload_n 3, 1, ([], .null)), (740, .invokestatic 137, 3, ([64, 6, 0, 0], .null)), (743, .istore 6, 2, ([], .null)), (745, .aload_n 2, 1, ([], .null)), (746, .aload_n 0, 1, ([], .null)), (747, .iload 5, 2, ([], .null)), (749, .iconst 1, 1, ([], .null)), (750, .iadd, 1, ([], .null)), (751, .iaload, 1, ([], .null)), (752, .aload_n 0, 1, ([], .null)), (753, .iload 5, 2, ([], .null)), (755, .iconst 2, 1, ([], .null)), (756, .iadd, 1, ([], .null)), (757, .iaload, 1, ([], .null)), (758, .aload_n 0, 1, ([], .null)), (759, .iload 5, 2, ([], .null)), (761, .iconst 3, 1, ([], .null)), (762, .iadd, 1, ([], .null)), (763, .iaload, 1, ([], .null)), (764, .aload_n 0, 1, ([], .null)), (765, .iload 5, 2, ([], .null)), (767, .iconst 4, 1, ([], .null)), (768, .iadd, 1, ([], .null)), (769, .iaload, 1, ([], .null)), (770, .i2l, 1, ([], .null)), (771, .bipush 32, 2, ([], .null)), (773, .lshl, 1, ([], .null)), (774, .aload_n 0, 1, ([], .null)), (775, .iload 5, 2, ([], .null)), (777, .iconst 5, 1, ([], .null)), (778, .iadd, 1, ([], .null)), (779, .iaload, 1, ([], .null)), (780, .i2l, 1, ([], .null)), (781, .ldc2_w 113, 3, ([], .long 4294967295)), (784, .land, 1, ([], .null)), (785, .lor, 1, ([], .null)), (786, .invokevirtual 140, 3, ([195, 5, 0, 10], .null)), (789, .lstore 7, 2, ([], .null)), (791, .aload_n 2, 1, ([], .null)), (792, .invokevirtual 110, 3, ([169, 1, 0, 10], .null)), (795, .iload 6, 2, ([], .null)), (797, .if_icmp .eq 5, 3, ([802], .null)), (800, .iconst 0, 1, ([], .null)), (801, .ireturn, 1, ([1], .null)), (802, .iload 6, 2, ([], .null)), (804, .ifCond .ne 14, 3, ([818], .null)), (807, .aload_n 3, 1, ([], .null)), (808, .iconst 0, 1, ([], .null)), (809, .laload, 1, ([], .null)), (810, .lload 7, 2, ([], .null)), (812, .lcmp, 1, ([], .null)), (813, .ifCond .eq 5, 3, ([818], .null)), (816, .iconst 0, 1, ([], .null)), (817, .ireturn, 1, ([1], .null)), (818, .goto 1086, 3, ([1904], .null))]
theorem ls_number : pm_sub lc_number kc_L_law := pm_sub_of (by decide +kernel)
theorem lw_number {X : pm_X} {n : Nat} {xs : Nat → Int32} (h0 : X 0 = (n, xs)) (hX : X 1 = (8, eb)) {d : Nat} {i : Int32} (hi : lw_in i n) {a b e : Option Value} {c k : Nat} {I : st_I} {J : st_J} (h : RR I J) : lw_S X d 698 i a b e c k I J := by
  obtain ⟨q0, q1, q2, q3, q4, q5, q6, q7⟩ := hi
  obtain ⟨I1, J1, kk, cc, ks, e1, n1, n2, I2, J2, v, e2, e3, e4, hR⟩ := s_number (X := X) (d := d + 67) (p1 := (xs (Int32.toNatClampNeg (i + (1 : Int32))))) (p2 := (xs (Int32.toNatClampNeg (i + (2 : Int32))))) (p3 := (xs (Int32.toNatClampNeg (i + (3 : Int32))))) (p4 := ((lw_sh (Int32.toInt64 (xs (Int32.toNatClampNeg (i + (4 : Int32)))))) ||| ((Int32.toInt64 (xs (Int32.toNatClampNeg (i + (5 : Int32))))) &&& (4294967295 : Int64)))) h
  refine ⟨I2, J2, some (.int kk), some (.long v), none, c + cc, k + ks, hR, by omega, by omega, fun r g => ?_⟩
  refine (t_pS ls_number (pc' := 704) (ls' := [some (.retAddr 0), some (.ref 0), some (.ref 166), some (.ref 187), some (.ref 188), some (.int i), a, b, e]) (st' := [.int (i + (1 : Int32)), .retAddr 0, .ref 0]) 5 rfl).mpr ?_
  refine (t_lX (ls_number _ _ rfl) rfl h0).mpr ⟨q1, ?_⟩
  refine (t_pS ls_number (pc' := 710) (ls' := [some (.retAddr 0), some (.ref 0), some (.ref 166), some (.ref 187), some (.ref 188), some (.int i), a, b, e]) (st' := [.int (i + (2 : Int32)), .retAddr 0, .int (xs (Int32.toNatClampNeg (i + (1 : Int32)))), .ref 0]) 4 rfl).mpr ?_
  refine (t_lX (ls_number _ _ rfl) rfl h0).mpr ⟨q2, ?_⟩
  refine (t_pS ls_number (pc' := 716) (ls' := [some (.retAddr 0), some (.ref 0), some (.ref 166), some (.ref 187), some (.ref 188), some (.int i), a, b, e]) (st' := [.int (i + (3 : Int32)), .retAddr 0, .int (xs (Int32.toNatClampNeg (i + (2 : Int32)))), .int (xs (Int32.toNatClampNeg (i + (1 : Int32)))), .ref 0]) 4 rfl).mpr ?_
  refine (t_lX (ls_number _ _ rfl) rfl h0).mpr ⟨q3, ?_⟩
  refine (t_pS ls_number (pc' := 722) (ls' := [some (.retAddr 0), some (.ref 0), some (.ref 166), some (.ref 187), some (.ref 188), some (.int i), a, b, e]) (st' := [.int (i + (4 : Int32)), .retAddr 0, .int (xs (Int32.toNatClampNeg (i + (3 : Int32)))), .int (xs (Int32.toNatClampNeg (i + (2 : Int32)))), .int (xs (Int32.toNatClampNeg (i + (1 : Int32)))), .ref 0]) 4 rfl).mpr ?_
  refine (t_lX (ls_number _ _ rfl) rfl h0).mpr ⟨q4, ?_⟩
  refine (t_pS ls_number (pc' := 732) (ls' := [some (.retAddr 0), some (.ref 0), some (.ref 166), some (.ref 187), some (.ref 188), some (.int i), a, b, e]) (st' := [.int (i + (5 : Int32)), .retAddr 0, .long (lw_sh (Int32.toInt64 (xs (Int32.toNatClampNeg (i + (4 : Int32)))))), .int (xs (Int32.toNatClampNeg (i + (3 : Int32)))), .int (xs (Int32.toNatClampNeg (i + (2 : Int32)))), .int (xs (Int32.toNatClampNeg (i + (1 : Int32)))), .ref 0]) 7 rfl).mpr ?_
  refine (t_lX (ls_number _ _ rfl) rfl h0).mpr ⟨q5, ?_⟩
  refine (t_pS ls_number (pc' := 740) (ls' := [some (.retAddr 0), some (.ref 0), some (.ref 166), some (.ref 187), some (.ref 188), some (.int i), a, b, e]) (st' := [.ref 187, .long ((lw_sh (Int32.toInt64 (xs (Int32.toNatClampNeg (i + (4 : Int32)))))) ||| ((Int32.toInt64 (xs (Int32.toNatClampNeg (i + (5 : Int32))))) &&& (4294967295 : Int64))), .int (xs (Int32.toNatClampNeg (i + (3 : Int32)))), .int (xs (Int32.toNatClampNeg (i + (2 : Int32)))), .int (xs (Int32.toNatClampNeg (i + (1 : Int32)))), .ref 0]) 5 rfl).mpr ?_
  refine (t_cS (ls_number _ _ rfl) rfl rfl (Ex_of e1)).mpr ?_
  show Gx X (d + 72) (kc_L_law, []) (743, [some (.retAddr 0), some (.ref 0), some (.ref 166), some (.ref 187), some (.ref 188), some (.int i), a, b, e], [.int kk], st_h I1 J1, c + cc, k + ks) r
  refine (t_pS ls_number (pc' := 751) (ls' := [some (.retAddr 0), some (.ref 0), some (.ref 166), some (.ref 187), some (.ref 188), some (.int i), some (.int kk), b, e]) (st' := [.int (i + (1 : Int32)), .retAddr 0, .ref 166]) 6 rfl).mpr ?_
  refine (t_lX (ls_number _ _ rfl) rfl h0).mpr ⟨q1, ?_⟩
  refine (t_pS ls_number (pc' := 757) (ls' := [some (.retAddr 0), some (.ref 0), some (.ref 166), some (.ref 187), some (.ref 188), some (.int i), some (.int kk), b, e]) (st' := [.int (i + (2 : Int32)), .retAddr 0, .int (xs (Int32.toNatClampNeg (i + (1 : Int32)))), .ref 166]) 4 rfl).mpr ?_
  refine (t_lX (ls_number _ _ rfl) rfl h0).mpr ⟨q2, ?_⟩
  refine (t_pS ls_number (pc' := 763) (ls' := [some (.retAddr 0), some (.ref 0), some (.ref 166), some (.ref 187), some (.ref 188), some (.int i), some (.int kk), b, e]) (st' := [.int (i + (3 : Int32)), .retAddr 0, .int (xs (Int32.toNatClampNeg (i + (2 : Int32)))), .int (xs (Int32.toNatClampNeg (i + (1 : Int32)))), .ref 166]) 4 rfl).mpr ?_
  refine (t_lX (ls_number _ _ rfl) rfl h0).mpr ⟨q3, ?_⟩
  refine (t_pS ls_number (pc' := 769) (ls' := [some (.retAddr 0), some (.ref 0), some (.ref 166), some (.ref 187), some (.ref 188), some (.int i), some (.int kk), b, e]) (st' := [.int (i + (4 : Int32)), .retAddr 0, .int (xs (Int32.toNatClampNeg (i + (3 : Int32)))), .int (xs (Int32.toNatClampNeg (i + (2 : Int32)))), .int (xs (Int32.toNatClampNeg (i + (1 : Int32)))), .ref 166]) 4 rfl).mpr ?_
  refine (t_lX (ls_number _ _ rfl) rfl h0).mpr ⟨q4, ?_⟩
  refine (t_pS ls_number (pc' := 779) (ls' := [some (.retAddr 0), some (.ref 0), some (.ref 166), some (.ref 187), some (.ref 188), some (.int i), some (.int kk), b, e]) (st' := [.int (i + (5 : Int32)), .retAddr 0, .long (lw_sh (Int32.toInt64 (xs (Int32.toNatClampNeg (i + (4 : Int32)))))), .int (xs (Int32.toNatClampNeg (i + (3 : Int32)))), .int (xs (Int32.toNatClampNeg (i + (2 : Int32)))), .int (xs (Int32.toNatClampNeg (i + (1 : Int32)))), .ref 166]) 7 rfl).mpr ?_
  refine (t_lX (ls_number _ _ rfl) rfl h0).mpr ⟨q5, ?_⟩
  refine (t_pS ls_number (pc' := 786) (ls' := [some (.retAddr 0), some (.ref 0), some (.ref 166), some (.ref 187), some (.ref 188), some (.int i), some (.int kk), b, e]) (st' := [.long ((lw_sh (Int32.toInt64 (xs (Int32.toNatClampNeg (i + (4 : Int32)))))) ||| ((Int32.toInt64 (xs (Int32.toNatClampNeg (i + (5 : Int32))))) &&& (4294967295 : Int64))), .int (xs (Int32.toNatClampNeg (i + (3 : Int32)))), .int (xs (Int32.toNatClampNeg (i + (2 : Int32)))), .int (xs (Int32.toNatClampNeg (i + (1 : Int32)))), .ref 166]) 4 rfl).mpr ?_
  refine (t_cV (ls_number _ _ rfl) rfl rfl rfl (Ex_of e2)).mpr ?_
  show Gx X (d + 72) (kc_L_law, []) (789, [some (.retAddr 0), some (.ref 0), some (.ref 166), some (.ref 187), some (.ref 188), some (.int i), some (.int kk), b, e], [.long v], st_h I2 J2, c + cc, k + ks) r
  refine (t_pS ls_number (pc' := 792) (ls' := [some (.retAddr 0), some (.ref 0), some (.ref 166), some (.ref 187), some (.ref 188), some (.int i), some (.int kk), some (.long v), none]) (st' := [.ref 166]) 2 rfl).mpr ?_
  refine (t_cV (ls_number _ _ rfl) rfl rfl rfl (ev_M_thrown (d := d + 71))).mpr ?_
  show Gx X (d + 72) (kc_L_law, []) (795, [some (.retAddr 0), some (.ref 0), some (.ref 166), some (.ref 187), some (.ref 188), some (.int i), some (.int kk), some (.long v), none], [.int (I2 166 10)], st_h I2 J2, c + cc, k + ks) r
  refine (t_pS ls_number (pc' := 797) (ls' := [some (.retAddr 0), some (.ref 0), some (.ref 166), some (.ref 187), some (.ref 188), some (.int i), some (.int kk), some (.long v), none]) (st' := [.int kk, .int (I2 166 10)]) 1 rfl).mpr ?_
  refine (t_ieq (ls_number _ _ rfl)).mpr ?_
  rw [if_pos e3]
  refine (t_pS ls_number (pc' := 804) (ls' := [some (.retAddr 0), some (.ref 0), some (.ref 166), some (.ref 187), some (.ref 188), some (.int i), some (.int kk), some (.long v), none]) (st' := [.int kk]) 1 rfl).mpr ?_
  refine (t_fne (ls_number _ _ rfl)).mpr ?_
  by_cases hk : kk = 0
  rotate_left
  · rw [if_neg hk]
    refine (t_pS ls_number (pc' := 1904) (ls' := [some (.retAddr 0), some (.ref 0), some (.ref 166), some (.ref 187), some (.ref 188), some (.int i), some (.int kk), some (.long v), none]) (st' := []) 1 rfl).mpr ?_
    exact g
  rw [if_pos hk]
  refine (t_pS ls_number (pc' := 809) (ls' := [some (.retAddr 0), some (.ref 0), some (.ref 166), some (.ref 187), some (.ref 188), some (.int i), some (.int kk), some (.long v), none]) (st' := [.int (0 : Int32), .ref 187]) 2 rfl).mpr ?_
  refine (t_lJ (ls_number _ _ rfl) rfl).mpr ⟨rfl, ?_⟩
  refine (t_pS ls_number (pc' := 813) (ls' := [some (.retAddr 0), some (.ref 0), some (.ref 166), some (.ref 187), some (.ref 188), some (.int i), some (.int kk), some (.long v), none]) (st' := [.int (lg_cmp (J2 187 0) v)]) 2 rfl).mpr ?_
  refine (t_Leq (ls_number _ _ rfl)).mpr ?_
  rw [if_pos (e4 hk)]
  refine (t_pS ls_number (pc' := 1904) (ls' := [some (.retAddr 0), some (.ref 0), some (.ref 166), some (.ref 187), some (.ref 188), some (.int i), some (.int kk), some (.long v), none]) (st' := []) 1 rfl).mpr ?_
  exact g
def lc_real : List (Nat × Instr × Nat × pm_L) := [(821, .aload_n 1, 1, ([], .null)), (822, .aload_n 0, 1, ([], .null)), (823, .iload 5, 2, ([], .null)), (825, .iconst 1, 1, ([], .null)), (826, .iadd, 1, ([], .null)), (827, .iaload, 1, ([], .null)), (828, .aload_n 0, 1, ([], .null)), (829, .iload 5, 2, ([], .null)), (831, .iconst 2, 1, ([], .null)), (832, .iadd, 1, ([], .null)), (833, .iaload, 1, ([], .null)), (834, .ifCond .eq 7, 3, ([841], .null)), (837, .iconst 1, 1, ([], .null)), (838, .goto 4, 3, ([842], .null)), (841, .iconst 0, 1, ([], .null)), (842, .aload_n 0, 1, ([], .null)), (843, .iload 5, 2, ([], .null)), (845, .iconst 3, 1, ([], .null)), (846, .iadd, 1, ([], .null)), (847, .iaload, 1, ([], .null)), (848, .aload 4, 2, ([], .null)), (850, .invokestatic 141, 3, ([73, 5, 0, 0], .null)), (853, .istore 6, 2, ([], .null)), (855, .aload_n 2, 1, ([], .null)), (856, .aload_n 0, 1, ([], .null)), (857, .iload 5, 2, ([], .null)), (859, .iconst 1, 1, ([], .null)), (860, .iadd, 1, ([], .null)), (861, .iaload, 1, ([], .null)), (862, .aload_n 0, 1, ([], .null)), (863, .iload 5, 2, ([], .null)), (865, .iconst 2, 1, ([], .null)), (866, .iadd, 1, ([], .null)), (867, .iaload, 1, ([], .null)), (868, .ifCond .eq 7, 3, ([875], .null)), (871, .iconst 1, 1, ([], .null)), (872, .goto 4, 3, ([876], .null)), (875, .iconst 0, 1, ([], .null)), (876, .aload_n 0, 1, ([], .null)), (877, .iload 5, 2, ([], .null)), (879, .iconst 3, 1, ([], .null)), (880, .iadd, 1, ([], .null)), (881, .iaload, 1, ([], .null)), (882, .invokevirtual 144, 3, ([202, 4, 0, 10], .null)), (885, .dstore 7, 2, ([], .null)), (887, .aload_n 2, 1, ([], .null)), (888, .invokevirtual 110, 3, ([169, 1, 0, 10], .null)), (891, .iload 6, 2, ([], .null)), (893, .if_icmp .eq 5, 3, ([898], .null)), (896, .iconst 0, 1, ([], .null)), (897, .ireturn, 1, ([1], .null)), (898, .iload 6, 2, ([], .null)), (900, .ifCond .ne 35, 3, ([935], .null)), (903, .aload 4, 2, ([], .null)), (905, .iconst 0, 1, ([], .null)), (906, .daload, 1, ([], .null)), (907, .dload 7, 2, ([], .null)), (909, .dcmp .l, 1, ([], .null)), (910, .ifCond .eq 25, 3, ([935], .null)), (913, .aload 4, 2, ([], .null)), (915, .iconst 0, 1, ([], .null)), (916, .daload, 1, ([], .null)), (917, .aload 4, 2, ([], .null)), (919, .iconst 0, 1, ([], .null)), (920, .daload, 1, ([], .null)), (921, .dcmp .l, 1, ([], .null)), (922, .ifCond .eq 11, 3, ([933], .null)), (925, .dload 7, 2, ([], .null)), (927, .dload 7, 2, ([], .null)), (929, .dcmp .l, 1, ([], .null)), (930, .ifCond .ne 5, 3, ([935], .null)), (933, .iconst 0, 1, ([], .null)), (934, .ireturn, 1, ([1], .null)), (935, .goto 969, 3, ([1904], .null))]
theorem ls_real : pm_sub lc_real kc_L_law := pm_sub_of (by decide +kernel)
theorem lw_real {X : pm_X} {n : Nat} {xs : Nat → Int32} (h0 : X 0 = (n, xs)) (hX : X 1 = (8, eb)) {d : Nat} {i : Int32} (hi : lw_in i n) {a b e : Option Value} {c k : Nat} {I : st_I} {J : st_J} (h : RR I J) : lw_S X d 821 i a b e c k I J := by
  obtain ⟨q0, q1, q2, q3, q4, q5, q6, q7⟩ := hi
  obtain ⟨I1, J1, kk, cc, ks, e1, n1, n2, I2, J2, v, e2, e3, e4, hR⟩ := s_real (X := X) (d := d + 67) (p1 := (xs (Int32.toNatClampNeg (i + (1 : Int32))))) (p2 := (if (xs (Int32.toNatClampNeg (i + (2 : Int32)))) = 0 then (0 : Int32) else (1 : Int32))) (p3 := (xs (Int32.toNatClampNeg (i + (3 : Int32))))) h
  refine ⟨I2, J2, some (.int kk), some (.double v), none, c + cc, k + ks, hR, by omega, by omega, fun r g => ?_⟩
  refine (t_pS ls_real (pc' := 827) (ls' := [some (.retAddr 0), some (.ref 0), some (.ref 166), some (.ref 187), some (.ref 188), some (.int i), a, b, e]) (st' := [.int (i + (1 : Int32)), .retAddr 0, .ref 0]) 5 rfl).mpr ?_
  refine (t_lX (ls_real _ _ rfl) rfl h0).mpr ⟨q1, ?_⟩
  refine (t_pS ls_real (pc' := 833) (ls' := [some (.retAddr 0), some (.ref 0), some (.ref 166), some (.ref 187), some (.ref 188), some (.int i), a, b, e]) (st' := [.int (i + (2 : Int32)), .retAddr 0, .int (xs (Int32.toNatClampNeg (i + (1 : Int32)))), .ref 0]) 4 rfl).mpr ?_
  refine (t_lX (ls_real _ _ rfl) rfl h0).mpr ⟨q2, ?_⟩
  refine (t_feq (ls_real _ _ rfl)).mpr (lw_if (G := (fun y => Gx X (d + 72) (kc_L_law, []) (842, [some (.retAddr 0), some (.ref 0), some (.ref 166), some (.ref 187), some (.ref 188), some (.int i), a, b, e], .int y :: [.int (xs (Int32.toNatClampNeg (i + (1 : Int32)))), .ref 0], st_h I J, c, k) r)) (t_pS ls_real (pc' := 842) (ls' := [some (.retAddr 0), some (.ref 0), some (.ref 166), some (.ref 187), some (.ref 188), some (.int i), a, b, e]) (st' := [.int (0 : Int32), .int (xs (Int32.toNatClampNeg (i + (1 : Int32)))), .ref 0]) 1 rfl).mpr (t_pS ls_real (pc' := 842) (ls' := [some (.retAddr 0), some (.ref 0), some (.ref 166), some (.ref 187), some (.ref 188), some (.int i), a, b, e]) (st' := [.int (1 : Int32), .int (xs (Int32.toNatClampNeg (i + (1 : Int32)))), .ref 0]) 2 rfl).mpr ?_)
  show Gx X (d + 72) (kc_L_law, []) (842, [some (.retAddr 0), some (.ref 0), some (.ref 166), some (.ref 187), some (.ref 188), some (.int i), a, b, e], [.int (if (xs (Int32.toNatClampNeg (i + (2 : Int32)))) = 0 then (0 : Int32) else (1 : Int32)), .int (xs (Int32.toNatClampNeg (i + (1 : Int32)))), .ref 0], st_h I J, c, k) r
  refine (t_pS ls_real (pc' := 847) (ls' := [some (.retAddr 0), some (.ref 0), some (.ref 166), some (.ref 187), some (.ref 188), some (.int i), a, b, e]) (st' := [.int (i + (3 : Int32)), .retAddr 0, .int (if (xs (Int32.toNatClampNeg (i + (2 : Int32)))) = 0 then (0 : Int32) else (1 : Int32)), .int (xs (Int32.toNatClampNeg (i + (1 : Int32)))), .ref 0]) 4 rfl).mpr ?_
  refine (t_lX (ls_real _ _ rfl) rfl h0).mpr ⟨q3, ?_⟩
  refine (t_pS ls_real (pc' := 850) (ls' := [some (.retAddr 0), some (.ref 0), some (.ref 166), some (.ref 187), some (.ref 188), some (.int i), a, b, e]) (st' := [.ref 188, .int (xs (Int32.toNatClampNeg (i + (3 : Int32)))), .int (if (xs (Int32.toNatClampNeg (i + (2 : Int32)))) = 0 then (0 : Int32) else (1 : Int32)), .int (xs (Int32.toNatClampNeg (i + (1 : Int32)))), .ref 0]) 1 rfl).mpr ?_
  refine (t_cS (ls_real _ _ rfl) rfl rfl (Ex_of e1)).mpr ?_
  show Gx X (d + 72) (kc_L_law, []) (853, [some (.retAddr 0), some (.ref 0), some (.ref 166), some (.ref 187), some (.ref 188), some (.int i), a, b, e], [.int kk], st_h I1 J1, c + cc, k + ks) r
  refine (t_pS ls_real (pc' := 861) (ls' := [some (.retAddr 0), some (.ref 0), some (.ref 166), some (.ref 187), some (.ref 188), some (.int i), some (.int kk), b, e]) (st' := [.int (i + (1 : Int32)), .retAddr 0, .ref 166]) 6 rfl).mpr ?_
  refine (t_lX (ls_real _ _ rfl) rfl h0).mpr ⟨q1, ?_⟩
  refine (t_pS ls_real (pc' := 867) (ls' := [some (.retAddr 0), some (.ref 0), some (.ref 166), some (.ref 187), some (.ref 188), some (.int i), some (.int kk), b, e]) (st' := [.int (i + (2 : Int32)), .retAddr 0, .int (xs (Int32.toNatClampNeg (i + (1 : Int32)))), .ref 166]) 4 rfl).mpr ?_
  refine (t_lX (ls_real _ _ rfl) rfl h0).mpr ⟨q2, ?_⟩
  refine (t_feq (ls_real _ _ rfl)).mpr (lw_if (G := (fun y => Gx X (d + 72) (kc_L_law, []) (876, [some (.retAddr 0), some (.ref 0), some (.ref 166), some (.ref 187), some (.ref 188), some (.int i), some (.int kk), b, e], .int y :: [.int (xs (Int32.toNatClampNeg (i + (1 : Int32)))), .ref 166], st_h I1 J1, c + cc, k + ks) r)) (t_pS ls_real (pc' := 876) (ls' := [some (.retAddr 0), some (.ref 0), some (.ref 166), some (.ref 187), some (.ref 188), some (.int i), some (.int kk), b, e]) (st' := [.int (0 : Int32), .int (xs (Int32.toNatClampNeg (i + (1 : Int32)))), .ref 166]) 1 rfl).mpr (t_pS ls_real (pc' := 876) (ls' := [some (.retAddr 0), some (.ref 0), some (.ref 166), some (.ref 187), some (.ref 188), some (.int i), some (.int kk), b, e]) (st' := [.int (1 : Int32), .int (xs (Int32.toNatClampNeg (i + (1 : Int32)))), .ref 166]) 2 rfl).mpr ?_)
  show Gx X (d + 72) (kc_L_law, []) (876, [some (.retAddr 0), some (.ref 0), some (.ref 166), some (.ref 187), some (.ref 188), some (.int i), some (.int kk), b, e], [.int (if (xs (Int32.toNatClampNeg (i + (2 : Int32)))) = 0 then (0 : Int32) else (1 : Int32)), .int (xs (Int32.toNatClampNeg (i + (1 : Int32)))), .ref 166], st_h I1 J1, c + cc, k + ks) r
  refine (t_pS ls_real (pc' := 881) (ls' := [some (.retAddr 0), some (.ref 0), some (.ref 166), some (.ref 187), some (.ref 188), some (.int i), some (.int kk), b, e]) (st' := [.int (i + (3 : Int32)), .retAddr 0, .int (if (xs (Int32.toNatClampNeg (i + (2 : Int32)))) = 0 then (0 : Int32) else (1 : Int32)), .int (xs (Int32.toNatClampNeg (i + (1 : Int32)))), .ref 166]) 4 rfl).mpr ?_
  refine (t_lX (ls_real _ _ rfl) rfl h0).mpr ⟨q3, ?_⟩
  refine (t_cV (ls_real _ _ rfl) rfl rfl rfl (Ex_of e2)).mpr ?_
  show Gx X (d + 72) (kc_L_law, []) (885, [some (.retAddr 0), some (.ref 0), some (.ref 166), some (.ref 187), some (.ref 188), some (.int i), some (.int kk), b, e], [.double v], st_h I2 J2, c + cc, k + ks) r
  refine (t_pS ls_real (pc' := 888) (ls' := [some (.retAddr 0), some (.ref 0), some (.ref 166), some (.ref 187), some (.ref 188), some (.int i), some (.int kk), some (.double v), none]) (st' := [.ref 166]) 2 rfl).mpr ?_
  refine (t_cV (ls_real _ _ rfl) rfl rfl rfl (ev_M_thrown (d := d + 71))).mpr ?_
  show Gx X (d + 72) (kc_L_law, []) (891, [some (.retAddr 0), some (.ref 0), some (.ref 166), some (.ref 187), some (.ref 188), some (.int i), some (.int kk), some (.double v), none], [.int (I2 166 10)], st_h I2 J2, c + cc, k + ks) r
  refine (t_pS ls_real (pc' := 893) (ls' := [some (.retAddr 0), some (.ref 0), some (.ref 166), some (.ref 187), some (.ref 188), some (.int i), some (.int kk), some (.double v), none]) (st' := [.int kk, .int (I2 166 10)]) 1 rfl).mpr ?_
  refine (t_ieq (ls_real _ _ rfl)).mpr ?_
  rw [if_pos e3]
  refine (t_pS ls_real (pc' := 900) (ls' := [some (.retAddr 0), some (.ref 0), some (.ref 166), some (.ref 187), some (.ref 188), some (.int i), some (.int kk), some (.double v), none]) (st' := [.int kk]) 1 rfl).mpr ?_
  refine (t_fne (ls_real _ _ rfl)).mpr ?_
  by_cases hk : kk = 0
  rotate_left
  · rw [if_neg hk]
    refine (t_pS ls_real (pc' := 1904) (ls' := [some (.retAddr 0), some (.ref 0), some (.ref 166), some (.ref 187), some (.ref 188), some (.int i), some (.int kk), some (.double v), none]) (st' := []) 1 rfl).mpr ?_
    exact g
  rw [if_pos hk]
  have e5 : (J2 188 0).toUInt64 = v := by rw [e4 hk]; exact UInt64.toUInt64_toInt64 v
  refine (t_pS ls_real (pc' := 906) (ls' := [some (.retAddr 0), some (.ref 0), some (.ref 166), some (.ref 187), some (.ref 188), some (.int i), some (.int kk), some (.double v), none]) (st' := [.int (0 : Int32), .ref 188]) 2 rfl).mpr ?_
  refine (t_lD (ls_real _ _ rfl)).mpr ⟨rfl, ?_⟩
  refine (t_pS ls_real (pc' := 910) (ls' := [some (.retAddr 0), some (.ref 0), some (.ref 166), some (.ref 187), some (.ref 188), some (.int i), some (.int kk), some (.double v), none]) (st' := [.int (Op.cmpValue (FP.dcmp (J2 188 0).toUInt64 v) .l)]) 2 rfl).mpr ?_
  refine (t_feq (ls_real _ _ rfl)).mpr ?_
  rw [e5]
  by_cases hz : Op.cmpValue (FP.dcmp v v) .l = 0
  · rw [if_pos hz]
    refine (t_pS ls_real (pc' := 1904) (ls' := [some (.retAddr 0), some (.ref 0), some (.ref 166), some (.ref 187), some (.ref 188), some (.int i), some (.int kk), some (.double v), none]) (st' := []) 1 rfl).mpr ?_
    exact g
  rw [if_neg hz]
  refine (t_pS ls_real (pc' := 916) (ls' := [some (.retAddr 0), some (.ref 0), some (.ref 166), some (.ref 187), some (.ref 188), some (.int i), some (.int kk), some (.double v), none]) (st' := [.int (0 : Int32), .ref 188]) 2 rfl).mpr ?_
  refine (t_lD (ls_real _ _ rfl)).mpr ⟨rfl, ?_⟩
  refine (t_pS ls_real (pc' := 920) (ls' := [some (.retAddr 0), some (.ref 0), some (.ref 166), some (.ref 187), some (.ref 188), some (.int i), some (.int kk), some (.double v), none]) (st' := [.int (0 : Int32), .ref 188, .double (J2 188 0).toUInt64]) 2 rfl).mpr ?_
  refine (t_lD (ls_real _ _ rfl)).mpr ⟨rfl, ?_⟩
  refine (t_pS ls_real (pc' := 922) (ls' := [some (.retAddr 0), some (.ref 0), some (.ref 166), some (.ref 187), some (.ref 188), some (.int i), some (.int kk), some (.double v), none]) (st' := [.int (Op.cmpValue (FP.dcmp (J2 188 0).toUInt64 (J2 188 0).toUInt64) .l)]) 1 rfl).mpr ?_
  refine (t_feq (ls_real _ _ rfl)).mpr ?_
  rw [e5, if_neg hz]
  refine (t_pS ls_real (pc' := 930) (ls' := [some (.retAddr 0), some (.ref 0), some (.ref 166), some (.ref 187), some (.ref 188), some (.int i), some (.int kk), some (.double v), none]) (st' := [.int (Op.cmpValue (FP.dcmp v v) .l)]) 3 rfl).mpr ?_
  refine (t_fne (ls_real _ _ rfl)).mpr ?_
  rw [if_neg hz]
  refine (t_pS ls_real (pc' := 1904) (ls' := [some (.retAddr 0), some (.ref 0), some (.ref 166), some (.ref 187), some (.ref 188), some (.int i), some (.int kk), some (.double v), none]) (st' := []) 1 rfl).mpr ?_
  exact g
def lc_item : List (Nat × Instr × Nat × pm_L) := [(938, .aload_n 1, 1, ([], .null)), (939, .aload_n 0, 1, ([], .null)), (940, .iload 5, 2, ([], .null)), (942, .iconst 1, 1, ([], .null)), (943, .iadd, 1, ([], .null)), (944, .iaload, 1, ([], .null)), (945, .aload_n 0, 1, ([], .null)), (946, .iload 5, 2, ([], .null)), (948, .iconst 2, 1, ([], .null)), (949, .iadd, 1, ([], .null)), (950, .iaload, 1, ([], .null)), (951, .aload_n 3, 1, ([], .null)), (952, .invokestatic 145, 3, ([85, 4, 0, 0], .null)), (955, .istore 6, 2, ([], .null)), (957, .aload_n 2, 1, ([], .null)), (958, .aload_n 0, 1, ([], .null)), (959, .iload 5, 2, ([], .null)), (961, .iconst 1, 1, ([], .null)), (962, .iadd, 1, ([], .null)), (963, .iaload, 1, ([], .null)), (964, .aload_n 0, 1, ([], .null)), (965, .iload 5, 2, ([], .null)), (967, .iconst 2, 1, ([], .null)), (968, .iadd, 1, ([], .null)), (969, .iaload, 1, ([], .null)), (970, .invokevirtual 147, 3, ([204, 3, 0, 10], .null)), (973, .lstore 7, 2, ([], .null)), (975, .aload_n 2, 1, ([], .null)), (976, .invokevirtual 110, 3, ([169, 1, 0, 10], .null)), (979, .iload 6, 2, ([], .null)), (981, .if_icmp .eq 5, 3, ([986], .null)), (984, .iconst 0, 1, ([], .null)), (985, .ireturn, 1, ([1], .null)), (986, .iload 6, 2, ([], .null)), (988, .ifCond .ne 14, 3, ([1002], .null)), (991, .aload_n 3, 1, ([], .null)), (992, .iconst 0, 1, ([], .null)), (993, .laload, 1, ([], .null)), (994, .lload 7, 2, ([], .null)), (996, .lcmp, 1, ([], .null)), (997, .ifCond .eq 5, 3, ([1002], .null)), (1000, .iconst 0, 1, ([], .null)), (1001, .ireturn, 1, ([1], .null)), (1002, .goto 902, 3, ([1904], .null))]
theorem ls_item : pm_sub lc_item kc_L_law := pm_sub_of (by decide +kernel)
theorem lw_item {X : pm_X} {n : Nat} {xs : Nat → Int32} (h0 : X 0 = (n, xs)) (hX : X 1 = (8, eb)) {d : Nat} {i : Int32} (hi : lw_in i n) {a b e : Option Value} {c k : Nat} {I : st_I} {J : st_J} (h : RR I J) : lw_S X d 938 i a b e c k I J := by
  obtain ⟨q0, q1, q2, q3, q4, q5, q6, q7⟩ := hi
  obtain ⟨I1, J1, kk, cc, ks, e1, n1, n2, I2, J2, v, e2, e3, e4, hR⟩ := s_item (X := X) hX (d := d + 68) (p1 := (xs (Int32.toNatClampNeg (i + (1 : Int32))))) (p2 := (xs (Int32.toNatClampNeg (i + (2 : Int32))))) h
  refine ⟨I2, J2, some (.int kk), some (.long v), none, c + cc, k + ks, hR, by omega, by omega, fun r g => ?_⟩
  refine (t_pS ls_item (pc' := 944) (ls' := [some (.retAddr 0), some (.ref 0), some (.ref 166), some (.ref 187), some (.ref 188), some (.int i), a, b, e]) (st' := [.int (i + (1 : Int32)), .retAddr 0, .ref 0]) 5 rfl).mpr ?_
  refine (t_lX (ls_item _ _ rfl) rfl h0).mpr ⟨q1, ?_⟩
  refine (t_pS ls_item (pc' := 950) (ls' := [some (.retAddr 0), some (.ref 0), some (.ref 166), some (.ref 187), some (.ref 188), some (.int i), a, b, e]) (st' := [.int (i + (2 : Int32)), .retAddr 0, .int (xs (Int32.toNatClampNeg (i + (1 : Int32)))), .ref 0]) 4 rfl).mpr ?_
  refine (t_lX (ls_item _ _ rfl) rfl h0).mpr ⟨q2, ?_⟩
  refine (t_pS ls_item (pc' := 952) (ls' := [some (.retAddr 0), some (.ref 0), some (.ref 166), some (.ref 187), some (.ref 188), some (.int i), a, b, e]) (st' := [.ref 187, .int (xs (Int32.toNatClampNeg (i + (2 : Int32)))), .int (xs (Int32.toNatClampNeg (i + (1 : Int32)))), .ref 0]) 1 rfl).mpr ?_
  refine (t_cS (ls_item _ _ rfl) rfl rfl (Ex_of e1)).mpr ?_
  show Gx X (d + 72) (kc_L_law, []) (955, [some (.retAddr 0), some (.ref 0), some (.ref 166), some (.ref 187), some (.ref 188), some (.int i), a, b, e], [.int kk], st_h I1 J1, c + cc, k + ks) r
  refine (t_pS ls_item (pc' := 963) (ls' := [some (.retAddr 0), some (.ref 0), some (.ref 166), some (.ref 187), some (.ref 188), some (.int i), some (.int kk), b, e]) (st' := [.int (i + (1 : Int32)), .retAddr 0, .ref 166]) 6 rfl).mpr ?_
  refine (t_lX (ls_item _ _ rfl) rfl h0).mpr ⟨q1, ?_⟩
  refine (t_pS ls_item (pc' := 969) (ls' := [some (.retAddr 0), some (.ref 0), some (.ref 166), some (.ref 187), some (.ref 188), some (.int i), some (.int kk), b, e]) (st' := [.int (i + (2 : Int32)), .retAddr 0, .int (xs (Int32.toNatClampNeg (i + (1 : Int32)))), .ref 166]) 4 rfl).mpr ?_
  refine (t_lX (ls_item _ _ rfl) rfl h0).mpr ⟨q2, ?_⟩
  refine (t_cV (ls_item _ _ rfl) rfl rfl rfl (Ex_of e2)).mpr ?_
  show Gx X (d + 72) (kc_L_law, []) (973, [some (.retAddr 0), some (.ref 0), some (.ref 166), some (.ref 187), some (.ref 188), some (.int i), some (.int kk), b, e], [.long v], st_h I2 J2, c + cc, k + ks) r
  refine (t_pS ls_item (pc' := 976) (ls' := [some (.retAddr 0), some (.ref 0), some (.ref 166), some (.ref 187), some (.ref 188), some (.int i), some (.int kk), some (.long v), none]) (st' := [.ref 166]) 2 rfl).mpr ?_
  refine (t_cV (ls_item _ _ rfl) rfl rfl rfl (ev_M_thrown (d := d + 71))).mpr ?_
  show Gx X (d + 72) (kc_L_law, []) (979, [some (.retAddr 0), some (.ref 0), some (.ref 166), some (.ref 187), some (.ref 188), some (.int i), some (.int kk), some (.long v), none], [.int (I2 166 10)], st_h I2 J2, c + cc, k + ks) r
  refine (t_pS ls_item (pc' := 981) (ls' := [some (.retAddr 0), some (.ref 0), some (.ref 166), some (.ref 187), some (.ref 188), some (.int i), some (.int kk), some (.long v), none]) (st' := [.int kk, .int (I2 166 10)]) 1 rfl).mpr ?_
  refine (t_ieq (ls_item _ _ rfl)).mpr ?_
  rw [if_pos e3]
  refine (t_pS ls_item (pc' := 988) (ls' := [some (.retAddr 0), some (.ref 0), some (.ref 166), some (.ref 187), some (.ref 188), some (.int i), some (.int kk), some (.long v), none]) (st' := [.int kk]) 1 rfl).mpr ?_
  refine (t_fne (ls_item _ _ rfl)).mpr ?_
  by_cases hk : kk = 0
  rotate_left
  · rw [if_neg hk]
    refine (t_pS ls_item (pc' := 1904) (ls' := [some (.retAddr 0), some (.ref 0), some (.ref 166), some (.ref 187), some (.ref 188), some (.int i), some (.int kk), some (.long v), none]) (st' := []) 1 rfl).mpr ?_
    exact g
  rw [if_pos hk]
  refine (t_pS ls_item (pc' := 993) (ls' := [some (.retAddr 0), some (.ref 0), some (.ref 166), some (.ref 187), some (.ref 188), some (.int i), some (.int kk), some (.long v), none]) (st' := [.int (0 : Int32), .ref 187]) 2 rfl).mpr ?_
  refine (t_lJ (ls_item _ _ rfl) rfl).mpr ⟨rfl, ?_⟩
  refine (t_pS ls_item (pc' := 997) (ls' := [some (.retAddr 0), some (.ref 0), some (.ref 166), some (.ref 187), some (.ref 188), some (.int i), some (.int kk), some (.long v), none]) (st' := [.int (lg_cmp (J2 187 0) v)]) 2 rfl).mpr ?_
  refine (t_Leq (ls_item _ _ rfl)).mpr ?_
  rw [if_pos (e4 hk)]
  refine (t_pS ls_item (pc' := 1904) (ls' := [some (.retAddr 0), some (.ref 0), some (.ref 166), some (.ref 187), some (.ref 188), some (.int i), some (.int kk), some (.long v), none]) (st' := []) 1 rfl).mpr ?_
  exact g
