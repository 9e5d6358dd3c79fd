/-! THE LAW'S LOOP: one call, by its number -/
/-- a piece of a method's code -/
def pm_sub (a b : List (Nat × Instr × Nat × pm_L)) : Prop := ∀ pc v, pm_look a pc = some v → pm_look b pc = some v
theorem pm_sub_of {b : List (Nat × Instr × Nat × pm_L)} : ∀ {a : List (Nat × Instr × Nat × pm_L)}, a.all (fun q => decide (pm_look b q.1 = some q.2)) = true → pm_sub a b
  | [], _, _, _, h => by cases h
  | (k, w) :: a, h, pc, v, hv => by
    rw [List.all_cons, Bool.and_eq_true] at h
    have hv : (bif Nat.beq k pc then some w else pm_look a pc) = some v := hv
    cases hb : Nat.beq k pc with
    | true =>
      rw [hb] at hv
      cases hv
      cases Nat.eq_of_beq_eq_true hb
      exact of_decide_eq_true h.1
    | false =>
      rw [hb] at hv
      exact pm_sub_of h.2 pc v hv
theorem pm_pu_sub {a b : List (Nat × Instr × Nat × pm_L)} (hs : pm_sub a b) : ∀ (n pc : Nat) (ls : pm_V) (st : List Value) (s' : Nat × pm_V × List Value), pm_pu a n pc ls st = some s' → pm_pu b n pc ls st = some s'
  | 0, _, _, _, _, h => h
  | n + 1, pc, ls, st, s', h => by
    unfold pm_pu at h ⊢
    split at h
    · rename_i i len L hl
      rw [hs _ _ hl]
      dsimp only
      split at h
      · rename_i pc' ls' st' h1
        exact pm_pu_sub hs n _ _ _ _ h
      · cases h
    · cases h
theorem t_pS {X : pm_X} {d : Nat} {co lc : List (Nat × Instr × Nat × pm_L)} {tb : List (Nat × Nat × Nat × Nat × Nat)} {pc : Nat} {ls : pm_V} {st : List Value} {h : pm_H} {c k : Nat} {r : pm_R} (hs : pm_sub lc co) (n : Nat) {pc' : Nat} {ls' : pm_V} {st' : List Value} (hp : pm_pu lc n pc ls st = some (pc', ls', st')) : Gx X d (co, tb) (pc, ls, st, h, c, k) r ↔ Gx X d (co, tb) (pc', ls', st', h, c, k) r := t_p (M := (co, tb)) n (pm_pu_sub hs n pc ls st _ hp)
theorem t_dm {X : pm_X} {d : Nat} {M : pm_M} {pc : Nat} {ls : pm_V} {st : List Value} {h : pm_H} {c k : Nat} {r : pm_R} {L : pm_L} {x y : UInt64} (hl : pm_look M.1 pc = some (.dmul, 1, L)) (hn : pm_n64 (FP.dmul x y) = true) : Gx X d M (pc, ls, .double y :: .double x :: st, h, c, k) r ↔ Gx X d M (pc + 1, ls, .double (FP.dmul x y) :: st, h, c, k) r := by
  refine t_step hl (Or.inl rfl) ?_
  show pm_on pc 1 ls h c k (bif pm_n64 (FP.dmul x y) then some (Value.double (FP.dmul x y) :: st) else none) = _
  rw [hn]
  rfl
theorem lw_if {p : Prop} {_ : Decidable p} {A B : Prop} {G : Int32 → Prop} {u v : Int32} (hA : G u → A) (hB : G v → B) (h : G (if p then u else v)) : if p then A else B := by
  by_cases hp : p
  · rw [if_pos hp] at h ⊢; exact hA h
  · rw [if_neg hp] at h ⊢; exact hB h
def lw_sh (x : Int64) : Int64 := x <<< ((32 : Int32).toInt64 &&& 63)
def lw_in (i : Int32) (n : Nat) : Prop := pm_in i n = true ∧ pm_in (i + (1 : Int32)) n = true ∧ pm_in (i + (2 : Int32)) n = true ∧ pm_in (i + (3 : Int32)) n = true ∧ pm_in (i + (4 : Int32)) n = true ∧ pm_in (i + (5 : Int32)) n = true ∧ pm_in (i + (6 : Int32)) n = true ∧ pm_in (i + (7 : Int32)) n = true
/-- from the case's first place to the loop's step -/
def lw_S (X : pm_X) (d pc : Nat) (i : Int32) (a b e : Option Value) (c k : Nat) (I : st_I) (J : st_J) : Prop := ∃ (I' : st_I) (J' : st_J) (a' b' e' : Option Value) (c' k' : Nat), RR I' J' ∧ c' ≤ c + 1 ∧ k' ≤ k + 6 ∧ ∀ r, Gx X (d + 72) (kc_L_law, []) (1904, [some (.retAddr 0), some (.ref 0), some (.ref 166), some (.ref 187), some (.ref 188), some (.int i), a', b', e'], [], st_h I' J', c', k') r → Gx X (d + 72) (kc_L_law, []) (pc, [some (.retAddr 0), some (.ref 0), some (.ref 166), some (.ref 187), some (.ref 188), some (.int i), a, b, e], [], st_h I J, c, k) r
def lc_segment : List (Nat × Instr × Nat × pm_L) := [(152, .aload_n 1, 1, ([], .null)), (153, .aload_n 0, 1, ([], .null)), (154, .iload 5, 2, ([], .null)), (156, .iconst 1, 1, ([], .null)), (157, .iadd, 1, ([], .null)), (158, .iaload, 1, ([], .null)), (159, .aload_n 0, 1, ([], .null)), (160, .iload 5, 2, ([], .null)), (162, .iconst 2, 1, ([], .null)), (163, .iadd, 1, ([], .null)), (164, .iaload, 1, ([], .null)), (165, .aload_n 0, 1, ([], .null)), (166, .iload 5, 2, ([], .null)), (168, .iconst 3, 1, ([], .null)), (169, .iadd, 1, ([], .null)), (170, .iaload, 1, ([], .null)), (171, .aload_n 0, 1, ([], .null)), (172, .iload 5, 2, ([], .null)), (174, .iconst 4, 1, ([], .null)), (175, .iadd, 1, ([], .null)), (176, .iaload, 1, ([], .null)), (177, .aload_n 0, 1, ([], .null)), (178, .iload 5, 2, ([], .null)), (180, .iconst 5, 1, ([], .null)), (181, .iadd, 1, ([], .null)), (182, .iaload, 1, ([], .null)), (183, .invokestatic 104, 3, ([10, 6, 0, 0], .null)), (186, .istore 6, 2, ([], .null)), (188, .aload_n 2, 1, ([], .null)), (189, .aload_n 0, 1, ([], .null)), (190, .iload 5, 2, ([], .null)), (192, .iconst 1, 1, ([], .null)), (193, .iadd, 1, ([], .null)), (194, .iaload, 1, ([], .null)), (195, .aload_n 0, 1, ([], .null)), (196, .iload 5, 2, ([], .null)), (198, .iconst 2, 1, ([], .null)), (199, .iadd, 1, ([], .null)), (200, .iaload, 1, ([], .null)), (201, .aload_n 0, 1, ([], .null)), (202, .iload 5, 2, ([], .null)), (204, .iconst 3, 1, ([], .null)), (205, .iadd, 1, ([], .null)), (206, .iaload, 1, ([], .null)), (207, .aload_n 0, 1, ([], .null)), (208, .iload 5, 2, ([], .null)), (210, .iconst 4, 1, ([], .null)), (211, .iadd, 1, ([], .null)), (212, .iaload, 1, ([], .null)), (213, .aload_n 0, 1, ([], .null)), (214, .iload 5, 2, ([], .null)), (216, .iconst 5, 1, ([], .null)), (217, .iadd, 1, ([], .null)), (218, .iaload, 1, ([], .null)), (219, .invokevirtual 109, 3, ([170, 6, 0, 10], .null)), (222, .aload_n 2, 1, ([], .null)), (223, .invokevirtual 110, 3, ([169, 1, 0, 10], .null)), (226, .iload 6, 2, ([], .null)), (228, .if_icmp .eq 5, 3, ([233], .null)), (231, .iconst 0, 1, ([], .null)), (232, .ireturn, 1, ([1], .null)), (233, .goto 1671, 3, ([1904], .null))]
theorem ls_segment : pm_sub lc_segment kc_L_law := pm_sub_of (by decide +kernel)
theorem lw_segment {X : pm_X} {n : Nat} {xs : Nat → Int32} (h0 : X 0 = (n, xs)) (hX : X 1 = (8, eb)) {d : Nat} {i : Int32} (hi : lw_in i n) {a b e : Option Value} {c k : Nat} {I : st_I} {J : st_J} (h : RR I J) : lw_S X d 152 i a b e c k I J := by
  obtain ⟨q0, q1, q2, q3, q4, q5, q6, q7⟩ := hi
  obtain ⟨I1, J1, kk, cc, ks, e1, n1, n2, I2, J2, e2, e3, hR⟩ := s_segment (X := X) (d := d + 67) (p1 := (xs (Int32.toNatClampNeg (i + (1 : Int32))))) (p2 := (xs (Int32.toNatClampNeg (i + (2 : Int32))))) (p3 := (xs (Int32.toNatClampNeg (i + (3 : Int32))))) (p4 := (xs (Int32.toNatClampNeg (i + (4 : Int32))))) (p5 := (xs (Int32.toNatClampNeg (i + (5 : Int32))))) h
  refine ⟨I2, J2, some (.int kk), b, e, c + cc, k + ks, hR, by omega, by omega, fun r g => ?_⟩
  refine (t_pS ls_segment (pc' := 158) (ls' := [some (.retAddr 0), some (.ref 0), some (.ref 166), some (.ref 187), some (.ref 188), some (.int i), a, b, e]) (st' := [.int (i + (1 : Int32)), .retAddr 0, .ref 0]) 5 rfl).mpr ?_
  refine (t_lX (ls_segment _ _ rfl) rfl h0).mpr ⟨q1, ?_⟩
  refine (t_pS ls_segment (pc' := 164) (ls' := [some (.retAddr 0), some (.ref 0), some (.ref 166), some (.ref 187), some (.ref 188), some (.int i), a, b, e]) (st' := [.int (i + (2 : Int32)), .retAddr 0, .int (xs (Int32.toNatClampNeg (i + (1 : Int32)))), .ref 0]) 4 rfl).mpr ?_
  refine (t_lX (ls_segment _ _ rfl) rfl h0).mpr ⟨q2, ?_⟩
  refine (t_pS ls_segment (pc' := 170) (ls' := [some (.retAddr 0), some (.ref 0), some (.ref 166), some (.ref 187), some (.ref 188), some (.int i), a, b, e]) (st' := [.int (i + (3 : Int32)), .retAddr 0, .int (xs (Int32.toNatClampNeg (i + (2 : Int32)))), .int (xs (Int32.toNatClampNeg (i + (1 : Int32)))), .ref 0]) 4 rfl).mpr ?_
  refine (t_lX (ls_segment _ _ rfl) rfl h0).mpr ⟨q3, ?_⟩
  refine (t_pS ls_segment (pc' := 176) (ls' := [some (.retAddr 0), some (.ref 0), some (.ref 166), some (.ref 187), some (.ref 188), some (.int i), a, b, e]) (st' := [.int (i + (4 : Int32)), .retAddr 0, .int (xs (Int32.toNatClampNeg (i + (3 : Int32)))), .int (xs (Int32.toNatClampNeg (i + (2 : Int32)))), .int (xs (Int32.toNatClampNeg (i + (1 : Int32)))), .ref 0]) 4 rfl).mpr ?_
  refine (t_lX (ls_segment _ _ rfl) rfl h0).mpr ⟨q4, ?_⟩
  refine (t_pS ls_segment (pc' := 182) (ls' := [some (.retAddr 0), some (.ref 0), some (.ref 166), some (.ref 187), some (.ref 188), some (.int i), a, b, e]) (st' := [.int (i + (5 : Int32)), .retAddr 0, .int (xs (Int32.toNatClampNeg (i + (4 : Int32)))), .int (xs (Int32.toNatClampNeg (i + (3 : Int32)))), .int (xs (Int32.toNatClampNeg (i + (2 : Int32)))), .int (xs (Int32.toNatClampNeg (i + (1 : Int32)))), .ref 0]) 4 rfl).mpr ?_
  refine (t_lX (ls_segment _ _ rfl) rfl h0).mpr ⟨q5, ?_⟩
  refine (t_cS (ls_segment _ _ rfl) rfl rfl (Ex_of e1)).mpr ?_
  show Gx X (d + 72) (kc_L_law, []) (186, [some (.retAddr 0), some (.ref 0), some (.ref 166), some (.ref 187), some (.ref 188), some (.int i), a, b, e], [.int kk], st_h I1 J1, c + cc, k + ks) r
  refine (t_pS ls_segment (pc' := 194) (ls' := [some (.retAddr 0), some (.ref 0), some (.ref 166), some (.ref 187), some (.ref 188), some (.int i), some (.int kk), b, e]) (st' := [.int (i + (1 : Int32)), .retAddr 0, .ref 166]) 6 rfl).mpr ?_
  refine (t_lX (ls_segment _ _ rfl) rfl h0).mpr ⟨q1, ?_⟩
  refine (t_pS ls_segment (pc' := 200) (ls' := [some (.retAddr 0), some (.ref 0), some (.ref 166), some (.ref 187), some (.ref 188), some (.int i), some (.int kk), b, e]) (st' := [.int (i + (2 : Int32)), .retAddr 0, .int (xs (Int32.toNatClampNeg (i + (1 : Int32)))), .ref 166]) 4 rfl).mpr ?_
  refine (t_lX (ls_segment _ _ rfl) rfl h0).mpr ⟨q2, ?_⟩
  refine (t_pS ls_segment (pc' := 206) (ls' := [some (.retAddr 0), some (.ref 0), some (.ref 166), some (.ref 187), some (.ref 188), some (.int i), some (.int kk), b, e]) (st' := [.int (i + (3 : Int32)), .retAddr 0, .int (xs (Int32.toNatClampNeg (i + (2 : Int32)))), .int (xs (Int32.toNatClampNeg (i + (1 : Int32)))), .ref 166]) 4 rfl).mpr ?_
  refine (t_lX (ls_segment _ _ rfl) rfl h0).mpr ⟨q3, ?_⟩
  refine (t_pS ls_segment (pc' := 212) (ls' := [some (.retAddr 0), some (.ref 0), some (.ref 166), some (.ref 187), some (.ref 188), some (.int i), some (.int kk), b, e]) (st' := [.int (i + (4 : Int32)), .retAddr 0, .int (xs (Int32.toNatClampNeg (i + (3 : Int32)))), .int (xs (Int32.toNatClampNeg (i + (2 : Int32)))), .int (xs (Int32.toNatClampNeg (i + (1 : Int32)))), .ref 166]) 4 rfl).mpr ?_
  refine (t_lX (ls_segment _ _ rfl) rfl h0).mpr ⟨q4, ?_⟩
  refine (t_pS ls_segment (pc' := 218) (ls' := [some (.retAddr 0), some (.ref 0), some (.ref 166), some (.ref 187), some (.ref 188), some (.int i), some (.int kk), b, e]) (st' := [.int (i + (5 : Int32)), .retAddr 0, .int (xs (Int32.toNatClampNeg (i + (4 : Int32)))), .int (xs (Int32.toNatClampNeg (i + (3 : Int32)))), .int (xs (Int32.toNatClampNeg (i + (2 : Int32)))), .int (xs (Int32.toNatClampNeg (i + (1 : Int32)))), .ref 166]) 4 rfl).mpr ?_
  refine (t_lX (ls_segment _ _ rfl) rfl h0).mpr ⟨q5, ?_⟩
  refine (t_cV (ls_segment _ _ rfl) rfl rfl rfl (Ex_of e2)).mpr ?_
  show Gx X (d + 72) (kc_L_law, []) (222, [some (.retAddr 0), some (.ref 0), some (.ref 166), some (.ref 187), some (.ref 188), some (.int i), some (.int kk), b, e], [], st_h I2 J2, c + cc, k + ks) r
  refine (t_pS ls_segment (pc' := 223) (ls' := [some (.retAddr 0), some (.ref 0), some (.ref 166), some (.ref 187), some (.ref 188), some (.int i), some (.int kk), b, e]) (st' := [.ref 166]) 1 rfl).mpr ?_
  refine (t_cV (ls_segment _ _ rfl) rfl rfl rfl (ev_M_thrown (d := d + 71))).mpr ?_
  show Gx X (d + 72) (kc_L_law, []) (226, [some (.retAddr 0), some (.ref 0), some (.ref 166), some (.ref 187), some (.ref 188), some (.int i), some (.int kk), b, e], [.int (I2 166 10)], st_h I2 J2, c + cc, k + ks) r
  refine (t_pS ls_segment (pc' := 228) (ls' := [some (.retAddr 0), some (.ref 0), some (.ref 166), some (.ref 187), some (.ref 188), some (.int i), some (.int kk), b, e]) (st' := [.int kk, .int (I2 166 10)]) 1 rfl).mpr ?_
  refine (t_ieq (ls_segment _ _ rfl)).mpr ?_
  rw [if_pos e3]
  refine (t_pS ls_segment (pc' := 1904) (ls' := [some (.retAddr 0), some (.ref 0), some (.ref 166), some (.ref 187), some (.ref 188), some (.int i), some (.int kk), b, e]) (st' := []) 1 rfl).mpr ?_
  exact g
def lc_word : List (Nat × Instr × Nat × pm_L) := [(236, .aload_n 1, 1, ([], .null)), (237, .aload_n 0, 1, ([], .null)), (238, .iload 5, 2, ([], .null)), (240, .iconst 1, 1, ([], .null)), (241, .iadd, 1, ([], .null)), (242, .iaload, 1, ([], .null)), (243, .aload_n 0, 1, ([], .null)), (244, .iload 5, 2, ([], .null)), (246, .iconst 2, 1, ([], .null)), (247, .iadd, 1, ([], .null)), (248, .iaload, 1, ([], .null)), (249, .aload_n 0, 1, ([], .null)), (250, .iload 5, 2, ([], .null)), (252, .iconst 3, 1, ([], .null)), (253, .iadd, 1, ([], .null)), (254, .iaload, 1, ([], .null)), (255, .i2l, 1, ([], .null)), (256, .bipush 32, 2, ([], .null)), (258, .lshl, 1, ([], .null)), (259, .aload_n 0, 1, ([], .null)), (260, .iload 5, 2, ([], .null)), (262, .iconst 4, 1, ([], .null)), (263, .iadd, 1, ([], .null)), (264, .iaload, 1, ([], .null)), (265, .i2l, 1, ([], .null)), (266, .ldc2_w 113, 3, ([], .long 4294967295)), (269, .land, 1, ([], .null)), (270, .lor, 1, ([], .null)), (271, .aload_n 3, 1, ([], .null)), (272, .invokestatic 115, 3, ([19, 5, 0, 0], .null)), (275, .istore 6, 2, ([], .null)), (277, .aload_n 2, 1, ([], .null)), (278, .aload_n 0, 1, ([], .null)), (279, .iload 5, 2, ([], .null)), (281, .iconst 1, 1, ([], .null)), (282, .iadd, 1, ([], .null)), (283, .iaload, 1, ([], .null)), (284, .aload_n 0, 1, ([], .null)), (285, .iload 5, 2, ([], .null)), (287, .iconst 2, 1, ([], .null)), (288, .iadd, 1, ([], .null)), (289, .iaload, 1, ([], .null)), (290, .aload_n 0, 1, ([], .null)), (291, .iload 5, 2, ([], .null)), (293, .iconst 3, 1, ([], .null)), (294, .iadd, 1, ([], .null)), (295, .iaload, 1, ([], .null)), (296, .i2l, 1, ([], .null)), (297, .bipush 32, 2, ([], .null)), (299, .lshl, 1, ([], .null)), (300, .aload_n 0, 1, ([], .null)), (301, .iload 5, 2, ([], .null)), (303, .iconst 4, 1, ([], .null)), (304, .iadd, 1, ([], .null)), (305, .iaload, 1, ([], .null)), (306, .i2l, 1, ([], .null)), (307, .ldc2_w 113, 3, ([], .long 4294967295)), (310, .land, 1, ([], .null)), (311, .lor, 1, ([], .null)), (312, .invokevirtual 118, 3, ([176, 4, 0, 10], .null)), (315, .lstore 7, 2, ([], .null)), (317, .aload_n 2, 1, ([], .null)), (318, .invokevirtual 110, 3, ([169, 1, 0, 10], .null)), (321, .iload 6, 2, ([], .null)), (323, .if_icmp .eq 5, 3, ([328], .null)), (326, .iconst 0, 1, ([], .null)), (327, .ireturn, 1, ([1], .null)), (328, .iload 6, 2, ([], .null)), (330, .ifCond .ne 14, 3, ([344], .null)), (333, .aload_n 3, 1, ([], .null)), (334, .iconst 0, 1, ([], .null)), (335, .laload, 1, ([], .null)), (336, .lload 7, 2, ([], .null)), (338, .lcmp, 1, ([], .null)), (339, .ifCond .eq 5, 3, ([344], .null)), (342, .iconst 0, 1, ([], .null)), (343, .ireturn, 1, ([1], .null)), (344, .goto 1560, 3, ([1904], .null))]
theorem ls_word : pm_sub lc_word kc_L_law := pm_sub_of (by decide +kernel)
theorem lw_word {X : pm_X} {n : Nat} {xs : Nat → Int32} (h0 : X 0 = (n, xs)) (hX : X 1 = (8, eb)) {d : Nat} {i : Int32} (hi : lw_in i n) {a b e : Option Value} {c k : Nat} {I : st_I} {J : st_J} (h : RR I J) : lw_S X d 236 i a b e c k I J := by
  obtain ⟨q0, q1, q2, q3, q4, q5, q6, q7⟩ := hi
  obtain ⟨I1, J1, kk, cc, ks, e1, n1, n2, I2, J2, v, e2, e3, e4, hR⟩ := s_word (X := X) (d := d + 69) (p1 := (xs (Int32.toNatClampNeg (i + (1 : Int32))))) (p2 := (xs (Int32.toNatClampNeg (i + (2 : Int32))))) (p3 := ((lw_sh (Int32.toInt64 (xs (Int32.toNatClampNeg (i + (3 : Int32)))))) ||| ((Int32.toInt64 (xs (Int32.toNatClampNeg (i + (4 : Int32))))) &&& (4294967295 : Int64)))) h
  refine ⟨I2, J2, some (.int kk), some (.long v), none, c + cc, k + ks, hR, by omega, by omega, fun r g => ?_⟩
  refine (t_pS ls_word (pc' := 242) (ls' := [some (.retAddr 0), some (.ref 0), some (.ref 166), some (.ref 187), some (.ref 188), some (.int i), a, b, e]) (st' := [.int (i + (1 : Int32)), .retAddr 0, .ref 0]) 5 rfl).mpr ?_
  refine (t_lX (ls_word _ _ rfl) rfl h0).mpr ⟨q1, ?_⟩
  refine (t_pS ls_word (pc' := 248) (ls' := [some (.retAddr 0), some (.ref 0), some (.ref 166), some (.ref 187), some (.ref 188), some (.int i), a, b, e]) (st' := [.int (i + (2 : Int32)), .retAddr 0, .int (xs (Int32.toNatClampNeg (i + (1 : Int32)))), .ref 0]) 4 rfl).mpr ?_
  refine (t_lX (ls_word _ _ rfl) rfl h0).mpr ⟨q2, ?_⟩
  refine (t_pS ls_word (pc' := 254) (ls' := [some (.retAddr 0), some (.ref 0), some (.ref 166), some (.ref 187), some (.ref 188), some (.int i), a, b, e]) (st' := [.int (i + (3 : Int32)), .retAddr 0, .int (xs (Int32.toNatClampNeg (i + (2 : Int32)))), .int (xs (Int32.toNatClampNeg (i + (1 : Int32)))), .ref 0]) 4 rfl).mpr ?_
  refine (t_lX (ls_word _ _ rfl) rfl h0).mpr ⟨q3, ?_⟩
  refine (t_pS ls_word (pc' := 264) (ls' := [some (.retAddr 0), some (.ref 0), some (.ref 166), some (.ref 187), some (.ref 188), some (.int i), a, b, e]) (st' := [.int (i + (4 : Int32)), .retAddr 0, .long (lw_sh (Int32.toInt64 (xs (Int32.toNatClampNeg (i + (3 : Int32)))))), .int (xs (Int32.toNatClampNeg (i + (2 : Int32)))), .int (xs (Int32.toNatClampNeg (i + (1 : Int32)))), .ref 0]) 7 rfl).mpr ?_
  refine (t_lX (ls_word _ _ rfl) rfl h0).mpr ⟨q4, ?_⟩
  refine (t_pS ls_word (pc' := 272) (ls' := [some (.retAddr 0), some (.ref 0), some (.ref 166), some (.ref 187), some (.ref 188), some (.int i), a, b, e]) (st' := [.ref 187, .long ((lw_sh (Int32.toInt64 (xs (Int32.toNatClampNeg (i + (3 : Int32)))))) ||| ((Int32.toInt64 (xs (Int32.toNatClampNeg (i + (4 : Int32))))) &&& (4294967295 : Int64))), .int (xs (Int32.toNatClampNeg (i + (2 : Int32)))), .int (xs (Int32.toNatClampNeg (i + (1 : Int32)))), .ref 0]) 5 rfl).mpr ?_
  refine (t_cS (ls_word _ _ rfl) rfl rfl (Ex_of e1)).mpr ?_
  show Gx X (d + 72) (kc_L_law, []) (275, [some (.retAddr 0), some (.ref 0), some (.ref 166), some (.ref 187), some (.ref 188), some (.int i), a, b, e], [.int kk], st_h I1 J1, c + cc, k + ks) r
  refine (t_pS ls_word (pc' := 283) (ls' := [some (.retAddr 0), some (.ref 0), some (.ref 166), some (.ref 187), some (.ref 188), some (.int i), some (.int kk), b, e]) (st' := [.int (i + (1 : Int32)), .retAddr 0, .ref 166]) 6 rfl).mpr ?_
  refine (t_lX (ls_word _ _ rfl) rfl h0).mpr ⟨q1, ?_⟩
  refine (t_pS ls_word (pc' := 289) (ls' := [some (.retAddr 0), some (.ref 0), some (.ref 166), some (.ref 187), some (.ref 188), some (.int i), some (.int kk), b, e]) (st' := [.int (i + (2 : Int32)), .retAddr 0, .int (xs (Int32.toNatClampNeg (i + (1 : Int32)))), .ref 166]) 4 rfl).mpr ?_
  refine (t_lX (ls_word _ _ rfl) rfl h0).mpr ⟨q2, ?_⟩
  refine (t_pS ls_word (pc' := 295) (ls' := [some (.retAddr 0), some (.ref 0), some (.ref 166), some (.ref 187), some (.ref 188), some (.int i), some (.int kk), b, e]) (st' := [.int (i + (3 : Int32)), .retAddr 0, .int (xs (Int32.toNatClampNeg (i + (2 : Int32)))), .int (xs (Int32.toNatClampNeg (i + (1 : Int32)))), .ref 166]) 4 rfl).mpr ?_
  refine (t_lX (ls_word _ _ rfl) rfl h0).mpr ⟨q3, ?_⟩
  refine (t_pS ls_word (pc' := 305) (ls' := [some (.retAddr 0), some (.ref 0), some (.ref 166), some (.ref 187), some (.ref 188), some (.int i), some (.int kk), b, e]) (st' := [.int (i + (4 : Int32)), .retAddr 0, .long (lw_sh (Int32.toInt64 (xs (Int32.toNatClampNeg (i + (3 : Int32)))))), .int (xs (Int32.toNatClampNeg (i + (2 : Int32)))), .int (xs (Int32.toNatClampNeg (i + (1 : Int32)))), .ref 166]) 7 rfl).mpr ?_
  refine (t_lX (ls_word _ _ rfl) rfl h0).mpr ⟨q4, ?_⟩
  refine (t_pS ls_word (pc' := 312) (ls' := [some (.retAddr 0), some (.ref 0), some (.ref 166), some (.ref 187), some (.ref 188), some (.int i), some (.int kk), b, e]) (st' := [.long ((lw_sh (Int32.toInt64 (xs (Int32.toNatClampNeg (i + (3 : Int32)))))) ||| ((Int32.toInt64 (xs (Int32.toNatClampNeg (i + (4 : Int32))))) &&& (4294967295 : Int64))), .int (xs (Int32.toNatClampNeg (i + (2 : Int32)))), .int (xs (Int32.toNatClampNeg (i + (1 : Int32)))), .ref 166]) 4 rfl).mpr ?_
  refine (t_cV (ls_word _ _ rfl) rfl rfl rfl (Ex_of e2)).mpr ?_
  show Gx X (d + 72) (kc_L_law, []) (315, [some (.retAddr 0), some (.ref 0), some (.ref 166), some (.ref 187), some (.ref 188), some (.int i), some (.int kk), b, e], [.long v], st_h I2 J2, c + cc, k + ks) r
  refine (t_pS ls_word (pc' := 318) (ls' := [some (.retAddr 0), some (.ref 0), some (.ref 166), some (.ref 187), some (.ref 188), some (.int i), some (.int kk), some (.long v), none]) (st' := [.ref 166]) 2 rfl).mpr ?_
  refine (t_cV (ls_word _ _ rfl) rfl rfl rfl (ev_M_thrown (d := d + 71))).mpr ?_
  show Gx X (d + 72) (kc_L_law, []) (321, [some (.retAddr 0), some (.ref 0), some (.ref 166), some (.ref 187), some (.ref 188), some (.int i), some (.int kk), some (.long v), none], [.int (I2 166 10)], st_h I2 J2, c + cc, k + ks) r
  refine (t_pS ls_word (pc' := 323) (ls' := [some (.retAddr 0), some (.ref 0), some (.ref 166), some (.ref 187), some (.ref 188), some (.int i), some (.int kk), some (.long v), none]) (st' := [.int kk, .int (I2 166 10)]) 1 rfl).mpr ?_
  refine (t_ieq (ls_word _ _ rfl)).mpr ?_
  rw [if_pos e3]
  refine (t_pS ls_word (pc' := 330) (ls' := [some (.retAddr 0), some (.ref 0), some (.ref 166), some (.ref 187), some (.ref 188), some (.int i), some (.int kk), some (.long v), none]) (st' := [.int kk]) 1 rfl).mpr ?_
  refine (t_fne (ls_word _ _ rfl)).mpr ?_
  by_cases hk : kk = 0
  rotate_left
  · rw [if_neg hk]
    refine (t_pS ls_word (pc' := 1904) (ls' := [some (.retAddr 0), some (.ref 0), some (.ref 166), some (.ref 187), some (.ref 188), some (.int i), some (.int kk), some (.long v), none]) (st' := []) 1 rfl).mpr ?_
    exact g
  rw [if_pos hk]
  refine (t_pS ls_word (pc' := 335) (ls' := [some (.retAddr 0), some (.ref 0), some (.ref 166), some (.ref 187), some (.ref 188), some (.int i), some (.int kk), some (.long v), none]) (st' := [.int (0 : Int32), .ref 187]) 2 rfl).mpr ?_
  refine (t_lJ (ls_word _ _ rfl) rfl).mpr ⟨rfl, ?_⟩
  refine (t_pS ls_word (pc' := 339) (ls' := [some (.retAddr 0), some (.ref 0), some (.ref 166), some (.ref 187), some (.ref 188), some (.int i), some (.int kk), some (.long v), none]) (st' := [.int (lg_cmp (J2 187 0) v)]) 2 rfl).mpr ?_
  refine (t_Leq (ls_word _ _ rfl)).mpr ?_
  rw [if_pos (e4 hk)]
  refine (t_pS ls_word (pc' := 1904) (ls' := [some (.retAddr 0), some (.ref 0), some (.ref 166), some (.ref 187), some (.ref 188), some (.int i), some (.int kk), some (.long v), none]) (st' := []) 1 rfl).mpr ?_
  exact g
def lc_at : List (Nat × Instr × Nat × pm_L) := [(347, .aload_n 1, 1, ([], .null)), (348, .aload_n 0, 1, ([], .null)), (349, .iload 5, 2, ([], .null)), (351, .iconst 1, 1, ([], .null)), (352, .iadd, 1, ([], .null)), (353, .iaload, 1, ([], .null)), (354, .aload_n 0, 1, ([], .null)), (355, .iload 5, 2, ([], .null)), (357, .iconst 2, 1, ([], .null)), (358, .iadd, 1, ([], .null)), (359, .iaload, 1, ([], .null)), (360, .aload_n 3, 1, ([], .null)), (361, .invokestatic 119, 3, ([22, 4, 0, 0], .null)), (364, .istore 6, 2, ([], .null)), (366, .aload_n 2, 1, ([], .null)), (367, .aload_n 0, 1, ([], .null)), (368, .iload 5, 2, ([], .null)), (370, .iconst 1, 1, ([], .null)), (371, .iadd, 1, ([], .null)), (372, .iaload, 1, ([], .null)), (373, .aload_n 0, 1, ([], .null)), (374, .iload 5, 2, ([], .null)), (376, .iconst 2, 1, ([], .null)), (377, .iadd, 1, ([], .null)), (378, .iaload, 1, ([], .null)), (379, .invokevirtual 122, 3, ([178, 3, 0, 10], .null)), (382, .lstore 7, 2, ([], .null)), (384, .aload_n 2, 1, ([], .null)), (385, .invokevirtual 110, 3, ([169, 1, 0, 10], .null)), (388, .iload 6, 2, ([], .null)), (390, .if_icmp .eq 5, 3, ([395], .null)), (393, .iconst 0, 1, ([], .null)), (394, .ireturn, 1, ([1], .null)), (395, .iload 6, 2, ([], .null)), (397, .ifCond .ne 14, 3, ([411], .null)), (400, .aload_n 3, 1, ([], .null)), (401, .iconst 0, 1, ([], .null)), (402, .laload, 1, ([], .null)), (403, .lload 7, 2, ([], .null)), (405, .lcmp, 1, ([], .null)), (406, .ifCond .eq 5, 3, ([411], .null)), (409, .iconst 0, 1, ([], .null)), (410, .ireturn, 1, ([1], .null)), (411, .goto 1493, 3, ([1904], .null))]
theorem ls_at : pm_sub lc_at kc_L_law := pm_sub_of (by decide +kernel)
theorem lw_at {X : pm_X} {n : Nat} {xs : Nat → Int32} (h0 : X 0 = (n, xs)) (hX : X 1 = (8, eb)) {d : Nat} {i : Int32} (hi : lw_in i n) {a b e : Option Value} {c k : Nat} {I : st_I} {J : st_J} (h : RR I J) : lw_S X d 347 i a b e c k I J := by
  obtain ⟨q0, q1, q2, q3, q4, q5, q6, q7⟩ := hi
  obtain ⟨I1, J1, kk, cc, ks, e1, n1, n2, I2, J2, v, e2, e3, e4, hR⟩ := s_at (X := X) (d := d + 69) (p1 := (xs (Int32.toNatClampNeg (i + (1 : Int32))))) (p2 := (xs (Int32.toNatClampNeg (i + (2 : Int32))))) h
  refine ⟨I2, J2, some (.int kk), some (.long v), none, c + cc, k + ks, hR, by omega, by omega, fun r g => ?_⟩
  refine (t_pS ls_at (pc' := 353) (ls' := [some (.retAddr 0), some (.ref 0), some (.ref 166), some (.ref 187), some (.ref 188), some (.int i), a, b, e]) (st' := [.int (i + (1 : Int32)), .retAddr 0, .ref 0]) 5 rfl).mpr ?_
  refine (t_lX (ls_at _ _ rfl) rfl h0).mpr ⟨q1, ?_⟩
  refine (t_pS ls_at (pc' := 359) (ls' := [some (.retAddr 0), some (.ref 0), some (.ref 166), some (.ref 187), some (.ref 188), some (.int i), a, b, e]) (st' := [.int (i + (2 : Int32)), .retAddr 0, .int (xs (Int32.toNatClampNeg (i + (1 : Int32)))), .ref 0]) 4 rfl).mpr ?_
  refine (t_lX (ls_at _ _ rfl) rfl h0).mpr ⟨q2, ?_⟩
  refine (t_pS ls_at (pc' := 361) (ls' := [some (.retAddr 0), some (.ref 0), some (.ref 166), some (.ref 187), some (.ref 188), some (.int i), a, b, e]) (st' := [.ref 187, .int (xs (Int32.toNatClampNeg (i + (2 : Int32)))), .int (xs (Int32.toNatClampNeg (i + (1 : Int32)))), .ref 0]) 1 rfl).mpr ?_
  refine (t_cS (ls_at _ _ rfl) rfl rfl (Ex_of e1)).mpr ?_
  show Gx X (d + 72) (kc_L_law, []) (364, [some (.retAddr 0), some (.ref 0), some (.ref 166), some (.ref 187), some (.ref 188), some (.int i), a, b, e], [.int kk], st_h I1 J1, c + cc, k + ks) r
  refine (t_pS ls_at (pc' := 372) (ls' := [some (.retAddr 0), some (.ref 0), some (.ref 166), some (.ref 187), some (.ref 188), some (.int i), some (.int kk), b, e]) (st' := [.int (i + (1 : Int32)), .retAddr 0, .ref 166]) 6 rfl).mpr ?_
  refine (t_lX (ls_at _ _ rfl) rfl h0).mpr ⟨q1, ?_⟩
  refine (t_pS ls_at (pc' := 378) (ls' := [some (.retAddr 0), some (.ref 0), some (.ref 166), some (.ref 187), some (.ref 188), some (.int i), some (.int kk), b, e]) (st' := [.int (i + (2 : Int32)), .retAddr 0, .int (xs (Int32.toNatClampNeg (i + (1 : Int32)))), .ref 166]) 4 rfl).mpr ?_
  refine (t_lX (ls_at _ _ rfl) rfl h0).mpr ⟨q2, ?_⟩
  refine (t_cV (ls_at _ _ rfl) rfl rfl rfl (Ex_of e2)).mpr ?_
  show Gx X (d + 72) (kc_L_law, []) (382, [some (.retAddr 0), some (.ref 0), some (.ref 166), some (.ref 187), some (.ref 188), some (.int i), some (.int kk), b, e], [.long v], st_h I2 J2, c + cc, k + ks) r
  refine (t_pS ls_at (pc' := 385) (ls' := [some (.retAddr 0), some (.ref 0), some (.ref 166), some (.ref 187), some (.ref 188), some (.int i), some (.int kk), some (.long v), none]) (st' := [.ref 166]) 2 rfl).mpr ?_
  refine (t_cV (ls_at _ _ rfl) rfl rfl rfl (ev_M_thrown (d := d + 71))).mpr ?_
  show Gx X (d + 72) (kc_L_law, []) (388, [some (.retAddr 0), some (.ref 0), some (.ref 166), some (.ref 187), some (.ref 188), some (.int i), some (.int kk), some (.long v), none], [.int (I2 166 10)], st_h I2 J2, c + cc, k + ks) r
  refine (t_pS ls_at (pc' := 390) (ls' := [some (.retAddr 0), some (.ref 0), some (.ref 166), some (.ref 187), some (.ref 188), some (.int i), some (.int kk), some (.long v), none]) (st' := [.int kk, .int (I2 166 10)]) 1 rfl).mpr ?_
  refine (t_ieq (ls_at _ _ rfl)).mpr ?_
  rw [if_pos e3]
  refine (t_pS ls_at (pc' := 397) (ls' := [some (.retAddr 0), some (.ref 0), some (.ref 166), some (.ref 187), some (.ref 188), some (.int i), some (.int kk), some (.long v), none]) (st' := [.int kk]) 1 rfl).mpr ?_
  refine (t_fne (ls_at _ _ rfl)).mpr ?_
  by_cases hk : kk = 0
  rotate_left
  · rw [if_neg hk]
    refine (t_pS ls_at (pc' := 1904) (ls' := [some (.retAddr 0), some (.ref 0), some (.ref 166), some (.ref 187), some (.ref 188), some (.int i), some (.int kk), some (.long v), none]) (st' := []) 1 rfl).mpr ?_
    exact g
  rw [if_pos hk]
  refine (t_pS ls_at (pc' := 402) (ls' := [some (.retAddr 0), some (.ref 0), some (.ref 166), some (.ref 187), some (.ref 188), some (.int i), some (.int kk), some (.long v), none]) (st' := [.int (0 : Int32), .ref 187]) 2 rfl).mpr ?_
  refine (t_lJ (ls_at _ _ rfl) rfl).mpr ⟨rfl, ?_⟩
  refine (t_pS ls_at (pc' := 406) (ls' := [some (.retAddr 0), some (.ref 0), some (.ref 166), some (.ref 187), some (.ref 188), some (.int i), some (.int kk), some (.long v), none]) (st' := [.int (lg_cmp (J2 187 0) v)]) 2 rfl).mpr ?_
  refine (t_Leq (ls_at _ _ rfl)).mpr ?_
  rw [if_pos (e4 hk)]
  refine (t_pS ls_at (pc' := 1904) (ls' := [some (.retAddr 0), some (.ref 0), some (.ref 166), some (.ref 187), some (.ref 188), some (.int i), some (.int kk), some (.long v), none]) (st' := []) 1 rfl).mpr ?_
  exact g
def lc_allow : List (Nat × Instr × Nat × pm_L) := [(414, .aload_n 1, 1, ([], .null)), (415, .aload_n 0, 1, ([], .null)), (416, .iload 5, 2, ([], .null)), (418, .iconst 1, 1, ([], .null)), (419, .iadd, 1, ([], .null)), (420, .iaload, 1, ([], .null)), (421, .aload_n 3, 1, ([], .null)), (422, .invokestatic 123, 3, ([24, 3, 0, 0], .null)), (425, .istore 6, 2, ([], .null)), (427, .aload_n 2, 1, ([], .null)), (428, .aload_n 0, 1, ([], .null)), (429, .iload 5, 2, ([], .null)), (431, .iconst 1, 1, ([], .null)), (432, .iadd, 1, ([], .null)), (433, .iaload, 1, ([], .null)), (434, .invokevirtual 126, 3, ([179, 2, 0, 10], .null)), (437, .istore 7, 2, ([], .null)), (439, .aload_n 2, 1, ([], .null)), (440, .invokevirtual 110, 3, ([169, 1, 0, 10], .null)), (443, .iload 6, 2, ([], .null)), (445, .if_icmp .eq 5, 3, ([450], .null)), (448, .iconst 0, 1, ([], .null)), (449, .ireturn, 1, ([1], .null)), (450, .iload 6, 2, ([], .null)), (452, .ifCond .ne 15, 3, ([467], .null)), (455, .aload_n 3, 1, ([], .null)), (456, .iconst 0, 1, ([], .null)), (457, .laload, 1, ([], .null)), (458, .iload 7, 2, ([], .null)), (460, .i2l, 1, ([], .null)), (461, .lcmp, 1, ([], .null)), (462, .ifCond .eq 5, 3, ([467], .null)), (465, .iconst 0, 1, ([], .null)), (466, .ireturn, 1, ([1], .null)), (467, .goto 1437, 3, ([1904], .null))]
theorem ls_allow : pm_sub lc_allow kc_L_law := pm_sub_of (by decide +kernel)
theorem lw_allow {X : pm_X} {n : Nat} {xs : Nat → Int32} (h0 : X 0 = (n, xs)) (hX : X 1 = (8, eb)) {d : Nat} {i : Int32} (hi : lw_in i n) {a b e : Option Value} {c k : Nat} {I : st_I} {J : st_J} (h : RR I J) : lw_S X d 414 i a b e c k I J := by
  obtain ⟨q0, q1, q2, q3, q4, q5, q6, q7⟩ := hi
  obtain ⟨I1, J1, kk, cc, ks, e1, n1, n2, I2, J2, v, e2, e3, e4, hR⟩ := s_allow (X := X) (d := d + 69) (p1 := (xs (Int32.toNatClampNeg (i + (1 : Int32))))) h
  refine ⟨I2, J2, some (.int kk), some (.int v), e, c + cc, k + ks, hR, by omega, by omega, fun r g => ?_⟩
  refine (t_pS ls_allow (pc' := 420) (ls' := [some (.retAddr 0), some (.ref 0), some (.ref 166), some (.ref 187), some (.ref 188), some (.int i), a, b, e]) (st' := [.int (i + (1 : Int32)), .retAddr 0, .ref 0]) 5 rfl).mpr ?_
  refine (t_lX (ls_allow _ _ rfl) rfl h0).mpr ⟨q1, ?_⟩
  refine (t_pS ls_allow (pc' := 422) (ls' := [some (.retAddr 0), some (.ref 0), some (.ref 166), some (.ref 187), some (.ref 188), some (.int i), a, b, e]) (st' := [.ref 187, .int (xs (Int32.toNatClampNeg (i + (1 : Int32)))), .ref 0]) 1 rfl).mpr ?_
  refine (t_cS (ls_allow _ _ rfl) rfl rfl (Ex_of e1)).mpr ?_
  show Gx X (d + 72) (kc_L_law, []) (425, [some (.retAddr 0), some (.ref 0), some (.ref 166), some (.ref 187), some (.ref 188), some (.int i), a, b, e], [.int kk], st_h I1 J1, c + cc, k + ks) r
  refine (t_pS ls_allow (pc' := 433) (ls' := [some (.retAddr 0), some (.ref 0), some (.ref 166), some (.ref 187), some (.ref 188), some (.int i), some (.int kk), b, e]) (st' := [.int (i + (1 : Int32)), .retAddr 0, .ref 166]) 6 rfl).mpr ?_
  refine (t_lX (ls_allow _ _ rfl) rfl h0).mpr ⟨q1, ?_⟩
  refine (t_cV (ls_allow _ _ rfl) rfl rfl rfl (Ex_of e2)).mpr ?_
  show Gx X (d + 72) (kc_L_law, []) (437, [some (.retAddr 0), some (.ref 0), some (.ref 166), some (.ref 187), some (.ref 188), some (.int i), some (.int kk), b, e], [.int v], st_h I2 J2, c + cc, k + ks) r
  refine (t_pS ls_allow (pc' := 440) (ls' := [some (.retAddr 0), some (.ref 0), some (.ref 166), some (.ref 187), some (.ref 188), some (.int i), some (.int kk), some (.int v), e]) (st' := [.ref 166]) 2 rfl).mpr ?_
  refine (t_cV (ls_allow _ _ rfl) rfl rfl rfl (ev_M_thrown (d := d + 71))).mpr ?_
  show Gx X (d + 72) (kc_L_law, []) (443, [some (.retAddr 0), some (.ref 0), some (.ref 166), some (.ref 187), some (.ref 188), some (.int i), some (.int kk), some (.int v), e], [.int (I2 166 10)], st_h I2 J2, c + cc, k + ks) r
  refine (t_pS ls_allow (pc' := 445) (ls' := [some (.retAddr 0), some (.ref 0), some (.ref 166), some (.ref 187), some (.ref 188), some (.int i), some (.int kk), some (.int v), e]) (st' := [.int kk, .int (I2 166 10)]) 1 rfl).mpr ?_
  refine (t_ieq (ls_allow _ _ rfl)).mpr ?_
  rw [if_pos e3]
  refine (t_pS ls_allow (pc' := 452) (ls' := [some (.retAddr 0), some (.ref 0), some (.ref 166), some (.ref 187), some (.ref 188), some (.int i), some (.int kk), some (.int v), e]) (st' := [.int kk]) 1 rfl).mpr ?_
  refine (t_fne (ls_allow _ _ rfl)).mpr ?_
  by_cases hk : kk = 0
  rotate_left
  · rw [if_neg hk]
    refine (t_pS ls_allow (pc' := 1904) (ls' := [some (.retAddr 0), some (.ref 0), some (.ref 166), some (.ref 187), some (.ref 188), some (.int i), some (.int kk), some (.int v), e]) (st' := []) 1 rfl).mpr ?_
    exact g
  rw [if_pos hk]
  refine (t_pS ls_allow (pc' := 457) (ls' := [some (.retAddr 0), some (.ref 0), some (.ref 166), some (.ref 187), some (.ref 188), some (.int i), some (.int kk), some (.int v), e]) (st' := [.int (0 : Int32), .ref 187]) 2 rfl).mpr ?_
  refine (t_lJ (ls_allow _ _ rfl) rfl).mpr ⟨rfl, ?_⟩
  refine (t_pS ls_allow (pc' := 462) (ls' := [some (.retAddr 0), some (.ref 0), some (.ref 166), some (.ref 187), some (.ref 188), some (.int i), some (.int kk), some (.int v), e]) (st' := [.int (lg_cmp (J2 187 0) (Int32.toInt64 v))]) 3 rfl).mpr ?_
  refine (t_Leq (ls_allow _ _ rfl)).mpr ?_
  rw [if_pos (e4 hk)]
  refine (t_pS ls_allow (pc' := 1904) (ls' := [some (.retAddr 0), some (.ref 0), some (.ref 166), some (.ref 187), some (.ref 188), some (.int i), some (.int kk), some (.int v), e]) (st' := []) 1 rfl).mpr ?_
  exact g
