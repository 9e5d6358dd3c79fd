/-! the law's start -/
theorem RR_0 : RR I0 J0 := by
  refine ⟨⟨⟨by decide, fun s hs => ?_, by decide⟩, rfl, fun s hs => ?_, rfl, fun s k hs hk => rfl, fun s hs _ => ?_⟩, Or.inl ⟨rfl, rfl⟩, ⟨Or.inl ⟨rfl, rfl⟩, rfl, by decide, by decide, fun k hk => ?_⟩, fun c hc => ?_⟩
  · rw [I0_z (by omega) (by omega) (by omega) (by omega)]
    show 0 ≤ (0 : Int32).toInt ∧ (0 : Int32).toInt ≤ 64
    decide
  · rw [I0_z (a := 170) (by omega) (by omega) (by omega) (by omega), I0_z (a := 7) (by omega) (by omega) (by omega) (by omega)]
  · rw [I0_z (a := 7) (by omega) (by omega) (by omega) (by omega)]
  · exact absurd hk (Nat.not_lt_zero k)
  · refine ⟨(0, 0, 0, 0, 0, 0, 0, 0, 0), fun f hf => ?_, fun a h1 h2 => ?_, ?_⟩
    · rw [I0_z (by omega) (by omega) (by omega) (by omega)]
      match f, hf with
      | 0, _ => rfl
      | 1, _ => rfl
      | 2, _ => rfl
      | 3, _ => rfl
      | 4, _ => rfl
      | 5, _ => rfl
      | 6, _ => rfl
      | 7, _ => rfl
      | 8, _ => rfl
    · rw [I0_z (by omega) (by omega) (by omega) (by omega)]
      have : a = 173 ∨ a = 174 ∨ a = 175 ∨ a = 176 ∨ a = 177 ∨ a = 178 ∨ a = 179 ∨ a = 180 ∨ a = 181 ∨ a = 182 := by omega
      rcases this with rfl | rfl | rfl | rfl | rfl | rfl | rfl | rfl | rfl | rfl <;> rfl
    · exact ⟨by omega, by omega, by omega, by omega, Or.inl ⟨rfl, rfl, rfl, rfl, rfl, rfl, rfl, rfl, rfl⟩⟩
def lc_new : List (Nat × Instr × Nat × pm_L) := [(0, .new 8, 3, ([0], .null)), (3, .dup, 1, ([], .null)), (4, .invokespecial 100, 3, ([0, 1, 1, 1], .null)), (7, .astore_n 1, 1, ([], .null)), (8, .new 101, 3, ([9], .null)), (11, .dup, 1, ([], .null)), (12, .invokespecial 103, 3, ([168, 1, 1, 10], .null)), (15, .astore_n 2, 1, ([], .null)), (16, .iconst 1, 1, ([], .null)), (17, .newarray .long, 2, ([1], .null)), (19, .astore_n 3, 1, ([], .null)), (20, .iconst 1, 1, ([], .null)), (21, .newarray .double, 2, ([4], .null)), (23, .astore 4, 2, ([], .null)), (25, .iconst 0, 1, ([], .null)), (26, .istore 5, 2, ([], .null))]
theorem ls_new : pm_sub lc_new kc_L_law := pm_sub_of (by decide +kernel)
theorem hc_a {n : Nat} (hn : n = 166 ∨ n = 187 ∨ n = 188) : hcl n G0 := fun i hi => ndn_b hi (by omega) (by omega) (by omega) (by omega) (by omega) (by omega) (by omega)
set_option maxRecDepth 4000 in
theorem lw_whole {X : pm_X} {n : Nat} {xs : Nat → Int32} (h0 : X 0 = (n, xs)) (hX : X 1 = (8, eb)) (hn : n ≤ 4096) {d : Nat} : ∃ (h : pm_H) (c k : Nat), c ≤ 702 ∧ k ≤ 13266 ∧ Gx X (d + 72) (kc_L_law, []) (0, [some (.retAddr 0), none, none, none, none, none, none, none, none], [], [], 0, 0) (.inl (some (.int 1)), h, c, k) := by
  obtain ⟨I, J, c, k, h1, h2, g⟩ := lw_loop (d := d) h0 hX hn 513 0 (by omega) (by omega) none none none 189 10188 I0 J0 RR_0
  refine ⟨st_h I J, c, k, by omega, by omega, ?_⟩
  show Gx X (d + 72) (kc_L_law, []) (0, [some (.retAddr 0), none, none, none, none, none, none, none, none], [], hm 0 G0, 0, 0) _
  refine (m_no (ls_new _ _ rfl) (by decide +kernel)).mpr ?_
  refine (t_pS ls_new (pc' := 4) (ls' := [some (.retAddr 0), none, none, none, none, none, none, none, none]) (st' := [.ref 0, .ref 0]) 1 rfl).mpr ?_
  refine m_ci (fs := pc_Dv 0) (ls_new _ _ rfl) rfl (by decide +kernel) (by omega) (by rfl) (mk_D (d := d + 68)) ?_
  refine (t_pS ls_new (pc' := 8) (ls' := [some (.retAddr 0), some (.ref 0), none, none, none, none, none, none, none]) (st' := []) 1 rfl).mpr ?_
  refine (m_no (ls_new _ _ rfl) (hcl_c (hc_a (Or.inl rfl)) rfl rfl)).mpr ?_
  refine (t_pS ls_new (pc' := 12) (ls' := [some (.retAddr 0), some (.ref 0), none, none, none, none, none, none, none]) (st' := [.ref 166, .ref 166]) 1 rfl).mpr ?_
  refine m_ci (fs := pc_Dv 9) (ls_new _ _ rfl) rfl (hcl_c (hc_m (by omega) (by omega) rfl) rfl rfl) (by omega) (by rfl) (mk_M (d := d + 71)) ?_
  refine (t_pS ls_new (pc' := 17) (ls' := [some (.retAddr 0), some (.ref 0), some (.ref 166), none, none, none, none, none, none]) (st' := [.int (1 : Int32)]) 2 rfl).mpr ?_
  refine (m_ni (m := 1) (ls_new _ _ rfl) (Or.inl ⟨_, rfl⟩) (hcl_c (hc_a (Or.inr (Or.inl rfl))) rfl rfl) rfl (by omega) (by rfl)).mpr ?_
  refine (t_pS ls_new (pc' := 21) (ls' := [some (.retAddr 0), some (.ref 0), some (.ref 166), some (.ref 187), none, none, none, none, none]) (st' := [.int (1 : Int32)]) 2 rfl).mpr ?_
  refine (m_ni (m := 1) (ls_new _ _ rfl) (Or.inl ⟨_, rfl⟩) (hcl_c (hc_a (Or.inr (Or.inr rfl))) rfl rfl) rfl (by omega) (by rfl)).mpr ?_
  refine (t_pS ls_new (pc' := 28) (ls' := [some (.retAddr 0), some (.ref 0), some (.ref 166), some (.ref 187), some (.ref 188), some (.int (Int32.ofNat (8 * 0))), none, none, none]) (st' := []) 3 rfl).mpr ?_
  exact g
