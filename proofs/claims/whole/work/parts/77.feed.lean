theorem fdI_e {I : st_I} {w : Int64} {n a f : Nat} (h : ¬ (146 ≤ a ∧ a ≤ 149)) : fdI I w n a f = I a f := by
  have hc := st_o_c (I 0 6)
  unfold fdI
  rw [if_neg (by omega), if_neg (by omega)]
theorem byt_ob (w : Int64) (k : Nat) : (byt (obn w k) &&& 255) = Int32.ofNat (obn w k) := byt_a ⟨obn w k, by unfold obn; omega⟩
theorem s_feed {X : pm_X} {d : Nat} {I : st_I} {J : st_J} {p1 : Int64} {p2 : Int32} (h : RR I J) : StpI X (d + 4) 139 [.ref 0, .long p1, .int p2, .ref 187] 225 [.ref 166, .long p1, .int p2] I J := by
  obtain ⟨hm, hz, ho, hc⟩ := h
  have ho' := ho
  obtain ⟨o1, o2, o3, o4, o5⟩ := ho'
  have hoc := st_o_c (I 0 6)
  have e1 : (1 : Int32).toInt = 1 := rfl
  have e8 : (8 : Int32).toInt = 8 := rfl
  have f1 : (1 : Int64).toInt = 1 := rfl
  have f8 : (8 : Int64).toInt = 8 := rfl
  have hcn := cln o3
  by_cases c : 1 ≤ p2.toInt ∧ p2.toInt ≤ 8
  · have hn := cln (x := p2) (by omega)
    have hC : ¬ ((p2 < (1 : Int32)) ∨ ((8 : Int32) < p2)) := by rw [i32_lt, i32_lt, e1, e8]; omega
    have hM : (¬ ((Int32.toInt64 p2) < (1 : Int64))) ∧ (¬ ((8 : Int64) < (Int32.toInt64 p2))) := by rw [i64_lt, i64_lt, tl, f1, f8]; omega
    have hk : fdk I := by unfold fdk; rw [o2]; exact ⟨o3, o4⟩
    by_cases c2 : (1500 : Int32) < (I 166 7 + p2)
    · refine ⟨I, J, 2, 1, 6, iv_L_feed _ ?_, by omega, by omega, st_w (st_w I 166 10 0) 166 10 2, J, 0, hc_M_feed (d := d + 2) ⟨o3, o4⟩ _ ?_, e_o _ _ _, fun h => absurd h (by decide), RR_ee ⟨hm, hz, ho, hc⟩ (fun _ _ _ => rfl)⟩
      · rw [if_neg hC, o2, if_pos c2]
      · rw [if_pos hM, if_pos c2]
    · have hsz : (I 166 7).toNatClampNeg + p2.toNatClampNeg ≤ 1500 := by
        rw [i32_lt, ia2 rfl rfl (by omega) (by omega), show (1500 : Int32).toInt = 1500 from rfl] at c2
        omega
      have k7 : (fdI I p1 p2.toNatClampNeg) 166 7 = I 166 7 := fdI_e (by omega)
      refine ⟨fdI I p1 p2.toNatClampNeg, st_y J 187 0 (Int32.toInt64 (Int32.ofNat ((I 166 7).toNatClampNeg + p2.toNatClampNeg))), 0, 0, 0, iv_L_feed _ ?_, by omega, by omega, st_w (fdM (st_w (fdI I p1 p2.toNatClampNeg) 166 10 (0 : Int32)) p1 p2.toNatClampNeg) 166 7 (Int32.ofNat ((I 166 7).toNatClampNeg + p2.toNatClampNeg)), st_y J 187 0 (Int32.toInt64 (Int32.ofNat ((I 166 7).toNatClampNeg + p2.toNatClampNeg))), Int32.ofNat ((I 166 7).toNatClampNeg + p2.toNatClampNeg), hc_M_feed (d := d + 2) (by rw [k7]; exact ⟨o3, o4⟩) _ ?_, ?_, fun _ => y_o _ _, ?_⟩
      · rw [if_neg hC, o2, if_neg c2]
        exact ⟨hk, rfl⟩
      · rw [if_pos hM, k7, if_neg c2]
      · rw [st_w_e, if_neg (by omega)]
        unfold fdM
        rw [if_neg (by omega), e_1]
      · have q : ∀ a f, ¬ (146 ≤ a ∧ a ≤ 149) → a ≠ 171 → ¬ (a = 166 ∧ (f = 7 ∨ f = 10)) → (st_w (fdM (st_w (fdI I p1 p2.toNatClampNeg) 166 10 (0 : Int32)) p1 p2.toNatClampNeg) 166 7 (Int32.ofNat ((I 166 7).toNatClampNeg + p2.toNatClampNeg))) a f = I a f := fun a f h1 h2 h3 => by
          rw [st_w_e, if_neg (by omega)]
          unfold fdM
          rw [if_neg (fun z => h2 z.1), st_w_e, if_neg (by omega), fdI_e h1]
        refine ⟨Rm_cg hm (q 1 2 (by omega) (by omega) (by omega)) (fun s _ => q 7 s (by omega) (by omega) (by omega)) (q 8 0 (by omega) (by omega) (by omega)) (q 166 6 (by omega) (by omega) (by omega)) (q 166 8 (by omega) (by omega) (by omega)) (fun s _ => q 170 s (by omega) (by omega) (by omega)) (rJ_o _ _), Rz_cg hz (q 1 3 (by omega) (by omega) (by omega)) (q 166 9 (by omega) (by omega) (by omega)) (q 166 11 (by omega) (by omega) (by omega)), ?_, fun c hc' => cr_cg (hc c hc') (fun f _ => q (150 + c) f (by omega) (by omega) (by omega)) (fun a h1 h2 => q a c (by omega) (by omega) (by omega)) (fun s _ => q 7 s (by omega) (by omega) (by omega))⟩
        have qo : ∀ a f, 146 ≤ a → a ≤ 149 → (st_w (fdM (st_w (fdI I p1 p2.toNatClampNeg) 166 10 (0 : Int32)) p1 p2.toNatClampNeg) 166 7 (Int32.ofNat ((I 166 7).toNatClampNeg + p2.toNatClampNeg))) a f = fdI I p1 p2.toNatClampNeg a f := fun a f h1 h2 => by
          rw [st_w_e, if_neg (by omega)]
          unfold fdM
          rw [if_neg (by omega), st_w_e, if_neg (by omega)]
        have q7 : (st_w (fdM (st_w (fdI I p1 p2.toNatClampNeg) 166 10 (0 : Int32)) p1 p2.toNatClampNeg) 166 7 (Int32.ofNat ((I 166 7).toNatClampNeg + p2.toNatClampNeg))) 166 7 = Int32.ofNat ((I 166 7).toNatClampNeg + p2.toNatClampNeg) := by rw [st_w_e, if_pos ⟨rfl, rfl⟩]
        unfold Ro
        rw [q 0 6 (by omega) (by omega) (by omega), q 0 7 (by omega) (by omega) (by omega), q7, qo (st_o (I 0 6)) 1 (by omega) (by omega), fdI_o, o2, oi_i (by omega), oi_n (by omega)]
        refine ⟨o1, rfl, by omega, by omega, fun k hk' => ?_⟩
        rw [qo (st_o (I 0 6) + 1) k (by omega) (by omega), st_w_e, if_neg (by omega)]
        unfold fdM
        rw [show (st_w (fdI I p1 p2.toNatClampNeg) 166 10 0) 166 7 = I 166 7 by rw [st_w_e, if_neg (by omega), k7]]
        by_cases z : (I 166 7).toNatClampNeg ≤ k
        · rw [if_pos ⟨rfl, z, hk'⟩]
          unfold fdI
          rw [o2, if_pos ⟨rfl, z, hk'⟩, byt_ob]
        · rw [if_neg (fun w => z w.2.1), st_w_e, if_neg (by omega), fdI_e (a := 171) (by omega)]
          unfold fdI
          rw [o2, if_neg (fun w => z w.2.1), if_neg (by omega)]
          exact o5 k (by omega)
  · refine ⟨I, J, 1, 1, 6, iv_L_feed _ ?_, by omega, by omega, st_w (st_w I 166 10 0) 166 10 1, J, 0, hc_M_feed (d := d + 2) ⟨o3, o4⟩ _ ?_, e_o _ _ _, fun h => absurd h (by decide), RR_ee ⟨hm, hz, ho, hc⟩ (fun _ _ _ => rfl)⟩
    · rw [if_pos (by rw [i32_lt, i32_lt, e1, e8]; omega)]
    · rw [if_neg (by rw [i64_lt, i64_lt, tl, f1, f8]; omega)]
