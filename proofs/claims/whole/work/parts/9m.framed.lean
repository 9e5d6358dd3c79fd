/-! packing, by the reference -/
theorem jl_0 (k : Int32) : jl (0 : Int64) k = 0 := by
  apply Int64.toBitVec_inj.mp
  rw [bs_jl]
  exact BitVec.zero_shiftLeft _
section MF
variable {X : pm_X} {d : Nat} {I : st_I} {J0 : st_J} {S : Nat} {U : Nat → Nat} {W : Nat → Nat → Int64}
def MFQ (J0 J : st_J) (n : Nat) (F : Nat → Int64) : Prop := (∀ a, a ≠ 169 → J a = J0 a) ∧ ∀ k, k < n → J 169 k = F k
theorem MFQ_s {J0 J : st_J} {n : Nat} {F F' : Nat → Int64} {x : Int64} (h : MFQ J0 J n F) (hx : x = F' n) (hF : ∀ k, k < n → F k = F' k) : MFQ J0 (st_y J 169 n x) (n + 1) F' := by
  refine ⟨fun a ha => by rw [st_y_o _ _ _ ha, h.1 a ha], fun k hk => ?_⟩
  rw [st_y_e]
  by_cases c : k = n
  · rw [if_pos ⟨rfl, c⟩, hx, c]
  · rw [if_neg (fun z => c z.2), h.2 k (by omega), hF k (by omega)]
theorem mf_105 (e6 : I 166 6 = Int32.ofNat S) (S4 : S ≤ 4) (eU : ∀ x, x < 4 → I 170 x = Int32.ofNat (U x) ∧ U x ≤ 64) (hW : ∀ s k, s < 4 → k < 64 → J0 167 (64 * s + k) = W s k) {s : Nat} (hs : s < S) {v2 : Int64} : ∀ m k, k + m = U s → ∀ J, MFQ J0 J (gcn S U s + k) (gat S U W (s + 1)) → ∃ L, MFQ J0 L (gcn S U (s + 1)) (gat S U W (s + 1)) ∧ ∃ u5, ∀ r, Gx X d (kc_M_framed, []) (93, [some (.ref 166), some (.int (Int32.ofNat (gcn S U (s + 1)))), some (.long v2), none, some (.int (Int32.ofNat (s + 1))), u5], [], st_h I L, 0, 0) r → Gx X d (kc_M_framed, []) (105, [some (.ref 166), some (.int (Int32.ofNat (gcn S U s + k))), some (.long v2), none, some (.int (Int32.ofNat s)), some (.int (Int32.ofNat k))], [], st_h I J, 0, 0) r := by
  have hg := gcn_le (S := S) (fun x hx => (eU x hx).2) S4 s (by omega)
  have e := eU s (by omega)
  intro m
  induction m with
  | zero =>
    intro k hk J hJ
    have hk' : k = U s := hk
    subst hk'
    refine ⟨J, hJ, some (.int (Int32.ofNat (U s))), fun r hr => (b_M_framed_105 r).mpr ⟨oi_in (by omega) (by omega), ?_⟩⟩
    rw [oi_n (by omega), if_neg (by rw [e.1, oi_lt (by omega) (by omega)]; omega), oi_a]
    exact hr
  | succ m ih =>
    intro k hk J hJ
    obtain ⟨L, hL, u5, hG⟩ := ih (k + 1) (by omega) (st_y J 169 (gcn S U s + k) (J 167 (64 * s + k))) (MFQ_s hJ (by
      rw [hJ.1 167 (by omega), hW s k (by omega) (by omega)]
      unfold gat
      rw [if_neg (by omega), show gcn S U s + k - gcn S U s = k by omega]) (fun _ _ => rfl))
    refine ⟨L, hL, u5, fun r hr => (b_M_framed_105 r).mpr ⟨oi_in (by omega) (by omega), ?_⟩⟩
    rw [oi_n (i := s) (by omega), if_pos (by rw [e.1, oi_lt (by omega) (by omega)]; omega), oi_64 (by omega) (by omega), oi_n (by omega), oi_n (by omega), oi_a, oi_a]
    exact ⟨oi_in (by omega) (by omega), oi_in (by omega) (by omega), hG r hr⟩
theorem mf_93 (e6 : I 166 6 = Int32.ofNat S) (S4 : S ≤ 4) (eU : ∀ x, x < 4 → I 170 x = Int32.ofNat (U x) ∧ U x ≤ 64) (hW : ∀ s k, s < 4 → k < 64 → J0 167 (64 * s + k) = W s k) {v2 : Int64} : ∀ m s, s + m = S → ∀ (J : st_J) (u5 : Option Value), MFQ J0 J (gcn S U s) (gat S U W s) → ∃ L, MFQ J0 L (gcn S U S) (gat S U W S) ∧ Gx X d (kc_M_framed, []) (93, [some (.ref 166), some (.int (Int32.ofNat (gcn S U s))), some (.long v2), none, some (.int (Int32.ofNat s)), u5], [], st_h I J, 0, 0) (.inl (some (.int (Int32.ofNat (gcn S U S)))), st_h I L, 0, 0) := by
  intro m
  induction m with
  | zero =>
    intro s hs J u5 hJ
    obtain rfl : s = S := hs
    refine ⟨J, hJ, (b_M_framed_93 _).mpr ?_⟩
    rw [if_neg (by rw [e6, oi_lt (by omega) (by omega)]; omega)]
  | succ m ih =>
    intro s hs J u5 hJ
    obtain ⟨L1, hL1, u, hG⟩ := mf_105 (X := X) (d := d) (v2 := v2) e6 S4 eU hW (s := s) (by omega) (U s) 0 (by omega) J ⟨hJ.1, fun k hk => by
      rw [hJ.2 k hk]
      show _ = if k < gcn S U s then _ else _
      rw [if_pos (by omega)]⟩
    obtain ⟨L, hL, hE⟩ := ih (s + 1) (by omega) L1 u hL1
    refine ⟨L, hL, (b_M_framed_93 _).mpr ?_⟩
    rw [if_pos (by rw [e6, oi_lt (by omega) (by omega)]; omega)]
    exact hG _ hE
theorem mf_13 (e6 : I 166 6 = Int32.ofNat S) (S1 : 1 ≤ S) (S4 : S ≤ 4) (eU : ∀ x, x < 4 → I 170 x = Int32.ofNat (U x) ∧ U x ≤ 64) (hW : ∀ s k, s < 4 → k < 64 → J0 167 (64 * s + k) = W s k) : ∀ m s, s + m = S → ∀ (J : st_J) (u5 : Option Value), MFQ J0 J ((s + 1) / 2) (hdg S U) → ∃ L, MFQ J0 L (gcn S U S) (gat S U W S) ∧ Gx X d (kc_M_framed, []) (13, [some (.ref 166), some (.int (Int32.ofNat ((s + 1) / 2))), some (.long (if s % 2 = 0 then nfr S U s else 0)), none, some (.int (Int32.ofNat s)), u5], [], st_h I J, 0, 0) (.inl (some (.int (Int32.ofNat (gcn S U S)))), st_h I L, 0, 0) := by
  have ir2 : ∀ n : Nat, n < 100 → ((irm (Int32.ofNat n) (2 : Int32)) = (0 : Int32) ↔ n % 2 = 0) := fun n hn => by
    have e : irm (Int32.ofNat n) (2 : Int32) = Int32.ofNat (n % 2) := by
      refine eq_of ?_
      rw [irm_ (by rw [oi_i (by omega)]; omega) (by decide), oi_i (by omega), show (2 : Int32).toInt = 2 from rfl]
      omega
    rw [e]
    exact oi_eq (b := 0) (by omega) (by omega)
  intro m
  induction m with
  | zero =>
    intro s hs J u5 hJ
    obtain rfl : s = S := hs
    by_cases c : s % 2 = 0
    · obtain ⟨L, hL, hE⟩ := mf_93 (X := X) (d := d) (v2 := nfr s U s) e6 S4 eU hW s 0 (by omega) (st_y J 169 ((s + 1) / 2) (nfr s U s)) u5 (by
        have z := MFQ_s (F' := hdg s U) (x := nfr s U s) hJ (by
          unfold hdg
          rw [show 2 * ((s + 1) / 2) = s by omega]
          have e0 : nfr s U (s + 1) = 0 := by
            unfold nfr
            rw [if_neg (by omega), if_pos (by omega)]
          rw [e0, jl_0, Int64.or_zero]) (fun _ _ => rfl)
        rw [show (s + 1) / 2 + 1 = s / 2 + 1 by omega] at z
        exact z)
      refine ⟨L, hL, (b_M_framed_13 _).mpr ?_⟩
      rw [if_neg (by rw [e6, oi_lt (by omega) (by omega)]; omega), if_pos (by rw [e6]; exact (ir2 s (by omega)).mpr c), if_pos c, oi_a, oi_n (by omega)]
      refine ⟨oi_in (by omega) (by omega), ?_⟩
      rw [show (s + 1) / 2 + 1 = gcn s U 0 by show _ = s / 2 + 1; omega]
      exact hE
    · obtain ⟨L, hL, hE⟩ := mf_93 (X := X) (d := d) (v2 := 0) e6 S4 eU hW s 0 (by omega) J u5 (by
        rw [show (s + 1) / 2 = s / 2 + 1 by omega] at hJ
        exact hJ)
      refine ⟨L, hL, (b_M_framed_13 _).mpr ?_⟩
      rw [if_neg (by rw [e6, oi_lt (by omega) (by omega)]; omega), if_neg (by rw [e6]; exact fun z => c ((ir2 s (by omega)).mp z)), if_neg c, show (s + 1) / 2 = gcn s U 0 by show _ = s / 2 + 1; omega]
      exact hE
  | succ m ih =>
    intro s hs J u5 hJ
    have e := eU s (by omega)
    by_cases c : s % 2 = 0
    · obtain ⟨L, hL, hE⟩ := ih (s + 1) (by omega) (st_y J 169 ((s + 1) / 2) (nfr S U s ||| jl (Int32.toInt64 (I 170 s)) 32)) u5 (by
        have z := MFQ_s (F' := hdg S U) (x := nfr S U s ||| jl (Int32.toInt64 (I 170 s)) 32) hJ (by
          unfold hdg
          rw [show 2 * ((s + 1) / 2) = s by omega]
          congr 2
          unfold nfr
          rw [if_neg (by omega), if_neg (by omega), Nat.add_sub_cancel, e.1]) (fun _ _ => rfl)
        rw [show (s + 1) / 2 + 1 = (s + 1 + 1) / 2 by omega] at z
        exact z)
      refine ⟨L, hL, (b_M_framed_13 _).mpr ?_⟩
      rw [if_neg (show ¬ (s + 1) % 2 = 0 by omega), show (s + 1 + 1) / 2 = (s + 1) / 2 + 1 by omega] at hE
      rw [if_pos (by rw [e6, oi_lt (by omega) (by omega)]; omega), if_pos ((ir2 s (by omega)).mpr c), if_pos c, oi_a, oi_a, oi_n (by omega), oi_n (by omega)]
      exact ⟨oi_in (by omega) (by omega), oi_in (by omega) (by omega), hE⟩
    · obtain ⟨L, hL, hE⟩ := ih (s + 1) (by omega) J u5 (by
        rw [show (s + 1 + 1) / 2 = (s + 1) / 2 by omega]
        exact hJ)
      refine ⟨L, hL, (b_M_framed_13 _).mpr ?_⟩
      rw [if_pos (show (s + 1) % 2 = 0 by omega), show (s + 1 + 1) / 2 = (s + 1) / 2 by omega] at hE
      have en : nfr S U (s + 1) = Int32.toInt64 (I 170 s) := by
        unfold nfr
        rw [if_neg (by omega), if_neg (by omega), Nat.add_sub_cancel, e.1]
      rw [en] at hE
      rw [if_pos (by rw [e6, oi_lt (by omega) (by omega)]; omega), if_neg (fun z => c ((ir2 s (by omega)).mp z)), oi_a, oi_n (by omega)]
      exact ⟨oi_in (by omega) (by omega), hE⟩
theorem mf_ex_ (e6 : I 166 6 = Int32.ofNat S) (S1 : 1 ≤ S) (S4 : S ≤ 4) (eU : ∀ x, x < 4 → I 170 x = Int32.ofNat (U x) ∧ U x ≤ 64) (hW : ∀ s k, s < 4 → k < 64 → J0 167 (64 * s + k) = W s k) : ∃ L, MFQ J0 L (gcn S U S) (gat S U W S) ∧ Ex X (d + 1) 221 [.ref 166] (st_h I J0) (.inl (some (.int (Int32.ofNat (gcn S U S)))), st_h I L, 0, 0) := by
  obtain ⟨L, hL, hE⟩ := mf_13 (X := X) (d := d) e6 S1 S4 eU hW S 0 (by omega) J0 none ⟨fun _ _ => rfl, fun k hk => by omega⟩
  refine ⟨L, hL, (e_M_framed _).mpr ?_⟩
  rw [e6]
  exact hE
end MF
