/-! copying, by the reference -/
theorem ld_d {W : Nat → Nat → Int64} {U : Nat → Nat} {S A s k D : Nat} {v : V8 × Nat} (h : ld W U S A s k (D + 1) = some v) (h0 : v.1.1 ≠ 0) : v.1.2.1 = D := by
  unfold ld at h
  split at h
  · injection h with h
    rw [← h] at h0
    exact absurd rfl h0
  · split at h
    · cases h
    · rw [if_neg (by omega)] at h
      split at h
      · cases h
      · injection h with h
        rw [← h]
        rfl
theorem cin_m {f : Nat → Nat → CR → CO} (hf : ∀ k t g g', f k t g = .inl g' → g.2.1 ≤ g'.2.1) {a b : Nat} : ∀ m j g g', cin f a b m j g = .inl g' → g.2.1 ≤ g'.2.1 := by
  intro m
  induction m with
  | zero =>
    intro j g g' h
    injection h with h
    rw [h]
    exact Nat.le_refl _
  | succ m ih =>
    intro j g g' h
    unfold cin at h
    split at h
    · rename_i g1 h1
      exact Nat.le_trans (hf _ _ _ _ h1) (ih _ _ _ h)
    · cases h
theorem cout_m {f : Nat → Nat → CR → CO} (hf : ∀ k t g g', f k t g = .inl g' → g.2.1 ≤ g'.2.1) {q : P7} : ∀ m e g g', cout f q m e g = .inl g' → g.2.1 ≤ g'.2.1 := by
  intro m
  induction m with
  | zero =>
    intro e g g' h
    injection h with h
    rw [h]
    exact Nat.le_refl _
  | succ m ih =>
    intro e g g' h
    unfold cout at h
    split at h
    · rename_i g1 h1
      exact Nat.le_trans (cin_m hf _ _ _ _ h1) (ih _ _ _ h)
    · cases h
theorem cpy_m {W : Nat → Nat → Int64} {U : Nat → Nat} {S : Nat} : ∀ D s k t g g', cpy W U S D s k t g = .inl g' → g.2.1 ≤ g'.2.1 := by
  intro D
  induction D with
  | zero =>
    intro s k t g g' h
    unfold cpy at h
    split at h
    · cases h
    · injection h with h
      rw [← h]
      exact Nat.le_refl _
  | succ D ih =>
    intro s k t g g' h
    unfold cpy at h
    split at h
    · cases h
    · split at h
      · injection h with h
        rw [← h]
        exact Nat.le_refl _
      · split at h
        · cases h
        · have := cout_m (fun k' t' g g' h => ih _ k' t' g g' h) _ _ _ _ h
          dsimp only at this
          omega
def MR (W : Nat → Nat → Int64) (U : Nat → Nat) (S : Nat) (I : st_I) (J : st_J) : Prop := I 166 6 = Int32.ofNat S ∧ (1 ≤ S ∧ S ≤ 4) ∧ (∀ x, x < 4 → I 170 x = Int32.ofNat (U x) ∧ U x ≤ 64) ∧ (∀ s k, s < 4 → k < 64 → J 167 (64 * s + k) = W s k)
def RS (I : st_I) (J : st_J) (g : CR) : Prop := (I 166 8 = Int32.ofNat g.1 ∧ g.1 ≤ 100000) ∧ g.2.1 ≤ 64 ∧ ∀ k, k < 64 → J 168 k = g.2.2 k
def RF (I I' : st_I) (J J' : st_J) : Prop := (∀ a f, ¬ (173 ≤ a ∧ a ≤ 182 ∧ f = 16) → ¬ (183 ≤ a ∧ a ≤ 186) → ¬ (a = 166 ∧ (f = 8 ∨ f = 10 ∨ f = 26)) → I' a f = I a f) ∧ (∀ a, a ≠ 168 → J' a = J a)
theorem RF_t {I I1 I2 : st_I} {J J1 J2 : st_J} (h1 : RF I I1 J J1) (h2 : RF I1 I2 J1 J2) : RF I I2 J J2 := ⟨fun a f q1 q2 q3 => (h2.1 a f q1 q2 q3).trans (h1.1 a f q1 q2 q3), fun a q => (h2.2 a q).trans (h1.2 a q)⟩
theorem MR_f {W : Nat → Nat → Int64} {U : Nat → Nat} {S : Nat} {I I' : st_I} {J J' : st_J} (h : MR W U S I J) (hf : RF I I' J J') : MR W U S I' J' := ⟨(hf.1 166 6 (by omega) (by omega) (by omega)).trans h.1, h.2.1, fun x hx => ⟨(hf.1 170 x (by omega) (by omega) (by omega)).trans (h.2.2.1 x hx).1, (h.2.2.1 x hx).2⟩, fun s k hs hk => by rw [hf.2 167 (by omega)]; exact h.2.2.2 s k hs hk⟩
def RG (X : pm_X) (d : Nat) (B : List IT) (I : st_I) (J : st_J) (o : CO) (G : pm_R → Prop) : Prop := match o with
  | .inl g => ∃ I' J' u2 u3, RF I I' J J' ∧ RS I' J' g ∧ PS I' B ∧ I' 166 10 = 0 ∧ ∀ r, Gx X (d + 4) (kc_M_canonical, []) (66, [some (.ref 166), some (.int (Int32.ofNat g.2.1)), u2, u3], [], st_h I' J', 0, 0) r → G r
  | .inr x => ∃ I' J', RF I I' J J' ∧ (I' 166 8 = Int32.ofNat x.2 ∧ x.2 ≤ 100000) ∧ ((x.1 = 2 ∧ I' 166 10 = 1) ∨ (x.1 = 3 ∧ I' 166 10 = 2)) ∧ G (.inl (some (.int 0)), st_h I' J', 0, 0)
theorem RG_i {X : pm_X} {d : Nat} {B : List IT} {I I1 : st_I} {J J1 : st_J} {o : CO} {G G' : pm_R → Prop} (hf : RF I I1 J J1) (h : RG X d B I1 J1 o G) (hG : ∀ r, G r → G' r) : RG X d B I J o G' := by
  cases o with
  | inl g =>
    obtain ⟨I', J', u2, u3, h1, h2, h3, h4, h5⟩ := h
    exact ⟨I', J', u2, u3, RF_t hf h1, h2, h3, h4, fun r hr => hG r (h5 r hr)⟩
  | inr x =>
    obtain ⟨I', J', h1, h2, h3, h4⟩ := h
    exact ⟨I', J', RF_t hf h1, h2, h3, hG _ h4⟩
section RCP
variable {X : pm_X} {W : Nat → Nat → Int64} {U : Nat → Nat} {S : Nat} {d : Nat}
/-- an item of the pile, worked off -/
def RC (X : pm_X) (W : Nat → Nat → Int64) (U : Nat → Nat) (S D d : Nat) : Prop := ∀ (B : List IT) (s k t : Nat) (I : st_I) (J : st_J) (g : CR) (u2 u3 : Option Value), s < 4 → k < 64 → t < 64 → B.length + 1 ≤ g.2.1 → MR W U S I J → RS I J g → PS I (B ++ [(s, k, t, D)]) → I 166 10 = 0 → RG X d B I J (cpy W U S D s k t g) (Gx X (d + 4) (kc_M_canonical, []) (66, [some (.ref 166), some (.int (Int32.ofNat g.2.1)), u2, u3], [], st_h I J, 0, 0))
theorem RG_0 {B : List IT} {I : st_I} {J : st_J} {g : CR} {u2 u3 : Option Value} (h1 : RS I J g) (h2 : PS I B) (h3 : I 166 10 = 0) : RG X d B I J (.inl g) (Gx X (d + 4) (kc_M_canonical, []) (66, [some (.ref 166), some (.int (Int32.ofNat g.2.1)), u2, u3], [], st_h I J, 0, 0)) := ⟨I, J, u2, u3, ⟨fun _ _ _ _ _ => rfl, fun _ _ => rfl⟩, h1, h2, h3, fun _ hr => hr⟩
theorem rc_in {D : Nat} (ih : RC X W U S D d) {sg a b : Nat} (hsg : sg < 4) {p : Nat} (hab : a + p ≤ 64 ∧ b + p ≤ 64) {B : List IT} : ∀ m j, j + m = p → ∀ (I : st_I) (J : st_J) (g : CR) (u2 u3 : Option Value), B.length + m ≤ g.2.1 → MR W U S I J → RS I J g → PS I (B ++ rin sg D a b m j) → I 166 10 = 0 → RG X d B I J (cin (fun k' t' g' => cpy W U S D sg k' t' g') a b m j g) (Gx X (d + 4) (kc_M_canonical, []) (66, [some (.ref 166), some (.int (Int32.ofNat g.2.1)), u2, u3], [], st_h I J, 0, 0)) := by
  intro m
  induction m with
  | zero =>
    intro j hj I J g u2 u3 hB hM hC hS h10
    have hS' : PS I (B ++ []) := hS
    rw [List.append_nil] at hS'
    exact RG_0 hC hS' h10
  | succ m ihm =>
    intro j hj I J g u2 u3 hB hM hC hS h10
    have hS' : PS I (B ++ (rin sg D a b m (j + 1) ++ [(sg, a + j, b + j, D)])) := hS
    rw [← List.append_assoc] at hS'
    have hlen : (B ++ rin sg D a b m (j + 1)).length = B.length + m := by rw [List.length_append, rin_len]
    have call := ih (B ++ rin sg D a b m (j + 1)) sg (a + j) (b + j) I J g u2 u3 hsg (by omega) (by omega) (by omega) hM hC hS' h10
    unfold cin
    cases hc : cpy W U S D sg (a + j) (b + j) g with
    | inl g1 =>
      have hmono := cpy_m _ _ _ _ _ _ hc
      rw [hc] at call
      obtain ⟨I1, J1, w2, w3, f1, f2, f3, f4, f5⟩ := call
      exact RG_i f1 (ihm (j + 1) (by omega) I1 J1 g1 w2 w3 (by omega) (MR_f hM f1) f2 f3 f4) f5
    | inr x =>
      rw [hc] at call
      exact call
theorem rc_out {D : Nat} (ih : RC X W U S D d) {sg : Nat} (hsg : sg < 4) {q : P7} (hb : ∀ e, e < q.1 → q.2.2.2.2.2.2 ≠ 0 → q.2.1 + e * (q.2.2.1 + q.2.2.2.1) + q.2.2.1 + q.2.2.2.2.2.2 ≤ 64 ∧ q.2.2.2.2.1 + e * (q.2.2.2.2.2.1 + q.2.2.2.2.2.2) + q.2.2.2.2.2.1 + q.2.2.2.2.2.2 ≤ 64) {B : List IT} : ∀ m e, e + m = q.1 → ∀ (I : st_I) (J : st_J) (g : CR) (u2 u3 : Option Value), B.length + m * q.2.2.2.2.2.2 ≤ g.2.1 → MR W U S I J → RS I J g → PS I (B ++ rout sg D q m e) → I 166 10 = 0 → RG X d B I J (cout (fun k' t' g' => cpy W U S D sg k' t' g') q m e g) (Gx X (d + 4) (kc_M_canonical, []) (66, [some (.ref 166), some (.int (Int32.ofNat g.2.1)), u2, u3], [], st_h I J, 0, 0)) := by
  intro m
  induction m with
  | zero =>
    intro e he I J g u2 u3 hB hM hC hS h10
    have hS' : PS I (B ++ []) := hS
    rw [List.append_nil] at hS'
    exact RG_0 hC hS' h10
  | succ m ihm =>
    intro e he I J g u2 u3 hB hM hC hS h10
    obtain ⟨a, ha⟩ : ∃ a, a = q.2.1 + e * (q.2.2.1 + q.2.2.2.1) + q.2.2.1 := ⟨_, rfl⟩
    obtain ⟨b, hbb⟩ : ∃ b, b = q.2.2.2.2.1 + e * (q.2.2.2.2.2.1 + q.2.2.2.2.2.2) + q.2.2.2.2.2.1 := ⟨_, rfl⟩
    have hS' : PS I (B ++ (rout sg D q m (e + 1) ++ rin sg D (q.2.1 + e * (q.2.2.1 + q.2.2.2.1) + q.2.2.1) (q.2.2.2.2.1 + e * (q.2.2.2.2.2.1 + q.2.2.2.2.2.2) + q.2.2.2.2.2.1) q.2.2.2.2.2.2 0)) := hS
    rw [← List.append_assoc, ← ha, ← hbb] at hS'
    have hlen : (B ++ rout sg D q m (e + 1)).length = B.length + m * q.2.2.2.2.2.2 := by rw [List.length_append, rout_len]
    rw [Nat.succ_mul] at hB
    have inn : RG X d (B ++ rout sg D q m (e + 1)) I J (cin (fun k' t' g' => cpy W U S D sg k' t' g') a b q.2.2.2.2.2.2 0 g) (Gx X (d + 4) (kc_M_canonical, []) (66, [some (.ref 166), some (.int (Int32.ofNat g.2.1)), u2, u3], [], st_h I J, 0, 0)) := by
      by_cases p0 : q.2.2.2.2.2.2 = 0
      · rw [p0] at hS' ⊢
        have hS2 : PS I (B ++ rout sg D q m (e + 1) ++ []) := hS'
        rw [List.append_nil] at hS2
        exact RG_0 hC hS2 h10
      · have hh := hb e (by omega) p0
        exact rc_in ih hsg (p := q.2.2.2.2.2.2) (by omega) q.2.2.2.2.2.2 0 (by omega) I J g u2 u3 (by omega) hM hC hS' h10
    unfold cout
    rw [← ha, ← hbb]
    cases hc : cin (fun k' t' g' => cpy W U S D sg k' t' g') a b q.2.2.2.2.2.2 0 g with
    | inl g1 =>
      have hmono := cin_m (fun k' t' g g' h => cpy_m _ _ _ _ _ _ h) _ _ _ _ hc
      rw [hc] at inn
      obtain ⟨I1, J1, w2, w3, f1, f2, f3, f4, f5⟩ := inn
      exact RG_i f1 (ihm (e + 1) (by omega) I1 J1 g1 w2 w3 (by omega) (MR_f hM f1) f2 f3 f4) f5
    | inr x =>
      rw [hc] at inn
      exact inn
end RCP
