/-! the pure machine by itself: what is counted only grows; where nothing is made, the heap keeps its length -/
/-- an instruction that makes cells -/
def pm_isN : Instr → pm_L → Bool
  | .new _, L => !(Nat.beq L.1.length 3)
  | .newarray _, _ => true
  | .anewarray _, _ => true
  | .multianewarray _ _, _ => true
  | _, _ => false
def pm_Gr (b : Bool) (x x' : pm_S) : Prop := x.2.2.2.2.1 ≤ x'.2.2.2.2.1 ∧ x.2.2.2.2.2 ≤ x'.2.2.2.2.2 ∧ (b = false → x'.2.2.2.1.length = x.2.2.2.1.length) ∧ x.2.2.2.1.length ≤ x'.2.2.2.1.length
theorem pm_Gr.rf {b : Bool} {x x' : pm_S} (h : x'.2.2.2 = x.2.2.2) : pm_Gr b x x' := by
  unfold pm_Gr
  rw [h]
  exact ⟨Nat.le_refl _, Nat.le_refl _, fun _ => rfl, Nat.le_refl _⟩
theorem pm_on_g {b : Bool} {pc len : Nat} {ls : pm_V} {st : List Value} {h : pm_H} {c k : Nat} {o : Option (List Value)} {x' : pm_S} (hx : pm_on pc len ls h c k o = some x') : pm_Gr b (pc, ls, st, h, c, k) x' := by
  unfold pm_on at hx
  cases o with
  | none => cases hx
  | some v => cases hx; exact pm_Gr.rf rfl
theorem pm_sto_g {b : Bool} {pc len : Nat} {ls : pm_V} {st : List Value} {h : pm_H} {c k : Nat} {o : Option (pm_V × List Value)} {x' : pm_S} (hx : pm_sto pc len h c k o = some x') : pm_Gr b (pc, ls, st, h, c, k) x' := by
  unfold pm_sto at hx
  cases o with
  | none => cases hx
  | some v => cases hx; exact pm_Gr.rf rfl
theorem pm_hp_g {b : Bool} {pc len : Nat} {ls : pm_V} {st r : List Value} {h : pm_H} {c k : Nat} {o : Option pm_H} {x' : pm_S} (ho : ∀ h', o = some h' → h'.length = h.length) (hx : pm_hp pc len ls r c k o = some x') : pm_Gr b (pc, ls, st, h, c, k) x' := by
  unfold pm_hp at hx
  cases o with
  | none => cases hx
  | some v =>
    cases hx
    exact ⟨Nat.le_refl _, Nat.le_refl _, fun _ => ho v rfl, Nat.le_of_eq (ho v rfl).symm⟩
theorem pm_put_l {h h' : pm_H} {a ci k t : Nat} {v : Value} (hf : pm_put h a ci k t v = some h') : h'.length = h.length := by
  obtain ⟨fs, -, -, -, rfl⟩ := pm_put_s hf
  exact List.length_set
theorem pm_ast_l {h h' : pm_H} {a t : Nat} {i : Int32} {v : Value} (hv : pm_ast h a t i v = some h') : h'.length = h.length := by
  obtain ⟨t', n, -, h1⟩ := pm_ast_s hv
  rcases h1 with ⟨-, -, f, y, -, -, rfl⟩ | ⟨-, -, f, y, -, -, rfl⟩ | ⟨-, -, f, y, -, -, rfl⟩ | ⟨-, -, f, y, -, -, rfl⟩ | ⟨-, f, y, -, -, -, rfl⟩ <;> exact List.length_set
theorem pm_cpy_l {h h' : pm_H} {a0 a : Nat} {sp dp n : Int32} (hv : pm_cpy h a0 sp a dp n = some h') : h'.length = h.length := by
  obtain ⟨n0, n1, f, g, -, -, -, -, -, -, -, rfl⟩ := pm_cpy_s hv
  exact List.length_set
theorem pm_getf_g {b : Bool} {pc len : Nat} {ls : pm_V} {st : List Value} {h : pm_H} {c k : Nat} {L : List Nat} {x' : pm_S} (hx : pm_getf pc len ls h c k L st = some x') : pm_Gr b (pc, ls, st, h, c, k) x' := by
  unfold pm_getf at hx
  split at hx
  · exact pm_on_g hx
  · cases hx
theorem pm_putf_g {b : Bool} {pc len : Nat} {ls : pm_V} {st : List Value} {h : pm_H} {c k : Nat} {L : List Nat} {x' : pm_S} (hx : pm_putf pc len ls h c k L st = some x') : pm_Gr b (pc, ls, st, h, c, k) x' := by
  unfold pm_putf at hx
  split at hx
  · exact pm_hp_g (fun h' e => pm_put_l e) hx
  · cases hx
theorem pm_aldS_g {b : Bool} {X : pm_X} {t pc len : Nat} {ls : pm_V} {st : List Value} {h : pm_H} {c k : Nat} {x' : pm_S} (hx : pm_aldS X t pc len ls h c k st = some x') : pm_Gr b (pc, ls, st, h, c, k) x' := by
  unfold pm_aldS at hx
  split at hx
  · exact pm_on_g hx
  · exact pm_on_g (pm_cnd2 hx).2
  · cases hx
theorem pm_astS_g {b : Bool} {t pc len : Nat} {ls : pm_V} {st : List Value} {h : pm_H} {c k : Nat} {x' : pm_S} (hx : pm_astS t pc len ls h c k st = some x') : pm_Gr b (pc, ls, st, h, c, k) x' := by
  unfold pm_astS at hx
  split at hx
  · exact pm_hp_g (fun h' e => pm_ast_l e) hx
  · cases hx
theorem pm_lenS_g {b : Bool} {X : pm_X} {pc len : Nat} {ls : pm_V} {st : List Value} {h : pm_H} {c k : Nat} {x' : pm_S} (hx : pm_lenS X pc len ls h c k st = some x') : pm_Gr b (pc, ls, st, h, c, k) x' := by
  unfold pm_lenS at hx
  split at hx
  · exact pm_on_g hx
  · obtain ⟨-, rfl⟩ := pm_cnd hx; exact pm_Gr.rf rfl
  · cases hx
theorem pm_jmp1_g {b : Bool} {cd : Jvm.ClassFile.Cond} {pc len : Nat} {ls : pm_V} {st : List Value} {h : pm_H} {c k : Nat} {L : List Nat} {x' : pm_S} (hx : pm_jmp1 cd pc len ls h c k L st = some x') : pm_Gr b (pc, ls, st, h, c, k) x' := by
  unfold pm_jmp1 at hx
  split at hx
  · cases hx; exact pm_Gr.rf rfl
  · cases hx
theorem pm_jmp2_g {b : Bool} {cd : Jvm.ClassFile.Cond} {pc len : Nat} {ls : pm_V} {st : List Value} {h : pm_H} {c k : Nat} {L : List Nat} {x' : pm_S} (hx : pm_jmp2 cd pc len ls h c k L st = some x') : pm_Gr b (pc, ls, st, h, c, k) x' := by
  unfold pm_jmp2 at hx
  split at hx
  · cases hx; exact pm_Gr.rf rfl
  · cases hx
theorem pm_tab_g {b : Bool} {lo : Int} {pc : Nat} {ls : pm_V} {st : List Value} {h : pm_H} {c k : Nat} {L : List Nat} {x' : pm_S} (hx : pm_tab lo ls h c k L st = some x') : pm_Gr b (pc, ls, st, h, c, k) x' := by
  unfold pm_tab at hx
  split at hx
  · cases hx; exact pm_Gr.rf rfl
  · cases hx
theorem pm_go1_g {b : Bool} {pc : Nat} {ls : pm_V} {st : List Value} {h : pm_H} {c k : Nat} {L : List Nat} {x' : pm_S} (hx : pm_go1 ls st h c k L = some x') : pm_Gr b (pc, ls, st, h, c, k) x' := by
  unfold pm_go1 at hx
  split at hx
  · cases hx; exact pm_Gr.rf rfl
  · cases hx
theorem pm_prim_g {b : Bool} {pc len : Nat} {ls : pm_V} {st : List Value} {h : pm_H} {c k : Nat} {L : List Nat} {x' : pm_S} (hx : pm_prim pc len ls h c k L st = some x') : pm_Gr b (pc, ls, st, h, c, k) x' := by
  unfold pm_prim at hx
  split at hx
  · obtain ⟨-, rfl⟩ := pm_cnd hx; exact pm_Gr.rf rfl
  · exact pm_hp_g (fun h' e => pm_cpy_l e) (pm_cnd2 hx).2
  · cases hx
theorem pm_newo_g {D : Nat → List Value} {pc len : Nat} {ls : pm_V} {st : List Value} {h : pm_H} {c k : Nat} {L : List Nat} {x' : pm_S} (hx : pm_newo D pc len ls st h c k L = some x') : pm_Gr true (pc, ls, st, h, c, k) x' := by
  unfold pm_newo at hx
  split at hx
  · obtain ⟨-, rfl⟩ := pm_cnd hx; exact ⟨Nat.le_add_right _ _, Nat.le_add_right _ _, (fun q => by cases q), by show h.length ≤ (h ++ _).length; rw [List.length_append]; exact Nat.le_add_right _ _⟩
  · cases hx
theorem pm_newa_g {pc len : Nat} {ls : pm_V} {st : List Value} {h : pm_H} {c k : Nat} {L : List Nat} {x' : pm_S} (hx : pm_newa pc len ls h c k L st = some x') : pm_Gr true (pc, ls, st, h, c, k) x' := by
  unfold pm_newa at hx
  split at hx
  · obtain ⟨-, rfl⟩ := pm_cnd hx; exact ⟨Nat.le_add_right _ _, Nat.le_add_right _ _, (fun q => by cases q), by show h.length ≤ (h ++ _).length; rw [List.length_append]; exact Nat.le_add_right _ _⟩
  · cases hx
theorem pm_newm_g {pc len : Nat} {ls : pm_V} {st : List Value} {h : pm_H} {c k : Nat} {L : List Nat} {x' : pm_S} (hx : pm_newm pc len ls h c k L st = some x') : pm_Gr true (pc, ls, st, h, c, k) x' := by
  unfold pm_newm at hx
  split at hx
  · obtain ⟨-, rfl⟩ := pm_cnd hx
    refine ⟨?_, ?_, (fun q => by cases q), by show h.length ≤ (h ++ _).length; rw [List.length_append]; exact Nat.le_add_right _ _⟩
    · show c ≤ c + 1 + _
      omega
    · show k ≤ k + _ + _
      omega
  · cases hx
theorem pm_inc_g {b : Bool} {pc len i : Nat} {n : Int} {ls : pm_V} {st : List Value} {h : pm_H} {c k : Nat} {x' : pm_S} (hx : ((pm_inc ls i n).map fun l => (pc + len, l, st, h, c, k)) = some x') : pm_Gr b (pc, ls, st, h, c, k) x' := by
  cases ho : pm_inc ls i n with
  | none => rw [ho] at hx; cases hx
  | some v => rw [ho] at hx; cases hx; exact pm_Gr.rf rfl
set_option maxHeartbeats 4000000 in
theorem pm_mem_g {X : pm_X} {D : Nat → List Value} {i : Instr} {len : Nat} {L : pm_L} {pc : Nat} {ls : pm_V} {st : List Value} {h : pm_H} {c k : Nat} {x' : pm_S} (hk : pm_kind i L = 1) (hx : pm_mem X D i len L pc ls st h c k = some x') : pm_Gr (pm_isN i L) (pc, ls, st, h, c, k) x' := by
  cases i with
  | iload_n n => exact pm_on_g hx
  | iload n => exact pm_on_g hx
  | lload_n n => exact pm_on_g hx
  | lload n => exact pm_on_g hx
  | dload_n n => exact pm_on_g hx
  | dload n => exact pm_on_g hx
  | aload_n n => exact pm_on_g hx
  | aload n => exact pm_on_g hx
  | istore_n n => exact pm_sto_g hx
  | istore n => exact pm_sto_g hx
  | lstore_n n => exact pm_sto_g hx
  | lstore n => exact pm_sto_g hx
  | dstore_n n => exact pm_sto_g hx
  | dstore n => exact pm_sto_g hx
  | astore_n n => exact pm_sto_g hx
  | astore n => exact pm_sto_g hx
  | iinc n d => exact pm_inc_g hx
  | goto o => exact pm_go1_g hx
  | ifCond cd o => exact pm_jmp1_g hx
  | if_icmp cd o => exact pm_jmp2_g hx
  | tableswitch df lo hi offs => exact pm_tab_g hx
  | ldc n => cases hx; exact pm_Gr.rf rfl
  | ldc_w n => cases hx; exact pm_Gr.rf rfl
  | ldc2_w n => cases hx; exact pm_Gr.rf rfl
  | getstatic n => cases hx; exact pm_Gr.rf rfl
  | getfield n => exact pm_getf_g hx
  | putfield n => exact pm_putf_g hx
  | iaload => exact pm_aldS_g hx
  | laload => exact pm_aldS_g hx
  | baload => exact pm_aldS_g hx
  | daload => exact pm_aldS_g hx
  | aaload => exact pm_aldS_g hx
  | iastore => exact pm_astS_g hx
  | lastore => exact pm_astS_g hx
  | bastore => exact pm_astS_g hx
  | dastore => exact pm_astS_g hx
  | aastore => exact pm_astS_g hx
  | arraylength => exact pm_lenS_g hx
  | new n =>
    have e : pm_isN (.new n) L = true := by
      cases hl : Nat.beq L.1.length 3 with
      | false => show (!(Nat.beq L.1.length 3)) = true; rw [hl]; rfl
      | true =>
        have : pm_kind (.new n) L = 3 := by show (bif Nat.beq L.1.length 3 then 3 else 1) = 3; rw [hl]; rfl
        rw [this] at hk
        cases hk
    rw [e]
    exact pm_newo_g hx
  | newarray n => exact pm_newa_g hx
  | anewarray n => exact pm_newa_g hx
  | multianewarray n d => exact pm_newm_g hx
  | invokestatic n => exact pm_prim_g hx
  | invokespecial n => exact pm_prim_g hx
  | _ => cases hx
