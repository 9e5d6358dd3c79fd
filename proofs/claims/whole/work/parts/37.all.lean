/-! all methods together (printed by gen6.py) -/
theorem pc_OKl {s0 : State} (hS : pm_Str s0) : ∀ I ∈ pc_MIl, pm_OKI s0 I := by
  unfold pc_MIl
  refine pk_c (ok_D_init hS) ?_
  refine pk_c (ok_Me_init hS) ?_
  refine pk_c (ok_Re_init hS) ?_
  refine pk_c (ok_Bu_init hS) ?_
  refine pk_c (ok_Fr_init hS) ?_
  refine pk_c (ok_Ca_init hS) ?_
  refine pk_c (ok_Le_init hS) ?_
  refine pk_c (ok_Sp_init hS) ?_
  refine pk_c (ok_Oc_init hS) ?_
  refine pk_c (ok_D_drop hS) ?_
  refine pk_c (ok_L_segment hS) ?_
  refine pk_c (ok_D_segment hS) ?_
  refine pk_c (ok_D_badIf hS) ?_
  refine pk_c (ok_D_isWithin hS) ?_
  refine pk_c (ok_Me_renew hS) ?_
  refine pk_c (ok_JA_fill hS) ?_
  refine pk_c (ok_D_cursorsToNothing hS) ?_
  refine pk_c (ok_Sp_toNothing hS) ?_
  refine pk_c (ok_Sp_stand hS) ?_
  refine pk_c (ok_L_word hS) ?_
  refine pk_c (ok_D_word hS) ?_
  refine pk_c (ok_Me_holds hS) ?_
  refine pk_c (ok_L_at hS) ?_
  refine pk_c (ok_D_at hS) ?_
  refine pk_c (ok_L_allow hS) ?_
  refine pk_c (ok_D_allow hS) ?_
  refine pk_c (ok_L_root hS) ?_
  refine pk_c (ok_D_root hS) ?_
  refine pk_c (ok_D_isCursor hS) ?_
  refine pk_c (ok_D_malformedIf hS) ?_
  refine pk_c (ok_Re_lead hS) ?_
  refine pk_c (ok_Re_find hS) ?_
  refine pk_c (ok_Po_kind hS) ?_
  refine pk_c (ok_Re_findNear hS) ?_
  refine pk_c (ok_Po_isNear hS) ?_
  refine pk_c (ok_Po_offset hS) ?_
  refine pk_c (ok_Po_farSegment hS) ?_
  refine pk_c (ok_Po_farPlace hS) ?_
  refine pk_c (ok_Po_isDouble hS) ?_
  refine pk_c (ok_Re_findDouble hS) ?_
  refine pk_c (ok_Re_leadToStruct hS) ?_
  refine pk_c (ok_Po_data hS) ?_
  refine pk_c (ok_Po_pointers hS) ?_
  refine pk_c (ok_Re_checkWithin hS) ?_
  refine pk_c (ok_Re_charge hS) ?_
  refine pk_c (ok_Sp_toStruct hS) ?_
  refine pk_c (ok_Po_code hS) ?_
  refine pk_c (ok_Re_leadToStructs hS) ?_
  refine pk_c (ok_Po_elements hS) ?_
  refine pk_c (ok_Sp_toStructs hS) ?_
  refine pk_c (ok_Re_leadToList hS) ?_
  refine pk_c (ok_D_listWords hS) ?_
  refine pk_c (ok_Sp_toList hS) ?_
  refine pk_c (ok_L_follow hS) ?_
  refine pk_c (ok_D_follow hS) ?_
  refine pk_c (ok_Sp_isPointerList hS) ?_
  refine pk_c (ok_D_kindIf hS) ?_
  refine pk_c (ok_Sp_pointerCount hS) ?_
  refine pk_c (ok_Sp_pointerPlace hS) ?_
  refine pk_c (ok_Sp_dataWords hS) ?_
  refine pk_c (ok_L_element hS) ?_
  refine pk_c (ok_D_element hS) ?_
  refine pk_c (ok_Sp_toElement hS) ?_
  refine pk_c (ok_Sp_firstElement hS) ?_
  refine pk_c (ok_L_number hS) ?_
  refine pk_c (ok_D_number hS) ?_
  refine pk_c (ok_D_isFieldSize hS) ?_
  refine pk_c (ok_D_fieldOf hS) ?_
  refine pk_c (ok_Sp_hasPiece hS) ?_
  refine pk_c (ok_Sp_pieceBit hS) ?_
  refine pk_c (ok_Me_piece hS) ?_
  refine pk_c (ok_D_ones hS) ?_
  refine pk_c (ok_D_signed hS) ?_
  refine pk_c (ok_L_real hS) ?_
  refine pk_c (ok_D_real hS) ?_
  refine pk_c (ok_Ra_isFinite hS) ?_
  refine pk_c (ok_Ra_exponentOf hS) ?_
  refine pk_c (ok_Ra_fractionBits hS) ?_
  refine pk_c (ok_Ra_mostExponent hS) ?_
  refine pk_c (ok_D_notFiniteIf hS) ?_
  refine pk_c (ok_Ra_fromBits hS) ?_
  refine pk_c (ok_JM_max hS) ?_
  refine pk_c (ok_Ra_bias hS) ?_
  refine pk_c (ok_Ra_scaled hS) ?_
  refine pk_c (ok_JM_abs hS) ?_
  refine pk_c (ok_L_item hS) ?_
  refine pk_c (ok_D_item hS) ?_
  refine pk_c (ok_L_look hS) ?_
  refine pk_c (ok_D_look hS) ?_
  refine pk_c (ok_L_begin hS) ?_
  refine pk_c (ok_D_begin hS) ?_
  refine pk_c (ok_L_struct hS) ?_
  refine pk_c (ok_D_struct hS) ?_
  refine pk_c (ok_D_isBuildSource hS) ?_
  refine pk_c (ok_Me_isOwn hS) ?_
  refine pk_c (ok_D_checkPointer hS) ?_
  refine pk_c (ok_D_segmentOf hS) ?_
  refine pk_c (ok_D_placeOf hS) ?_
  refine pk_c (ok_Bu_addStruct hS) ?_
  refine pk_c (ok_Po_toStruct hS) ?_
  refine pk_c (ok_Po_withOffset hS) ?_
  refine pk_c (ok_Bu_allocate hS) ?_
  refine pk_c (ok_Me_hasRoom hS) ?_
  refine pk_c (ok_Me_claim hS) ?_
  refine pk_c (ok_Me_firstWithRoom hS) ?_
  refine pk_c (ok_Bu_allocateDouble hS) ?_
  refine pk_c (ok_Po_toFar hS) ?_
  refine pk_c (ok_Bu_newSegment hS) ?_
  refine pk_c (ok_D_noRoomIf hS) ?_
  refine pk_c (ok_L_list hS) ?_
  refine pk_c (ok_D_list hS) ?_
  refine pk_c (ok_Bu_addStructs hS) ?_
  refine pk_c (ok_Po_toList hS) ?_
  refine pk_c (ok_Bu_addList hS) ?_
  refine pk_c (ok_L_put hS) ?_
  refine pk_c (ok_D_put hS) ?_
  refine pk_c (ok_Sp_isListOfPieces hS) ?_
  refine pk_c (ok_Me_setPiece hS) ?_
  refine pk_c (ok_L_putReal hS) ?_
  refine pk_c (ok_D_putReal hS) ?_
  refine pk_c (ok_Ra_canHold hS) ?_
  refine pk_c (ok_Ra_toBits hS) ?_
  refine pk_c (ok_Ra_sizeBits hS) ?_
  refine pk_c (ok_Ra_joined hS) ?_
  refine pk_c (ok_L_pack hS) ?_
  refine pk_c (ok_D_pack hS) ?_
  refine pk_c (ok_Fr_fill hS) ?_
  refine pk_c (ok_Fr_headGroups hS) ?_
  refine pk_c (ok_Fr_numberInFront hS) ?_
  refine pk_c (ok_Fr_packInto hS) ?_
  refine pk_c (ok_Fr_tagOf hS) ?_
  refine pk_c (ok_D_octetOf hS) ?_
  refine pk_c (ok_Oc_add hS) ?_
  refine pk_c (ok_Fr_addOctets hS) ?_
  refine pk_c (ok_Fr_zeroRun hS) ?_
  refine pk_c (ok_Fr_fullRun hS) ?_
  refine pk_c (ok_JI_bitCount hS) ?_
  refine pk_c (ok_L_octet hS) ?_
  refine pk_c (ok_D_octet hS) ?_
  refine pk_c (ok_L_feed hS) ?_
  refine pk_c (ok_D_feed hS) ?_
  refine pk_c (ok_L_take hS) ?_
  refine pk_c (ok_D_take hS) ?_
  refine pk_c (ok_Fr_unpack hS) ?_
  refine pk_c (ok_Fr_nextOctet hS) ?_
  refine pk_c (ok_Fr_nextGroup hS) ?_
  refine pk_c (ok_Fr_addGroup hS) ?_
  refine pk_c (ok_Fr_check hS) ?_
  refine pk_c (ok_Fr_headNumber hS) ?_
  refine pk_c (ok_Fr_empty hS) ?_
  refine pk_c (ok_L_canonical hS) ?_
  refine pk_c (ok_D_canonical hS) ?_
  refine pk_c (ok_Ca_make hS) ?_
  refine pk_c (ok_Ca_copy hS) ?_
  refine pk_c (ok_Ca_lay hS) ?_
  refine pk_c (ok_Ca_layStruct hS) ?_
  refine pk_c (ok_Le_span hS) ?_
  refine pk_c (ok_Le_measure hS) ?_
  refine pk_c (ok_Le_elementFrom hS) ?_
  refine pk_c (ok_Le_needed hS) ?_
  refine pk_c (ok_Ca_claim hS) ?_
  refine pk_c (ok_Ca_copyData hS) ?_
  refine pk_c (ok_Le_elementTo hS) ?_
  refine pk_c (ok_Ca_layStructs hS) ?_
  refine pk_c (ok_Ca_layPointers hS) ?_
  refine pk_c (ok_Ca_layNumbers hS) ?_
  refine pk_c (ok_L_count hS) ?_
  refine pk_c (ok_D_count hS) ?_
  refine pk_c (ok_M_init hS) ?_
  refine pk_c (ok_M_thrown hS) ?_
  refine pk_c (ok_M_segment hS) ?_
  refine pk_c (ok_M_in hS) ?_
  refine pk_c (ok_M_fails hS) ?_
  refine pk_c (ok_M_lay hS) ?_
  refine pk_c (ok_M_forget hS) ?_
  refine pk_c (ok_M_clear hS) ?_
  refine pk_c (ok_M_word hS) ?_
  refine pk_c (ok_M_has hS) ?_
  refine pk_c (ok_M_at hS) ?_
  refine pk_c (ok_M_allow hS) ?_
  refine pk_c (ok_M_root hS) ?_
  refine pk_c (ok_M_isCursor hS) ?_
  refine pk_c (ok_M_followed hS) ?_
  refine pk_c (ok_M_offset hS) ?_
  refine pk_c (ok_M_stands hS) ?_
  refine pk_c (ok_M_dataOf hS) ?_
  refine pk_c (ok_M_pointersOf hS) ?_
  refine pk_c (ok_M_codeOf hS) ?_
  refine pk_c (ok_M_countOf hS) ?_
  refine pk_c (ok_M_wordsOf hS) ?_
  refine pk_c (ok_M_bitsOf hS) ?_
  refine pk_c (ok_M_copy hS) ?_
  refine pk_c (ok_M_follow hS) ?_
  refine pk_c (ok_M_pointerAt hS) ?_
  refine pk_c (ok_M_element hS) ?_
  refine pk_c (ok_M_number hS) ?_
  refine pk_c (ok_M_isWidth hS) ?_
  refine pk_c (ok_M_field hS) ?_
  refine pk_c (ok_M_hasField hS) ?_
  refine pk_c (ok_M_piece hS) ?_
  refine pk_c (ok_M_cut hS) ?_
  refine pk_c (ok_M_signed hS) ?_
  refine pk_c (ok_M_real hS) ?_
  refine pk_c (ok_M_realOf hS) ?_
  refine pk_c (ok_M_item hS) ?_
  refine pk_c (ok_M_look hS) ?_
  refine pk_c (ok_M_begin hS) ?_
  refine pk_c (ok_M_struct hS) ?_
  refine pk_c (ok_M_made hS) ?_
  refine pk_c (ok_M_allocated hS) ?_
  refine pk_c (ok_M_near hS) ?_
  refine pk_c (ok_M_takes hS) ?_
  refine pk_c (ok_M_withLeft hS) ?_
  refine pk_c (ok_M_far hS) ?_
  refine pk_c (ok_M_sets hS) ?_
  refine pk_c (ok_M_list hS) ?_
  refine pk_c (ok_M_put hS) ?_
  refine pk_c (ok_M_store hS) ?_
  refine pk_c (ok_M_putReal hS) ?_
  refine pk_c (ok_M_bitsOfReal hS) ?_
  refine pk_c (ok_M_pack hS) ?_
  refine pk_c (ok_M_framed hS) ?_
  refine pk_c (ok_M_zeros hS) ?_
  refine pk_c (ok_M_whole hS) ?_
  refine pk_c (ok_M_octet hS) ?_
  refine pk_c (ok_M_feed hS) ?_
  refine pk_c (ok_M_drop hS) ?_
  refine pk_c (ok_M_take hS) ?_
  refine pk_c (ok_M_unpacked hS) ?_
  refine pk_c (ok_M_grown hS) ?_
  refine pk_c (ok_M_fourth hS) ?_
  refine pk_c (ok_M_canonical hS) ?_
  refine pk_c (ok_M_push hS) ?_
  refine pk_c (ok_M_writesStruct hS) ?_
  refine pk_c (ok_M_needs hS) ?_
  refine pk_c (ok_M_writesStructs hS) ?_
  refine pk_c (ok_M_writesList hS) ?_
  refine pk_c (ok_M_count hS) ?_
  exact pk_n
theorem pc_getD {α : Type} (l : List α) (d : α) (m : Nat) : l.getD m d ∈ l ∨ l.getD m d = d := by
  rw [List.getD_eq_getElem?_getD]
  cases h : l[m]? with
  | none => exact Or.inr rfl
  | some a => exact Or.inl (List.mem_of_getElem? h)
theorem pc_OK {s0 : State} (hS : pm_Str s0) : ∀ m, pm_OKm s0 pm_Ts pc_cl pc_Dv pc_MI pc_na m := by
  intro m
  have h : pm_OKI s0 (pc_MI m) := by
    rcases pc_getD pc_MIl mi_JM_max m with h | h
    · exact pc_OKl hS _ h
    · unfold pc_MI
      rw [h]
      exact ok_JM_max hS
  exact h
def pm_nab (na : Nat → Bool) (M : pm_M) : Bool := M.1.all fun x => !(pm_isN x.2.1 x.2.2.2) && (match x.2.2.2.1 with
  | [m, _, _, _] => na m || !(Nat.beq (pm_kind x.2.1 x.2.2.2) 4)
  | _ => true)
theorem pk_na {na : Nat → Bool} {M : pm_M} (h : pm_nab na M = true) : pm_naM na M := by
  intro pc i len L hl
  have hm := pk_look _ _ _ hl
  have h := List.all_eq_true.mp h _ hm
  dsimp only at h
  rw [Bool.and_eq_true] at h
  refine ⟨by simpa using h.1, fun m n kd ci hL hk => ?_⟩
  have h2 := h.2
  rw [hL] at h2
  dsimp only at h2
  rw [hk] at h2
  simpa using h2
theorem pc_naR : (List.range 238).all (fun m => !(pc_na m) || pm_nab pc_na (pc_MI m).1) = true := by decide +kernel
theorem pc_hna : ∀ m, pc_na m = true → pm_naM pc_na (pc_MI m).1 := by
  intro m hm
  by_cases hlt : m < 238
  · have h := List.all_eq_true.mp pc_naR m (List.mem_range.mpr hlt)
    rw [hm] at h
    exact pk_na (by simpa using h)
  · have e : pc_MI m = mi_JM_max := by
      unfold pc_MI
      rw [List.getD_eq_getElem?_getD, List.getElem?_eq_none (by
        show pc_MIl.length ≤ m
        have : pc_MIl.length = 238 := by decide +kernel
        omega)]
      rfl
    rw [e]
    exact pk_na (by decide +kernel)
