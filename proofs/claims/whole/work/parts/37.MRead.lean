theorem d_M_readBit_0 : decode b_M_readBit 0 = .ok (.aload_n 0, 1) := by decide +kernel
theorem d_M_readBit_1 : decode b_M_readBit 1 = .ok (.aload_n 0, 1) := by decide +kernel
theorem d_M_readBit_2 : decode b_M_readBit 2 = .ok (.getfield 218, 3) := by decide +kernel
theorem d_M_readBit_5 : decode b_M_readBit 5 = .ok (.ifCond .ne 14, 3) := by decide +kernel
theorem d_M_readBit_8 : decode b_M_readBit 8 = .ok (.aload_n 0, 1) := by decide +kernel
theorem d_M_readBit_9 : decode b_M_readBit 9 = .ok (.getfield 222, 3) := by decide +kernel
theorem d_M_readBit_12 : decode b_M_readBit 12 = .ok (.aload_n 0, 1) := by decide +kernel
theorem d_M_readBit_13 : decode b_M_readBit 13 = .ok (.getfield 225, 3) := by decide +kernel
theorem d_M_readBit_16 : decode b_M_readBit 16 = .ok (.if_icmp .ne 7, 3) := by decide +kernel
theorem d_M_readBit_19 : decode b_M_readBit 19 = .ok (.iconst 1, 1) := by decide +kernel
theorem d_M_readBit_20 : decode b_M_readBit 20 = .ok (.goto 4, 3) := by decide +kernel
theorem d_M_readBit_23 : decode b_M_readBit 23 = .ok (.iconst 0, 1) := by decide +kernel
theorem d_M_readBit_24 : decode b_M_readBit 24 = .ok (.putfield 218, 3) := by decide +kernel
theorem d_M_readBit_27 : decode b_M_readBit 27 = .ok (.aload_n 0, 1) := by decide +kernel
theorem d_M_readBit_28 : decode b_M_readBit 28 = .ok (.getfield 218, 3) := by decide +kernel
theorem d_M_readBit_31 : decode b_M_readBit 31 = .ok (.ifCond .eq 5, 3) := by decide +kernel
theorem d_M_readBit_34 : decode b_M_readBit 34 = .ok (.iconst 0, 1) := by decide +kernel
theorem d_M_readBit_35 : decode b_M_readBit 35 = .ok (.ireturn, 1) := by decide +kernel
theorem d_M_readBit_36 : decode b_M_readBit 36 = .ok (.aload_n 0, 1) := by decide +kernel
theorem d_M_readBit_37 : decode b_M_readBit 37 = .ok (.getfield 228, 3) := by decide +kernel
theorem d_M_readBit_40 : decode b_M_readBit 40 = .ok (.aload_n 0, 1) := by decide +kernel
theorem d_M_readBit_41 : decode b_M_readBit 41 = .ok (.getfield 231, 3) := by decide +kernel
theorem d_M_readBit_44 : decode b_M_readBit 44 = .ok (.aload_n 0, 1) := by decide +kernel
theorem d_M_readBit_45 : decode b_M_readBit 45 = .ok (.getfield 222, 3) := by decide +kernel
theorem d_M_readBit_48 : decode b_M_readBit 48 = .ok (.bipush 8, 2) := by decide +kernel
theorem d_M_readBit_50 : decode b_M_readBit 50 = .ok (.idiv, 1) := by decide +kernel
theorem d_M_readBit_51 : decode b_M_readBit 51 = .ok (.iadd, 1) := by decide +kernel
theorem d_M_readBit_52 : decode b_M_readBit 52 = .ok (.baload, 1) := by decide +kernel
theorem d_M_readBit_53 : decode b_M_readBit 53 = .ok (.aload_n 0, 1) := by decide +kernel
theorem d_M_readBit_54 : decode b_M_readBit 54 = .ok (.getfield 222, 3) := by decide +kernel
theorem d_M_readBit_57 : decode b_M_readBit 57 = .ok (.bipush 8, 2) := by decide +kernel
theorem d_M_readBit_59 : decode b_M_readBit 59 = .ok (.irem, 1) := by decide +kernel
theorem d_M_readBit_60 : decode b_M_readBit 60 = .ok (.ishr, 1) := by decide +kernel
theorem d_M_readBit_61 : decode b_M_readBit 61 = .ok (.iconst 1, 1) := by decide +kernel
theorem d_M_readBit_62 : decode b_M_readBit 62 = .ok (.iand, 1) := by decide +kernel
theorem d_M_readBit_63 : decode b_M_readBit 63 = .ok (.istore_n 1, 1) := by decide +kernel
theorem d_M_readBit_64 : decode b_M_readBit 64 = .ok (.aload_n 0, 1) := by decide +kernel
theorem d_M_readBit_65 : decode b_M_readBit 65 = .ok (.dup, 1) := by decide +kernel
theorem d_M_readBit_66 : decode b_M_readBit 66 = .ok (.getfield 222, 3) := by decide +kernel
theorem d_M_readBit_69 : decode b_M_readBit 69 = .ok (.iconst 1, 1) := by decide +kernel
theorem d_M_readBit_70 : decode b_M_readBit 70 = .ok (.iadd, 1) := by decide +kernel
theorem d_M_readBit_71 : decode b_M_readBit 71 = .ok (.putfield 222, 3) := by decide +kernel
theorem d_M_readBit_74 : decode b_M_readBit 74 = .ok (.iload_n 1, 1) := by decide +kernel
theorem d_M_readBit_75 : decode b_M_readBit 75 = .ok (.ireturn, 1) := by decide +kernel
def M_readBit_24 (F : Nat) (n_source : Nat) (v_sourceFrom : Int32) (c_source : Nat → Int32) (v_readBits : Int32) (v_wrong : Int32) (s1 : Int32) : Option (Int32 × Int32 × Int32) :=
  mZ s1 (mC (s1 = 0) (mL (v_sourceFrom + (v_readBits / 8)) fun i_1 => mG i_1 n_source (mL (((c_source i_1.toNatClampNeg) >>> ((v_readBits - v_readBits / 8 * 8) &&& 31)) &&& 1) fun y1_2 => mL (v_readBits + 1) fun v_3 => some (y1_2, v_3, s1))) (some (0, v_readBits, s1)))
def M_readBit_19 (F : Nat) (n_source : Nat) (v_sourceFrom : Int32) (c_source : Nat → Int32) (v_readBits : Int32) (v_wrong : Int32) : Option (Int32 × Int32 × Int32) :=
  (M_readBit_24 F n_source v_sourceFrom c_source) v_readBits v_wrong 1
abbrev M_readBit_w (E : xE) (a_this : Nat) (a_source : Nat) (n_source : Nat) (x_row : Value) (x_starts : Value) (x_image : Value) (x_readRow : Value) (x_readStart : Value) (x_readAt : Value) (x_readMany : Value) (x_piece : Value) (x_packed : Value) (x_pairBefore : Value) (x_pairLast : Value) (x_tokenLength : Value) (x_tokenValue : Value) (x_counts : Value) (x_lengths : Value) (x_fixed : Value) (x_ranked : Value) (x_weight : Value) (x_weightBefore : Value) (x_items : Value) (x_lengthRow : Value) (x_step : Value) (x_stepMore : Value) (x_codes : Value) (x_symbolTree : Value) (x_distanceTree : Value) (x_smallTree : Value) (x_readLengths : Value) (x_target : Value) (v_sourceFrom : Int32) (v_sourceBits : Int32) (c_source : Nat → Int32) (v_readBits : Int32) (v_wrong : Int32) (v_plain : Int32) (v_closed : Int32) (v_rowSize : Int32) (v_pieces : Int32) (v_imageSize : Int32) (v_readSize : Int32) (v_readPieces : Int32) (v_packedBits : Int32) (v_tokens : Int32) (v_steps : Int32) (v_made : Int32) (v_room : Int32) : va_W := [(a_this, .inr (12, [.int v_plain, .int v_closed, .int v_rowSize, x_row, .int v_pieces, x_starts, .int v_imageSize, x_image, .int v_readSize, x_readRow, .int v_readPieces, x_readStart, x_readAt, x_readMany, x_piece, x_packed, .int v_packedBits, x_pairBefore, x_pairLast, .int v_tokens, x_tokenLength, x_tokenValue, x_counts, x_lengths, x_fixed, x_ranked, x_weight, x_weightBefore, x_items, x_lengthRow, .int v_steps, x_step, x_stepMore, x_codes, x_symbolTree, x_distanceTree, x_smallTree, x_readLengths, .ref a_source, .int v_sourceFrom, .int v_sourceBits, .int v_readBits, .int v_wrong, x_target, .int v_made, .int v_room])), (a_source, .inl (E.2.2.1, n_source, .inl c_source))]
def M_readBit (F : Nat) (n_source : Nat) (v_sourceFrom : Int32) (v_sourceBits : Int32) (c_source : Nat → Int32) (v_readBits : Int32) (v_wrong : Int32) : Option (Int32 × Int32 × Int32) :=
  mC (v_wrong = 0) (mC (v_readBits = v_sourceBits) ((M_readBit_19 F n_source v_sourceFrom c_source) v_readBits v_wrong) ((M_readBit_24 F n_source v_sourceFrom c_source) v_readBits v_wrong 0)) ((M_readBit_19 F n_source v_sourceFrom c_source) v_readBits v_wrong)
abbrev M_readBit_rm : Room := { frames := 0, cells := 0, slots := 0, locals := 0 }
set_option maxHeartbeats 4000000 in
set_option maxRecDepth 100000 in
theorem c_M_readBit (l : Launch) (E : xE) (F sz : Nat) (a_this : Nat) (a_source : Nat) (n_source : Nat) (x_row : Value) (x_starts : Value) (x_image : Value) (x_readRow : Value) (x_readStart : Value) (x_readAt : Value) (x_readMany : Value) (x_piece : Value) (x_packed : Value) (x_pairBefore : Value) (x_pairLast : Value) (x_tokenLength : Value) (x_tokenValue : Value) (x_counts : Value) (x_lengths : Value) (x_fixed : Value) (x_ranked : Value) (x_weight : Value) (x_weightBefore : Value) (x_items : Value) (x_lengthRow : Value) (x_step : Value) (x_stepMore : Value) (x_codes : Value) (x_symbolTree : Value) (x_distanceTree : Value) (x_smallTree : Value) (x_readLengths : Value) (x_target : Value) (v_sourceFrom : Int32) (v_sourceBits : Int32) (c_source : Nat → Int32) (v_readBits : Int32) (v_wrong : Int32) (v_plain : Int32) (v_closed : Int32) (v_rowSize : Int32) (v_pieces : Int32) (v_imageSize : Int32) (v_readSize : Int32) (v_readPieces : Int32) (v_packedBits : Int32) (v_tokens : Int32) (v_steps : Int32) (v_made : Int32) (v_room : Int32) (res : Int32 × Int32 × Int32) (hm : M_readBit F n_source v_sourceFrom v_sourceBits c_source v_readBits v_wrong = some res) : Met l y_M_readBit (Cond.code y_M_readBit b_M_readBit 2 (some .int) :: x_tb) M_readBit_rm (va_Pc [.ref a_this] (xPre E (M_readBit_w E a_this a_source n_source x_row x_starts x_image x_readRow x_readStart x_readAt x_readMany x_piece x_packed x_pairBefore x_pairLast x_tokenLength x_tokenValue x_counts x_lengths x_fixed x_ranked x_weight x_weightBefore x_items x_lengthRow x_step x_stepMore x_codes x_symbolTree x_distanceTree x_smallTree x_readLengths x_target v_sourceFrom v_sourceBits c_source v_readBits v_wrong v_plain v_closed v_rowSize v_pieces v_imageSize v_readSize v_readPieces v_packedBits v_tokens v_steps v_made v_room) sz)) (xQi E (fun (r : Int32) (u : Int32 × Int32) => r = res.1 ∧ u = res.2) (fun (u : Int32 × Int32) => (M_readBit_w E a_this a_source n_source x_row x_starts x_image x_readRow x_readStart x_readAt x_readMany x_piece x_packed x_pairBefore x_pairLast x_tokenLength x_tokenValue x_counts x_lengths x_fixed x_ranked x_weight x_weightBefore x_items x_lengthRow x_step x_stepMore x_codes x_symbolTree x_distanceTree x_smallTree x_readLengths x_target v_sourceFrom v_sourceBits c_source u.1 u.2 v_plain v_closed v_rowSize v_pieces v_imageSize v_readSize v_readPieces v_packedBits v_tokens v_steps v_made v_room)) (va_A (M_readBit_w E a_this a_source n_source x_row x_starts x_image x_readRow x_readStart x_readAt x_readMany x_piece x_packed x_pairBefore x_pairLast x_tokenLength x_tokenValue x_counts x_lengths x_fixed x_ranked x_weight x_weightBefore x_items x_lengthRow x_step x_stepMore x_codes x_symbolTree x_distanceTree x_smallTree x_readLengths x_target v_sourceFrom v_sourceBits c_source v_readBits v_wrong v_plain v_closed v_rowSize v_pieces v_imageSize v_readSize v_readPieces v_packedBits v_tokens v_steps v_made v_room) sz)) 0 0 (va_A (M_readBit_w E a_this a_source n_source x_row x_starts x_image x_readRow x_readStart x_readAt x_readMany x_piece x_packed x_pairBefore x_pairLast x_tokenLength x_tokenValue x_counts x_lengths x_fixed x_ranked x_weight x_weightBefore x_items x_lengthRow x_step x_stepMore x_codes x_symbolTree x_distanceTree x_smallTree x_readLengths x_target v_sourceFrom v_sourceBits c_source v_readBits v_wrong v_plain v_closed v_rowSize v_pieces v_imageSize v_readSize v_readPieces v_packedBits v_tokens v_steps v_made v_room) sz) := by
  refine xEnI (by decide) (Nat.le_of_ble_eq_true rfl) ?_
  intro p e s m args below meth c A ls Q hx hb hnm hts hown hml hK hA hI hN hret hP hD hS hl
  replace hown : s.vm.findClass R_M = some m.cls := hown
  replace hl : lv_has ls 2 [(0, .ref a_this)] := hl
  obtain ⟨H, eH⟩ : ∃ z, z = s.heap := ⟨_, rfl⟩
  obtain ⟨locs, eL⟩ : ∃ z : List Loc, z = [] := ⟨_, rfl⟩
  rw [show W p l e M_readBit_rm s m args below meth c s.heap [] 0 0 Q (F0 m 0 ls []) = W p l e M_readBit_rm s m args below meth c H locs 0 0 Q (F0 m 0 ls []) by rw [eH, eL]]
  replace hP : va_P E.1 vwCl (M_readBit_w E a_this a_source n_source x_row x_starts x_image x_readRow x_readStart x_readAt x_readMany x_piece x_packed x_pairBefore x_pairLast x_tokenLength x_tokenValue x_counts x_lengths x_fixed x_ranked x_weight x_weightBefore x_items x_lengthRow x_step x_stepMore x_codes x_symbolTree x_distanceTree x_smallTree x_readLengths x_target v_sourceFrom v_sourceBits c_source v_readBits v_wrong v_plain v_closed v_rowSize v_pieces v_imageSize v_readSize v_readPieces v_packedBits v_tokens v_steps v_made v_room) H := by rw [eH]; exact hP
  replace hS : va_S A s.heap H locs := by rw [eH, eL]; exact hS
  clear eH eL
  rw [M_readBit] at hm
  have h_24 : ∀ (v_readBits : Int32) (v_wrong : Int32) (s1 : Int32) (H : Heap) (locs : List Loc) (ls : Array Slot), (M_readBit_24 F n_source v_sourceFrom c_source) v_readBits v_wrong s1 = some res → va_P E.1 vwCl (M_readBit_w E a_this a_source n_source x_row x_starts x_image x_readRow x_readStart x_readAt x_readMany x_piece x_packed x_pairBefore x_pairLast x_tokenLength x_tokenValue x_counts x_lengths x_fixed x_ranked x_weight x_weightBefore x_items x_lengthRow x_step x_stepMore x_codes x_symbolTree x_distanceTree x_smallTree x_readLengths x_target v_sourceFrom v_sourceBits c_source v_readBits v_wrong v_plain v_closed v_rowSize v_pieces v_imageSize v_readSize v_readPieces v_packedBits v_tokens v_steps v_made v_room) H → va_D A (M_readBit_w E a_this a_source n_source x_row x_starts x_image x_readRow x_readStart x_readAt x_readMany x_piece x_packed x_pairBefore x_pairLast x_tokenLength x_tokenValue x_counts x_lengths x_fixed x_ranked x_weight x_weightBefore x_items x_lengthRow x_step x_stepMore x_codes x_symbolTree x_distanceTree x_smallTree x_readLengths x_target v_sourceFrom v_sourceBits c_source v_readBits v_wrong v_plain v_closed v_rowSize v_pieces v_imageSize v_readSize v_readPieces v_packedBits v_tokens v_steps v_made v_room) → va_S A s.heap H locs → lv_has ls 2 [(0, .ref a_this)] → W p l e M_readBit_rm s m args below meth c H locs 0 0 Q (F0 m 24 ls [.int s1, .ref a_this]) := by
    intro v_readBits v_wrong s1 H locs ls hm hP hD hS hl
    rw [M_readBit_24] at hm
    obtain ⟨hz24, hm⟩ := mZ_e hm
    refine va_put (D := E.1) (ci := 12) (v := .int s1) (ty := .boolean) (C := R_M) (T := F_M) (N := 46) hx hb hts i_M t_M t_M_ok n_M hown hK hP hD hS 0 rfl rfl 42 (by decide) (hts _ tw_837) (fun _ h9 => h9) rfl (by decide +kernel) (xnz hz24) (xfz hz24) (Nat.le_of_ble_eq_true rfl) d_M_readBit_24 (fun H locs hP hD hS => ?_)
    replace hP : va_P E.1 vwCl (M_readBit_w E a_this a_source n_source x_row x_starts x_image x_readRow x_readStart x_readAt x_readMany x_piece x_packed x_pairBefore x_pairLast x_tokenLength x_tokenValue x_counts x_lengths x_fixed x_ranked x_weight x_weightBefore x_items x_lengthRow x_step x_stepMore x_codes x_symbolTree x_distanceTree x_smallTree x_readLengths x_target v_sourceFrom v_sourceBits c_source v_readBits s1 v_plain v_closed v_rowSize v_pieces v_imageSize v_readSize v_readPieces v_packedBits v_tokens v_steps v_made v_room) H := hP
    replace hD : va_D A (M_readBit_w E a_this a_source n_source x_row x_starts x_image x_readRow x_readStart x_readAt x_readMany x_piece x_packed x_pairBefore x_pairLast x_tokenLength x_tokenValue x_counts x_lengths x_fixed x_ranked x_weight x_weightBefore x_items x_lengthRow x_step x_stepMore x_codes x_symbolTree x_distanceTree x_smallTree x_readLengths x_target v_sourceFrom v_sourceBits c_source v_readBits s1 v_plain v_closed v_rowSize v_pieces v_imageSize v_readSize v_readPieces v_packedBits v_tokens v_steps v_made v_room) := hD
    refine lv_aload_n hx hb d_M_readBit_27 rfl (lv_at hl 0 rfl) ?_
    refine va_get (D := E.1) (ci := 12) (v := .int s1) (C := R_M) (T := F_M) (N := 46) hx hb hts i_M hown hK hP 0 rfl rfl 42 (by decide) (hts _ tw_837) (fun _ h9 => h9) rfl d_M_readBit_28 ?_
    refine lv_if_eq (tgt := 36) hx hb d_M_readBit_31 (by decide) (fun c31 => ?_) (fun c31 => ?_)
    · replace hm := mC_t hm c31
      refine lv_aload_n hx hb d_M_readBit_36 rfl (lv_at hl 0 rfl) ?_
      refine va_get (D := E.1) (ci := 12) (v := .ref a_source) (C := R_M) (T := F_M) (N := 46) hx hb hts i_M hown hK hP 0 rfl rfl 38 (by decide) (hts _ tw_833) (fun _ h9 => h9) rfl d_M_readBit_37 ?_
      refine lv_aload_n hx hb d_M_readBit_40 rfl (lv_at hl 0 rfl) ?_
      refine va_get (D := E.1) (ci := 12) (v := .int v_sourceFrom) (C := R_M) (T := F_M) (N := 46) hx hb hts i_M hown hK hP 0 rfl rfl 39 (by decide) (hts _ tw_834) (fun _ h9 => h9) rfl d_M_readBit_41 ?_
      refine lv_aload_n hx hb d_M_readBit_44 rfl (lv_at hl 0 rfl) ?_
      refine va_get (D := E.1) (ci := 12) (v := .int v_readBits) (C := R_M) (T := F_M) (N := 46) hx hb hts i_M hown hK hP 0 rfl rfl 41 (by decide) (hts _ tw_836) (fun _ h9 => h9) rfl d_M_readBit_45 ?_
      refine lv_bipush (v := 8) hx hb d_M_readBit_48 (by decide) ?_
      refine lv_idiv hx hb d_M_readBit_50 (by decide) ?_
      refine lv_iadd hx hb d_M_readBit_51 ?_
      refine lv_topi (fun i_1 ei_1 => ?_)
      replace hm := mL_e hm i_1 ei_1
      obtain ⟨hi52, hm⟩ := mG_e hm
      refine va_bald hx hb hK hP 1 1 rfl rfl hi52 d_M_readBit_52 ?_
      refine lv_aload_n hx hb d_M_readBit_53 rfl (lv_at hl 0 rfl) ?_
      refine va_get (D := E.1) (ci := 12) (v := .int v_readBits) (C := R_M) (T := F_M) (N := 46) hx hb hts i_M hown hK hP 0 rfl rfl 41 (by decide) (hts _ tw_836) (fun _ h9 => h9) rfl d_M_readBit_54 ?_
      refine lv_bipush (v := 8) hx hb d_M_readBit_57 (by decide) ?_
      refine lv_irem hx hb d_M_readBit_59 (by decide) ?_
      refine lv_ishr hx hb d_M_readBit_60 ?_
      refine lv_iconst (v := 1) hx hb d_M_readBit_61 (by decide) ?_
      refine lv_iand hx hb d_M_readBit_62 ?_
      refine lv_topi (fun y1_2 ey1_2 => ?_)
      replace hm := mL_e hm y1_2 ey1_2
      refine lv_istore_n (lv' := [(1, .int y1_2), (0, .ref a_this)]) hx hb d_M_readBit_63 rfl hl (by decide) rfl (fun ls hl => ?_)
      refine lv_aload_n hx hb d_M_readBit_64 rfl (lv_at hl 1 rfl) ?_
      refine lv_dup hx hb d_M_readBit_65 rfl ?_
      refine va_get (D := E.1) (ci := 12) (v := .int v_readBits) (C := R_M) (T := F_M) (N := 46) hx hb hts i_M hown hK hP 0 rfl rfl 41 (by decide) (hts _ tw_836) (fun _ h9 => h9) rfl d_M_readBit_66 ?_
      refine lv_iconst (v := 1) hx hb d_M_readBit_69 (by decide) ?_
      refine lv_iadd hx hb d_M_readBit_70 ?_
      refine lv_topi (fun v_3 ev_3 => ?_)
      replace hm := mL_e hm v_3 ev_3
      refine va_put (D := E.1) (ci := 12) (v := .int v_3) (ty := .int) (C := R_M) (T := F_M) (N := 46) hx hb hts i_M t_M t_M_ok n_M hown hK hP hD hS 0 rfl rfl 41 (by decide) (hts _ tw_836) (fun _ h9 => h9) rfl (by decide +kernel) rfl rfl (Nat.le_of_ble_eq_true rfl) d_M_readBit_71 (fun H locs hP hD hS => ?_)
      replace hP : va_P E.1 vwCl (M_readBit_w E a_this a_source n_source x_row x_starts x_image x_readRow x_readStart x_readAt x_readMany x_piece x_packed x_pairBefore x_pairLast x_tokenLength x_tokenValue x_counts x_lengths x_fixed x_ranked x_weight x_weightBefore x_items x_lengthRow x_step x_stepMore x_codes x_symbolTree x_distanceTree x_smallTree x_readLengths x_target v_sourceFrom v_sourceBits c_source v_3 s1 v_plain v_closed v_rowSize v_pieces v_imageSize v_readSize v_readPieces v_packedBits v_tokens v_steps v_made v_room) H := hP
      replace hD : va_D A (M_readBit_w E a_this a_source n_source x_row x_starts x_image x_readRow x_readStart x_readAt x_readMany x_piece x_packed x_pairBefore x_pairLast x_tokenLength x_tokenValue x_counts x_lengths x_fixed x_ranked x_weight x_weightBefore x_items x_lengthRow x_step x_stepMore x_codes x_symbolTree x_distanceTree x_smallTree x_readLengths x_target v_sourceFrom v_sourceBits c_source v_3 s1 v_plain v_closed v_rowSize v_pieces v_imageSize v_readSize v_readPieces v_packedBits v_tokens v_steps v_made v_room) := hD
      refine lv_iload_n hx hb d_M_readBit_74 rfl (lv_at hl 0 rfl) ?_
      replace hm := Option.some.inj hm
      subst hm
      exact hret d_M_readBit_75 (u := (v_3, s1)) ⟨rfl, rfl⟩ hP hD hS
    · replace hm := mC_f hm c31
      refine lv_iconst (v := 0) hx hb d_M_readBit_34 (by decide) ?_
      replace hm := Option.some.inj hm
      subst hm
      exact hret d_M_readBit_35 (u := (v_readBits, s1)) ⟨rfl, rfl⟩ hP hD hS
  have h_19 : ∀ (v_readBits : Int32) (v_wrong : Int32) (H : Heap) (locs : List Loc) (ls : Array Slot), (M_readBit_19 F n_source v_sourceFrom c_source) v_readBits v_wrong = some res → va_P E.1 vwCl (M_readBit_w E a_this a_source n_source x_row x_starts x_image x_readRow x_readStart x_readAt x_readMany x_piece x_packed x_pairBefore x_pairLast x_tokenLength x_tokenValue x_counts x_lengths x_fixed x_ranked x_weight x_weightBefore x_items x_lengthRow x_step x_stepMore x_codes x_symbolTree x_distanceTree x_smallTree x_readLengths x_target v_sourceFrom v_sourceBits c_source v_readBits v_wrong v_plain v_closed v_rowSize v_pieces v_imageSize v_readSize v_readPieces v_packedBits v_tokens v_steps v_made v_room) H → va_D A (M_readBit_w E a_this a_source n_source x_row x_starts x_image x_readRow x_readStart x_readAt x_readMany x_piece x_packed x_pairBefore x_pairLast x_tokenLength x_tokenValue x_counts x_lengths x_fixed x_ranked x_weight x_weightBefore x_items x_lengthRow x_step x_stepMore x_codes x_symbolTree x_distanceTree x_smallTree x_readLengths x_target v_sourceFrom v_sourceBits c_source v_readBits v_wrong v_plain v_closed v_rowSize v_pieces v_imageSize v_readSize v_readPieces v_packedBits v_tokens v_steps v_made v_room) → va_S A s.heap H locs → lv_has ls 2 [(0, .ref a_this)] → W p l e M_readBit_rm s m args below meth c H locs 0 0 Q (F0 m 19 ls [.ref a_this]) := by
    intro v_readBits v_wrong H locs ls hm hP hD hS hl
    rw [M_readBit_19] at hm
    refine lv_iconst (v := 1) hx hb d_M_readBit_19 (by decide) ?_
    refine lv_goto (tgt := 24) hx hb d_M_readBit_20 (by decide) ?_
    exact h_24 _ _ _ H locs ls hm hP hD hS hl
  refine lv_aload_n hx hb d_M_readBit_0 rfl (lv_at hl 0 rfl) ?_
  refine lv_aload_n hx hb d_M_readBit_1 rfl (lv_at hl 0 rfl) ?_
  refine va_get (D := E.1) (ci := 12) (v := .int v_wrong) (C := R_M) (T := F_M) (N := 46) hx hb hts i_M hown hK hP 0 rfl rfl 42 (by decide) (hts _ tw_837) (fun _ h9 => h9) rfl d_M_readBit_2 ?_
  refine lv_if_ne (tgt := 19) hx hb d_M_readBit_5 (by decide) (fun c5 => ?_) (fun c5 => ?_)
  · replace hm := mC_f hm c5
    exact h_19 _ _ H locs ls hm hP hD hS hl
  · replace hm := mC_t hm c5
    refine lv_aload_n hx hb d_M_readBit_8 rfl (lv_at hl 0 rfl) ?_
    refine va_get (D := E.1) (ci := 12) (v := .int v_readBits) (C := R_M) (T := F_M) (N := 46) hx hb hts i_M hown hK hP 0 rfl rfl 41 (by decide) (hts _ tw_836) (fun _ h9 => h9) rfl d_M_readBit_9 ?_
    refine lv_aload_n hx hb d_M_readBit_12 rfl (lv_at hl 0 rfl) ?_
    refine va_get (D := E.1) (ci := 12) (v := .int v_sourceBits) (C := R_M) (T := F_M) (N := 46) hx hb hts i_M hown hK hP 0 rfl rfl 40 (by decide) (hts _ tw_835) (fun _ h9 => h9) rfl d_M_readBit_13 ?_
    refine lv_icmp_ne (tgt := 23) hx hb d_M_readBit_16 (by decide) (fun c16 => ?_) (fun c16 => ?_)
    · replace hm := mC_f hm c16
      refine lv_iconst (v := 0) hx hb d_M_readBit_23 (by decide) ?_
      exact h_24 _ _ _ H locs ls hm hP hD hS hl
    · replace hm := mC_t hm c16
      exact h_19 _ _ H locs ls hm hP hD hS hl
theorem d_M_readNumber_0 : decode b_M_readNumber 0 = .ok (.iconst 0, 1) := by decide +kernel
theorem d_M_readNumber_1 : decode b_M_readNumber 1 = .ok (.istore_n 2, 1) := by decide +kernel
theorem d_M_readNumber_2 : decode b_M_readNumber 2 = .ok (.iconst 0, 1) := by decide +kernel
theorem d_M_readNumber_3 : decode b_M_readNumber 3 = .ok (.istore_n 3, 1) := by decide +kernel
theorem d_M_readNumber_4 : decode b_M_readNumber 4 = .ok (.iload_n 3, 1) := by decide +kernel
theorem d_M_readNumber_5 : decode b_M_readNumber 5 = .ok (.iload_n 1, 1) := by decide +kernel
theorem d_M_readNumber_6 : decode b_M_readNumber 6 = .ok (.if_icmp .ge 18, 3) := by decide +kernel
theorem d_M_readNumber_9 : decode b_M_readNumber 9 = .ok (.iload_n 2, 1) := by decide +kernel
theorem d_M_readNumber_10 : decode b_M_readNumber 10 = .ok (.aload_n 0, 1) := by decide +kernel
theorem d_M_readNumber_11 : decode b_M_readNumber 11 = .ok (.invokevirtual 234, 3) := by decide +kernel
theorem d_M_readNumber_14 : decode b_M_readNumber 14 = .ok (.iload_n 3, 1) := by decide +kernel
theorem d_M_readNumber_15 : decode b_M_readNumber 15 = .ok (.ishl, 1) := by decide +kernel
theorem d_M_readNumber_16 : decode b_M_readNumber 16 = .ok (.ior, 1) := by decide +kernel
theorem d_M_readNumber_17 : decode b_M_readNumber 17 = .ok (.istore_n 2, 1) := by decide +kernel
theorem d_M_readNumber_18 : decode b_M_readNumber 18 = .ok (.iinc 3 1, 3) := by decide +kernel
theorem d_M_readNumber_21 : decode b_M_readNumber 21 = .ok (.goto (-17), 3) := by decide +kernel
theorem d_M_readNumber_24 : decode b_M_readNumber 24 = .ok (.iload_n 2, 1) := by decide +kernel
theorem d_M_readNumber_25 : decode b_M_readNumber 25 = .ok (.ireturn, 1) := by decide +kernel
def M_readNumber_4 (F : Nat) (n_source : Nat) (v_sourceFrom : Int32) (v_sourceBits : Int32) (c_source : Nat → Int32) (x1 : Int32) (k_4 : Int32 → Int32 → Int32 → Int32 → Option (Int32 × Int32 × Int32)) (v_readBits : Int32) (v_wrong : Int32) (x2 : Int32) (x3 : Int32) : Option (Int32 × Int32 × Int32) :=
  mC (x1 ≤ x3) (some (x2, v_readBits, v_wrong)) (mR2 (M_readBit F n_source v_sourceFrom v_sourceBits c_source v_readBits v_wrong) fun r_3 v_readBits_1 v_wrong_2 => mL (x2 ||| (r_3 <<< (x3 &&& 31))) fun y2_4 => mL (x3 + 1) fun y3_5 => k_4 v_readBits_1 v_wrong_2 y2_4 y3_5)
abbrev M_readNumber_w (E : xE) (a_this : Nat) (a_source : Nat) (n_source : Nat) (x_row : Value) (x_starts : Value) (x_image : Value) (x_readRow : Value) (x_readStart : Value) (x_readAt : Value) (x_readMany : Value) (x_piece : Value) (x_packed : Value) (x_pairBefore : Value) (x_pairLast : Value) (x_tokenLength : Value) (x_tokenValue : Value) (x_counts : Value) (x_lengths : Value) (x_fixed : Value) (x_ranked : Value) (x_weight : Value) (x_weightBefore : Value) (x_items : Value) (x_lengthRow : Value) (x_step : Value) (x_stepMore : Value) (x_codes : Value) (x_symbolTree : Value) (x_distanceTree : Value) (x_smallTree : Value) (x_readLengths : Value) (x_target : Value) (v_sourceFrom : Int32) (v_sourceBits : Int32) (c_source : Nat → Int32) (v_readBits : Int32) (v_wrong : Int32) (v_plain : Int32) (v_closed : Int32) (v_rowSize : Int32) (v_pieces : Int32) (v_imageSize : Int32) (v_readSize : Int32) (v_readPieces : Int32) (v_packedBits : Int32) (v_tokens : Int32) (v_steps : Int32) (v_made : Int32) (v_room : Int32) : va_W := [(a_this, .inr (12, [.int v_plain, .int v_closed, .int v_rowSize, x_row, .int v_pieces, x_starts, .int v_imageSize, x_image, .int v_readSize, x_readRow, .int v_readPieces, x_readStart, x_readAt, x_readMany, x_piece, x_packed, .int v_packedBits, x_pairBefore, x_pairLast, .int v_tokens, x_tokenLength, x_tokenValue, x_counts, x_lengths, x_fixed, x_ranked, x_weight, x_weightBefore, x_items, x_lengthRow, .int v_steps, x_step, x_stepMore, x_codes, x_symbolTree, x_distanceTree, x_smallTree, x_readLengths, .ref a_source, .int v_sourceFrom, .int v_sourceBits, .int v_readBits, .int v_wrong, x_target, .int v_made, .int v_room])), (a_source, .inl (E.2.2.1, n_source, .inl c_source))]
def M_readNumber (F : Nat) (n_source : Nat) (v_sourceFrom : Int32) (v_sourceBits : Int32) (c_source : Nat → Int32) (v_readBits : Int32) (v_wrong : Int32) (x1 : Int32) : Option (Int32 × Int32 × Int32) :=
  (mW4 (M_readNumber_4 F n_source v_sourceFrom v_sourceBits c_source x1) F) v_readBits v_wrong 0 0
abbrev M_readNumber_rm : Room := { frames := 1, cells := 0, slots := 0, locals := 21 }
set_option maxHeartbeats 4000000 in
set_option maxRecDepth 100000 in
theorem c_M_readNumber (l : Launch) (E : xE) (F sz : Nat) (a_this : Nat) (a_source : Nat) (n_source : Nat) (x_row : Value) (x_starts : Value) (x_image : Value) (x_readRow : Value) (x_readStart : Value) (x_readAt : Value) (x_readMany : Value) (x_piece : Value) (x_packed : Value) (x_pairBefore : Value) (x_pairLast : Value) (x_tokenLength : Value) (x_tokenValue : Value) (x_counts : Value) (x_lengths : Value) (x_fixed : Value) (x_ranked : Value) (x_weight : Value) (x_weightBefore : Value) (x_items : Value) (x_lengthRow : Value) (x_step : Value) (x_stepMore : Value) (x_codes : Value) (x_symbolTree : Value) (x_distanceTree : Value) (x_smallTree : Value) (x_readLengths : Value) (x_target : Value) (v_sourceFrom : Int32) (v_sourceBits : Int32) (c_source : Nat → Int32) (v_readBits : Int32) (v_wrong : Int32) (v_plain : Int32) (v_closed : Int32) (v_rowSize : Int32) (v_pieces : Int32) (v_imageSize : Int32) (v_readSize : Int32) (v_readPieces : Int32) (v_packedBits : Int32) (v_tokens : Int32) (v_steps : Int32) (v_made : Int32) (v_room : Int32) (x1 : Int32) (res : Int32 × Int32 × Int32) (hm : M_readNumber F n_source v_sourceFrom v_sourceBits c_source v_readBits v_wrong x1 = some res) : Met l y_M_readNumber (Cond.code y_M_readNumber b_M_readNumber 4 (some .int) :: x_tb) M_readNumber_rm (va_Pc [.ref a_this, .int x1] (xPre E (M_readNumber_w E a_this a_source n_source x_row x_starts x_image x_readRow x_readStart x_readAt x_readMany x_piece x_packed x_pairBefore x_pairLast x_tokenLength x_tokenValue x_counts x_lengths x_fixed x_ranked x_weight x_weightBefore x_items x_lengthRow x_step x_stepMore x_codes x_symbolTree x_distanceTree x_smallTree x_readLengths x_target v_sourceFrom v_sourceBits c_source v_readBits v_wrong v_plain v_closed v_rowSize v_pieces v_imageSize v_readSize v_readPieces v_packedBits v_tokens v_steps v_made v_room) sz)) (xQi E (fun (r : Int32) (u : Int32 × Int32) => r = res.1 ∧ u = res.2) (fun (u : Int32 × Int32) => (M_readNumber_w E a_this a_source n_source x_row x_starts x_image x_readRow x_readStart x_readAt x_readMany x_piece x_packed x_pairBefore x_pairLast x_tokenLength x_tokenValue x_counts x_lengths x_fixed x_ranked x_weight x_weightBefore x_items x_lengthRow x_step x_stepMore x_codes x_symbolTree x_distanceTree x_smallTree x_readLengths x_target v_sourceFrom v_sourceBits c_source u.1 u.2 v_plain v_closed v_rowSize v_pieces v_imageSize v_readSize v_readPieces v_packedBits v_tokens v_steps v_made v_room)) (va_A (M_readNumber_w E a_this a_source n_source x_row x_starts x_image x_readRow x_readStart x_readAt x_readMany x_piece x_packed x_pairBefore x_pairLast x_tokenLength x_tokenValue x_counts x_lengths x_fixed x_ranked x_weight x_weightBefore x_items x_lengthRow x_step x_stepMore x_codes x_symbolTree x_distanceTree x_smallTree x_readLengths x_target v_sourceFrom v_sourceBits c_source v_readBits v_wrong v_plain v_closed v_rowSize v_pieces v_imageSize v_readSize v_readPieces v_packedBits v_tokens v_steps v_made v_room) sz)) 0 0 (va_A (M_readNumber_w E a_this a_source n_source x_row x_starts x_image x_readRow x_readStart x_readAt x_readMany x_piece x_packed x_pairBefore x_pairLast x_tokenLength x_tokenValue x_counts x_lengths x_fixed x_ranked x_weight x_weightBefore x_items x_lengthRow x_step x_stepMore x_codes x_symbolTree x_distanceTree x_smallTree x_readLengths x_target v_sourceFrom v_sourceBits c_source v_readBits v_wrong v_plain v_closed v_rowSize v_pieces v_imageSize v_readSize v_readPieces v_packedBits v_tokens v_steps v_made v_room) sz) := by
  refine xEnI (by decide) (Nat.le_of_ble_eq_true rfl) ?_
  intro p e s m args below meth c A ls Q hx hb hnm hts hown hml hK hA hI hN hret hP hD hS hl
  replace hown : s.vm.findClass R_M = some m.cls := hown
  replace hl : lv_has ls 4 [(0, .ref a_this), (1, .int x1)] := hl
  obtain ⟨H, eH⟩ : ∃ z, z = s.heap := ⟨_, rfl⟩
  obtain ⟨locs, eL⟩ : ∃ z : List Loc, z = [] := ⟨_, rfl⟩
  rw [show W p l e M_readNumber_rm s m args below meth c s.heap [] 0 0 Q (F0 m 0 ls []) = W p l e M_readNumber_rm s m args below meth c H locs 0 0 Q (F0 m 0 ls []) by rw [eH, eL]]
  replace hP : va_P E.1 vwCl (M_readNumber_w E a_this a_source n_source x_row x_starts x_image x_readRow x_readStart x_readAt x_readMany x_piece x_packed x_pairBefore x_pairLast x_tokenLength x_tokenValue x_counts x_lengths x_fixed x_ranked x_weight x_weightBefore x_items x_lengthRow x_step x_stepMore x_codes x_symbolTree x_distanceTree x_smallTree x_readLengths x_target v_sourceFrom v_sourceBits c_source v_readBits v_wrong v_plain v_closed v_rowSize v_pieces v_imageSize v_readSize v_readPieces v_packedBits v_tokens v_steps v_made v_room) H := by rw [eH]; exact hP
  replace hS : va_S A s.heap H locs := by rw [eH, eL]; exact hS
  clear eH eL
  rw [M_readNumber] at hm
  have h_4 : ∀ (n_4 : Nat) (v_readBits : Int32) (v_wrong : Int32) (x2 : Int32) (x3 : Int32) (H : Heap) (locs : List Loc) (ls : Array Slot), (mW4 (M_readNumber_4 F n_source v_sourceFrom v_sourceBits c_source x1) n_4) v_readBits v_wrong x2 x3 = some res → va_P E.1 vwCl (M_readNumber_w E a_this a_source n_source x_row x_starts x_image x_readRow x_readStart x_readAt x_readMany x_piece x_packed x_pairBefore x_pairLast x_tokenLength x_tokenValue x_counts x_lengths x_fixed x_ranked x_weight x_weightBefore x_items x_lengthRow x_step x_stepMore x_codes x_symbolTree x_distanceTree x_smallTree x_readLengths x_target v_sourceFrom v_sourceBits c_source v_readBits v_wrong v_plain v_closed v_rowSize v_pieces v_imageSize v_readSize v_readPieces v_packedBits v_tokens v_steps v_made v_room) H → va_D A (M_readNumber_w E a_this a_source n_source x_row x_starts x_image x_readRow x_readStart x_readAt x_readMany x_piece x_packed x_pairBefore x_pairLast x_tokenLength x_tokenValue x_counts x_lengths x_fixed x_ranked x_weight x_weightBefore x_items x_lengthRow x_step x_stepMore x_codes x_symbolTree x_distanceTree x_smallTree x_readLengths x_target v_sourceFrom v_sourceBits c_source v_readBits v_wrong v_plain v_closed v_rowSize v_pieces v_imageSize v_readSize v_readPieces v_packedBits v_tokens v_steps v_made v_room) → va_S A s.heap H locs → lv_has ls 4 [(0, .ref a_this), (1, .int x1), (2, .int x2), (3, .int x3)] → W p l e M_readNumber_rm s m args below meth c H locs 0 0 Q (F0 m 4 ls []) := by
    intro n_4
    induction n_4 with
    | zero => exact fun _ _ _ _ _ _ _ hm _ _ _ _ => (mW4_z hm).elim
    | succ n_4 ih_4 =>
      intro v_readBits v_wrong x2 x3 H locs ls hm hP hD hS hl
      replace hm := mW4_s hm
      rw [M_readNumber_4] at hm
      refine lv_iload_n hx hb d_M_readNumber_4 rfl (lv_at hl 3 rfl) ?_
      refine lv_iload_n hx hb d_M_readNumber_5 rfl (lv_at hl 1 rfl) ?_
      refine lv_icmp_ge (tgt := 24) hx hb d_M_readNumber_6 (by decide) (fun c6 => ?_) (fun c6 => ?_)
      · replace hm := mC_t hm c6
        refine lv_iload_n hx hb d_M_readNumber_24 rfl (lv_at hl 2 rfl) ?_
        replace hm := Option.some.inj hm
        subst hm
        exact hret d_M_readNumber_25 (u := (v_readBits, v_wrong)) ⟨rfl, rfl⟩ hP hD hS
      · replace hm := mC_f hm c6
        refine lv_iload_n hx hb d_M_readNumber_9 rfl (lv_at hl 2 rfl) ?_
        refine lv_aload_n hx hb d_M_readNumber_10 rfl (lv_at hl 0 rfl) ?_
        obtain ⟨r_3, v_readBits_1, v_wrong_2, hc11, hm⟩ := mR2_e hm
        refine xmi (wc := (M_readBit_w E a_this a_source n_source x_row x_starts x_image x_readRow x_readStart x_readAt x_readMany x_piece x_packed x_pairBefore x_pairLast x_tokenLength x_tokenValue x_counts x_lengths x_fixed x_ranked x_weight x_weightBefore x_items x_lengthRow x_step x_stepMore x_codes x_symbolTree x_distanceTree x_smallTree x_readLengths x_target v_sourceFrom v_sourceBits c_source v_readBits v_wrong v_plain v_closed v_rowSize v_pieces v_imageSize v_readSize v_readPieces v_packedBits v_tokens v_steps v_made v_room)) [true, true] [0, 1] [0, 1] hP hD hS hA rfl (by decide) (by decide) 2 (by decide) (fun _ => rfl) (fun hPc hDc hFc => va_runV (As := []) (rest := [.int x2]) ⟨hx, hb, hml, hown, hts⟩ (c_M_readBit l E F H.size a_this a_source n_source x_row x_starts x_image x_readRow x_readStart x_readAt x_readMany x_piece x_packed x_pairBefore x_pairLast x_tokenLength x_tokenValue x_counts x_lengths x_fixed x_ranked x_weight x_weightBefore x_items x_lengthRow x_step x_stepMore x_codes x_symbolTree x_distanceTree x_smallTree x_readLengths x_target v_sourceFrom v_sourceBits c_source v_readBits v_wrong v_plain v_closed v_rowSize v_pieces v_imageSize v_readSize v_readPieces v_packedBits v_tokens v_steps v_made v_room (r_3, v_readBits_1, v_wrong_2) hc11) (cwV 0 hts (x_gV tw_1119 tw_1121 tw_57 tw_79 tw_1122) rfl rfl rfl (by decide +kernel) ⟨Nat.le_of_ble_eq_true rfl, Nat.le_of_ble_eq_true rfl⟩) (xPV 12 0 rfl rfl hPc hDc hFc hK hI hN hS) rfl rfl hl.1 rfl (lv_room (Nat.le_of_ble_eq_true rfl)) d_M_readNumber_11 ⟨Nat.le_of_ble_eq_true rfl, Nat.le_of_ble_eq_true rfl⟩) (fun r9 u9 H locs hw hP hD hS => ?_)
        have hw1 : r_3 = r9 := hw.1.symm
        subst hw1
        have hw2 : (v_readBits_1, v_wrong_2) = u9 := hw.2.symm
        subst hw2
        replace hP : va_P E.1 vwCl (M_readNumber_w E a_this a_source n_source x_row x_starts x_image x_readRow x_readStart x_readAt x_readMany x_piece x_packed x_pairBefore x_pairLast x_tokenLength x_tokenValue x_counts x_lengths x_fixed x_ranked x_weight x_weightBefore x_items x_lengthRow x_step x_stepMore x_codes x_symbolTree x_distanceTree x_smallTree x_readLengths x_target v_sourceFrom v_sourceBits c_source v_readBits_1 v_wrong_2 v_plain v_closed v_rowSize v_pieces v_imageSize v_readSize v_readPieces v_packedBits v_tokens v_steps v_made v_room) H := hP
        replace hD : va_D A (M_readNumber_w E a_this a_source n_source x_row x_starts x_image x_readRow x_readStart x_readAt x_readMany x_piece x_packed x_pairBefore x_pairLast x_tokenLength x_tokenValue x_counts x_lengths x_fixed x_ranked x_weight x_weightBefore x_items x_lengthRow x_step x_stepMore x_codes x_symbolTree x_distanceTree x_smallTree x_readLengths x_target v_sourceFrom v_sourceBits c_source v_readBits_1 v_wrong_2 v_plain v_closed v_rowSize v_pieces v_imageSize v_readSize v_readPieces v_packedBits v_tokens v_steps v_made v_room) := hD
        refine lv_iload_n hx hb d_M_readNumber_14 rfl (lv_at hl 3 rfl) ?_
        refine lv_ishl hx hb d_M_readNumber_15 ?_
        refine lv_ior hx hb d_M_readNumber_16 ?_
        refine lv_topi (fun y2_4 ey2_4 => ?_)
        replace hm := mL_e hm y2_4 ey2_4
        refine lv_istore_n (lv' := [(2, .int y2_4), (0, .ref a_this), (1, .int x1), (3, .int x3)]) hx hb d_M_readNumber_17 rfl hl (by decide) rfl (fun ls hl => ?_)
        obtain ⟨y3_5, ey3_5⟩ : ∃ y : Int32, y = x3 + 1 := ⟨_, rfl⟩
        replace hm := mL_e hm y3_5 ey3_5
        refine lv_iinc (v := y3_5) (lv' := [(3, .int y3_5), (2, .int y2_4), (0, .ref a_this), (1, .int x1)]) hx hb d_M_readNumber_18 hl (k := 3) rfl (by rw [ey3_5]; rfl) (by decide) rfl (fun ls hl => ?_)
        refine lv_goto (tgt := 4) hx hb d_M_readNumber_21 (by decide) ?_
        exact ih_4 _ _ _ _ H locs ls hm hP hD hS (lv_sub hl [2, 3, 1, 0] rfl)
  refine lv_iconst (v := 0) hx hb d_M_readNumber_0 (by decide) ?_
  refine lv_istore_n (lv' := [(2, .int 0), (0, .ref a_this), (1, .int x1)]) hx hb d_M_readNumber_1 rfl hl (by decide) rfl (fun ls hl => ?_)
  refine lv_iconst (v := 0) hx hb d_M_readNumber_2 (by decide) ?_
  refine lv_istore_n (lv' := [(3, .int 0), (2, .int 0), (0, .ref a_this), (1, .int x1)]) hx hb d_M_readNumber_3 rfl hl (by decide) rfl (fun ls hl => ?_)
  exact h_4 F _ _ _ _ H locs ls hm hP hD hS (lv_sub hl [2, 3, 1, 0] rfl)
theorem d_M_toByte_0 : decode b_M_toByte 0 = .ok (.aload_n 0, 1) := by decide +kernel
theorem d_M_toByte_1 : decode b_M_toByte 1 = .ok (.getfield 222, 3) := by decide +kernel
theorem d_M_toByte_4 : decode b_M_toByte 4 = .ok (.bipush 8, 2) := by decide +kernel
theorem d_M_toByte_6 : decode b_M_toByte 6 = .ok (.irem, 1) := by decide +kernel
theorem d_M_toByte_7 : decode b_M_toByte 7 = .ok (.ifCond .eq 16, 3) := by decide +kernel
theorem d_M_toByte_10 : decode b_M_toByte 10 = .ok (.aload_n 0, 1) := by decide +kernel
theorem d_M_toByte_11 : decode b_M_toByte 11 = .ok (.dup, 1) := by decide +kernel
theorem d_M_toByte_12 : decode b_M_toByte 12 = .ok (.getfield 222, 3) := by decide +kernel
theorem d_M_toByte_15 : decode b_M_toByte 15 = .ok (.iconst 1, 1) := by decide +kernel
theorem d_M_toByte_16 : decode b_M_toByte 16 = .ok (.iadd, 1) := by decide +kernel
theorem d_M_toByte_17 : decode b_M_toByte 17 = .ok (.putfield 222, 3) := by decide +kernel
theorem d_M_toByte_20 : decode b_M_toByte 20 = .ok (.goto (-20), 3) := by decide +kernel
theorem d_M_toByte_23 : decode b_M_toByte 23 = .ok (.return_, 1) := by decide +kernel
def M_toByte_0 (F : Nat) (k_0 : Int32 → Option (Unit × Int32)) (v_readBits : Int32) : Option (Unit × Int32) :=
  mC ((v_readBits - v_readBits / 8 * 8) = 0) (some ((), v_readBits)) (mL (v_readBits + 1) fun v_1 => k_0 v_1)
abbrev M_toByte_w (E : xE) (a_this : Nat) (x_row : Value) (x_starts : Value) (x_image : Value) (x_readRow : Value) (x_readStart : Value) (x_readAt : Value) (x_readMany : Value) (x_piece : Value) (x_packed : Value) (x_pairBefore : Value) (x_pairLast : Value) (x_tokenLength : Value) (x_tokenValue : Value) (x_counts : Value) (x_lengths : Value) (x_fixed : Value) (x_ranked : Value) (x_weight : Value) (x_weightBefore : Value) (x_items : Value) (x_lengthRow : Value) (x_step : Value) (x_stepMore : Value) (x_codes : Value) (x_symbolTree : Value) (x_distanceTree : Value) (x_smallTree : Value) (x_readLengths : Value) (x_source : Value) (x_target : Value) (v_readBits : Int32) (v_plain : Int32) (v_closed : Int32) (v_rowSize : Int32) (v_pieces : Int32) (v_imageSize : Int32) (v_readSize : Int32) (v_readPieces : Int32) (v_packedBits : Int32) (v_tokens : Int32) (v_steps : Int32) (v_sourceFrom : Int32) (v_sourceBits : Int32) (v_wrong : Int32) (v_made : Int32) (v_room : Int32) : va_W := [(a_this, .inr (12, [.int v_plain, .int v_closed, .int v_rowSize, x_row, .int v_pieces, x_starts, .int v_imageSize, x_image, .int v_readSize, x_readRow, .int v_readPieces, x_readStart, x_readAt, x_readMany, x_piece, x_packed, .int v_packedBits, x_pairBefore, x_pairLast, .int v_tokens, x_tokenLength, x_tokenValue, x_counts, x_lengths, x_fixed, x_ranked, x_weight, x_weightBefore, x_items, x_lengthRow, .int v_steps, x_step, x_stepMore, x_codes, x_symbolTree, x_distanceTree, x_smallTree, x_readLengths, x_source, .int v_sourceFrom, .int v_sourceBits, .int v_readBits, .int v_wrong, x_target, .int v_made, .int v_room]))]
def M_toByte (F : Nat) (v_readBits : Int32) : Option (Unit × Int32) :=
  (mW1 (M_toByte_0 F) F) v_readBits
abbrev M_toByte_rm : Room := { frames := 0, cells := 0, slots := 0, locals := 0 }
set_option maxHeartbeats 4000000 in
set_option maxRecDepth 100000 in
theorem c_M_toByte (l : Launch) (E : xE) (F sz : Nat) (a_this : Nat) (x_row : Value) (x_starts : Value) (x_image : Value) (x_readRow : Value) (x_readStart : Value) (x_readAt : Value) (x_readMany : Value) (x_piece : Value) (x_packed : Value) (x_pairBefore : Value) (x_pairLast : Value) (x_tokenLength : Value) (x_tokenValue : Value) (x_counts : Value) (x_lengths : Value) (x_fixed : Value) (x_ranked : Value) (x_weight : Value) (x_weightBefore : Value) (x_items : Value) (x_lengthRow : Value) (x_step : Value) (x_stepMore : Value) (x_codes : Value) (x_symbolTree : Value) (x_distanceTree : Value) (x_smallTree : Value) (x_readLengths : Value) (x_source : Value) (x_target : Value) (v_readBits : Int32) (v_plain : Int32) (v_closed : Int32) (v_rowSize : Int32) (v_pieces : Int32) (v_imageSize : Int32) (v_readSize : Int32) (v_readPieces : Int32) (v_packedBits : Int32) (v_tokens : Int32) (v_steps : Int32) (v_sourceFrom : Int32) (v_sourceBits : Int32) (v_wrong : Int32) (v_made : Int32) (v_room : Int32) (res : Unit × Int32) (hm : M_toByte F v_readBits = some res) : Met l y_M_toByte (Cond.code y_M_toByte b_M_toByte 1 none :: x_tb) M_toByte_rm (va_Pc [.ref a_this] (xPre E (M_toByte_w E a_this x_row x_starts x_image x_readRow x_readStart x_readAt x_readMany x_piece x_packed x_pairBefore x_pairLast x_tokenLength x_tokenValue x_counts x_lengths x_fixed x_ranked x_weight x_weightBefore x_items x_lengthRow x_step x_stepMore x_codes x_symbolTree x_distanceTree x_smallTree x_readLengths x_source x_target v_readBits v_plain v_closed v_rowSize v_pieces v_imageSize v_readSize v_readPieces v_packedBits v_tokens v_steps v_sourceFrom v_sourceBits v_wrong v_made v_room) sz)) (xQv E (fun (u : Int32) => u = res.2) (fun (u : Int32) => (M_toByte_w E a_this x_row x_starts x_image x_readRow x_readStart x_readAt x_readMany x_piece x_packed x_pairBefore x_pairLast x_tokenLength x_tokenValue x_counts x_lengths x_fixed x_ranked x_weight x_weightBefore x_items x_lengthRow x_step x_stepMore x_codes x_symbolTree x_distanceTree x_smallTree x_readLengths x_source x_target u v_plain v_closed v_rowSize v_pieces v_imageSize v_readSize v_readPieces v_packedBits v_tokens v_steps v_sourceFrom v_sourceBits v_wrong v_made v_room)) (va_A (M_toByte_w E a_this x_row x_starts x_image x_readRow x_readStart x_readAt x_readMany x_piece x_packed x_pairBefore x_pairLast x_tokenLength x_tokenValue x_counts x_lengths x_fixed x_ranked x_weight x_weightBefore x_items x_lengthRow x_step x_stepMore x_codes x_symbolTree x_distanceTree x_smallTree x_readLengths x_source x_target v_readBits v_plain v_closed v_rowSize v_pieces v_imageSize v_readSize v_readPieces v_packedBits v_tokens v_steps v_sourceFrom v_sourceBits v_wrong v_made v_room) sz)) 0 0 (va_A (M_toByte_w E a_this x_row x_starts x_image x_readRow x_readStart x_readAt x_readMany x_piece x_packed x_pairBefore x_pairLast x_tokenLength x_tokenValue x_counts x_lengths x_fixed x_ranked x_weight x_weightBefore x_items x_lengthRow x_step x_stepMore x_codes x_symbolTree x_distanceTree x_smallTree x_readLengths x_source x_target v_readBits v_plain v_closed v_rowSize v_pieces v_imageSize v_readSize v_readPieces v_packedBits v_tokens v_steps v_sourceFrom v_sourceBits v_wrong v_made v_room) sz) := by
  refine xEnV (by decide) (Nat.le_of_ble_eq_true rfl) ?_
  intro p e s m args below meth c A ls Q hx hb hnm hts hown hml hK hA hI hN hret hP hD hS hl
  replace hown : s.vm.findClass R_M = some m.cls := hown
  replace hl : lv_has ls 1 [(0, .ref a_this)] := hl
  obtain ⟨H, eH⟩ : ∃ z, z = s.heap := ⟨_, rfl⟩
  obtain ⟨locs, eL⟩ : ∃ z : List Loc, z = [] := ⟨_, rfl⟩
  rw [show W p l e M_toByte_rm s m args below meth c s.heap [] 0 0 Q (F0 m 0 ls []) = W p l e M_toByte_rm s m args below meth c H locs 0 0 Q (F0 m 0 ls []) by rw [eH, eL]]
  replace hP : va_P E.1 vwCl (M_toByte_w E a_this x_row x_starts x_image x_readRow x_readStart x_readAt x_readMany x_piece x_packed x_pairBefore x_pairLast x_tokenLength x_tokenValue x_counts x_lengths x_fixed x_ranked x_weight x_weightBefore x_items x_lengthRow x_step x_stepMore x_codes x_symbolTree x_distanceTree x_smallTree x_readLengths x_source x_target v_readBits v_plain v_closed v_rowSize v_pieces v_imageSize v_readSize v_readPieces v_packedBits v_tokens v_steps v_sourceFrom v_sourceBits v_wrong v_made v_room) H := by rw [eH]; exact hP
  replace hS : va_S A s.heap H locs := by rw [eH, eL]; exact hS
  clear eH eL
  rw [M_toByte] at hm
  have h_0 : ∀ (n_0 : Nat) (v_readBits : Int32) (H : Heap) (locs : List Loc) (ls : Array Slot), (mW1 (M_toByte_0 F) n_0) v_readBits = some res → va_P E.1 vwCl (M_toByte_w E a_this x_row x_starts x_image x_readRow x_readStart x_readAt x_readMany x_piece x_packed x_pairBefore x_pairLast x_tokenLength x_tokenValue x_counts x_lengths x_fixed x_ranked x_weight x_weightBefore x_items x_lengthRow x_step x_stepMore x_codes x_symbolTree x_distanceTree x_smallTree x_readLengths x_source x_target v_readBits v_plain v_closed v_rowSize v_pieces v_imageSize v_readSize v_readPieces v_packedBits v_tokens v_steps v_sourceFrom v_sourceBits v_wrong v_made v_room) H → va_D A (M_toByte_w E a_this x_row x_starts x_image x_readRow x_readStart x_readAt x_readMany x_piece x_packed x_pairBefore x_pairLast x_tokenLength x_tokenValue x_counts x_lengths x_fixed x_ranked x_weight x_weightBefore x_items x_lengthRow x_step x_stepMore x_codes x_symbolTree x_distanceTree x_smallTree x_readLengths x_source x_target v_readBits v_plain v_closed v_rowSize v_pieces v_imageSize v_readSize v_readPieces v_packedBits v_tokens v_steps v_sourceFrom v_sourceBits v_wrong v_made v_room) → va_S A s.heap H locs → lv_has ls 1 [(0, .ref a_this)] → W p l e M_toByte_rm s m args below meth c H locs 0 0 Q (F0 m 0 ls []) := by
    intro n_0
    induction n_0 with
    | zero => exact fun _ _ _ _ hm _ _ _ _ => (mW1_z hm).elim
    | succ n_0 ih_0 =>
      intro v_readBits H locs ls hm hP hD hS hl
      replace hm := mW1_s hm
      rw [M_toByte_0] at hm
      refine lv_aload_n hx hb d_M_toByte_0 rfl (lv_at hl 0 rfl) ?_
      refine va_get (D := E.1) (ci := 12) (v := .int v_readBits) (C := R_M) (T := F_M) (N := 46) hx hb hts i_M hown hK hP 0 rfl rfl 41 (by decide) (hts _ tw_836) (fun _ h9 => h9) rfl d_M_toByte_1 ?_
      refine lv_bipush (v := 8) hx hb d_M_toByte_4 (by decide) ?_
      refine lv_irem hx hb d_M_toByte_6 (by decide) ?_
      refine lv_if_eq (tgt := 23) hx hb d_M_toByte_7 (by decide) (fun c7 => ?_) (fun c7 => ?_)
      · replace hm := mC_t hm c7
        replace hm := Option.some.inj hm
        subst hm
        exact hret d_M_toByte_23 (u := v_readBits) rfl hP hD hS
      · replace hm := mC_f hm c7
        refine lv_aload_n hx hb d_M_toByte_10 rfl (lv_at hl 0 rfl) ?_
        refine lv_dup hx hb d_M_toByte_11 rfl ?_
        refine va_get (D := E.1) (ci := 12) (v := .int v_readBits) (C := R_M) (T := F_M) (N := 46) hx hb hts i_M hown hK hP 0 rfl rfl 41 (by decide) (hts _ tw_836) (fun _ h9 => h9) rfl d_M_toByte_12 ?_
        refine lv_iconst (v := 1) hx hb d_M_toByte_15 (by decide) ?_
        refine lv_iadd hx hb d_M_toByte_16 ?_
        refine lv_topi (fun v_1 ev_1 => ?_)
        replace hm := mL_e hm v_1 ev_1
        refine va_put (D := E.1) (ci := 12) (v := .int v_1) (ty := .int) (C := R_M) (T := F_M) (N := 46) hx hb hts i_M t_M t_M_ok n_M hown hK hP hD hS 0 rfl rfl 41 (by decide) (hts _ tw_836) (fun _ h9 => h9) rfl (by decide +kernel) rfl rfl (Nat.le_of_ble_eq_true rfl) d_M_toByte_17 (fun H locs hP hD hS => ?_)
        replace hP : va_P E.1 vwCl (M_toByte_w E a_this x_row x_starts x_image x_readRow x_readStart x_readAt x_readMany x_piece x_packed x_pairBefore x_pairLast x_tokenLength x_tokenValue x_counts x_lengths x_fixed x_ranked x_weight x_weightBefore x_items x_lengthRow x_step x_stepMore x_codes x_symbolTree x_distanceTree x_smallTree x_readLengths x_source x_target v_1 v_plain v_closed v_rowSize v_pieces v_imageSize v_readSize v_readPieces v_packedBits v_tokens v_steps v_sourceFrom v_sourceBits v_wrong v_made v_room) H := hP
        replace hD : va_D A (M_toByte_w E a_this x_row x_starts x_image x_readRow x_readStart x_readAt x_readMany x_piece x_packed x_pairBefore x_pairLast x_tokenLength x_tokenValue x_counts x_lengths x_fixed x_ranked x_weight x_weightBefore x_items x_lengthRow x_step x_stepMore x_codes x_symbolTree x_distanceTree x_smallTree x_readLengths x_source x_target v_1 v_plain v_closed v_rowSize v_pieces v_imageSize v_readSize v_readPieces v_packedBits v_tokens v_steps v_sourceFrom v_sourceBits v_wrong v_made v_room) := hD
        refine lv_goto (tgt := 0) hx hb d_M_toByte_20 (by decide) ?_
        exact ih_0 _ H locs ls hm hP hD hS hl
  exact h_0 F _ H locs ls hm hP hD hS hl
theorem d_M_makeByte_0 : decode b_M_makeByte 0 = .ok (.aload_n 0, 1) := by decide +kernel
theorem d_M_makeByte_1 : decode b_M_makeByte 1 = .ok (.aload_n 0, 1) := by decide +kernel
theorem d_M_makeByte_2 : decode b_M_makeByte 2 = .ok (.getfield 218, 3) := by decide +kernel
theorem d_M_makeByte_5 : decode b_M_makeByte 5 = .ok (.ifCond .ne 14, 3) := by decide +kernel
theorem d_M_makeByte_8 : decode b_M_makeByte 8 = .ok (.aload_n 0, 1) := by decide +kernel
theorem d_M_makeByte_9 : decode b_M_makeByte 9 = .ok (.getfield 241, 3) := by decide +kernel
theorem d_M_makeByte_12 : decode b_M_makeByte 12 = .ok (.aload_n 0, 1) := by decide +kernel
theorem d_M_makeByte_13 : decode b_M_makeByte 13 = .ok (.getfield 244, 3) := by decide +kernel
theorem d_M_makeByte_16 : decode b_M_makeByte 16 = .ok (.if_icmp .ne 7, 3) := by decide +kernel
theorem d_M_makeByte_19 : decode b_M_makeByte 19 = .ok (.iconst 1, 1) := by decide +kernel
theorem d_M_makeByte_20 : decode b_M_makeByte 20 = .ok (.goto 4, 3) := by decide +kernel
theorem d_M_makeByte_23 : decode b_M_makeByte 23 = .ok (.iconst 0, 1) := by decide +kernel
theorem d_M_makeByte_24 : decode b_M_makeByte 24 = .ok (.putfield 218, 3) := by decide +kernel
theorem d_M_makeByte_27 : decode b_M_makeByte 27 = .ok (.aload_n 0, 1) := by decide +kernel
theorem d_M_makeByte_28 : decode b_M_makeByte 28 = .ok (.getfield 218, 3) := by decide +kernel
theorem d_M_makeByte_31 : decode b_M_makeByte 31 = .ok (.ifCond .ne 24, 3) := by decide +kernel
theorem d_M_makeByte_34 : decode b_M_makeByte 34 = .ok (.aload_n 0, 1) := by decide +kernel
theorem d_M_makeByte_35 : decode b_M_makeByte 35 = .ok (.getfield 247, 3) := by decide +kernel
theorem d_M_makeByte_38 : decode b_M_makeByte 38 = .ok (.aload_n 0, 1) := by decide +kernel
theorem d_M_makeByte_39 : decode b_M_makeByte 39 = .ok (.getfield 241, 3) := by decide +kernel
theorem d_M_makeByte_42 : decode b_M_makeByte 42 = .ok (.iload_n 1, 1) := by decide +kernel
theorem d_M_makeByte_43 : decode b_M_makeByte 43 = .ok (.i2b, 1) := by decide +kernel
theorem d_M_makeByte_44 : decode b_M_makeByte 44 = .ok (.bastore, 1) := by decide +kernel
theorem d_M_makeByte_45 : decode b_M_makeByte 45 = .ok (.aload_n 0, 1) := by decide +kernel
theorem d_M_makeByte_46 : decode b_M_makeByte 46 = .ok (.dup, 1) := by decide +kernel
theorem d_M_makeByte_47 : decode b_M_makeByte 47 = .ok (.getfield 241, 3) := by decide +kernel
theorem d_M_makeByte_50 : decode b_M_makeByte 50 = .ok (.iconst 1, 1) := by decide +kernel
theorem d_M_makeByte_51 : decode b_M_makeByte 51 = .ok (.iadd, 1) := by decide +kernel
theorem d_M_makeByte_52 : decode b_M_makeByte 52 = .ok (.putfield 241, 3) := by decide +kernel
theorem d_M_makeByte_55 : decode b_M_makeByte 55 = .ok (.return_, 1) := by decide +kernel
def M_makeByte_24 (F : Nat) (n_target : Nat) (x1 : Int32) (v_wrong : Int32) (v_made : Int32) (c_target : Nat → Int32) (s1 : Int32) : Option (Unit × Int32 × Int32 × (Nat → Int32)) :=
  mZ s1 (mC (s1 = 0) (mG v_made n_target (mL (upd c_target v_made.toNatClampNeg (vp_nar .byte x1.toInt8.toInt32)) fun c_1 => mL (v_made + 1) fun v_2 => some ((), s1, v_2, c_1))) (some ((), s1, v_made, c_target)))
def M_makeByte_19 (F : Nat) (n_target : Nat) (x1 : Int32) (v_wrong : Int32) (v_made : Int32) (c_target : Nat → Int32) : Option (Unit × Int32 × Int32 × (Nat → Int32)) :=
  (M_makeByte_24 F n_target x1) v_wrong v_made c_target 1
abbrev M_makeByte_w (E : xE) (a_this : Nat) (a_target : Nat) (n_target : Nat) (x_row : Value) (x_starts : Value) (x_image : Value) (x_readRow : Value) (x_readStart : Value) (x_readAt : Value) (x_readMany : Value) (x_piece : Value) (x_packed : Value) (x_pairBefore : Value) (x_pairLast : Value) (x_tokenLength : Value) (x_tokenValue : Value) (x_counts : Value) (x_lengths : Value) (x_fixed : Value) (x_ranked : Value) (x_weight : Value) (x_weightBefore : Value) (x_items : Value) (x_lengthRow : Value) (x_step : Value) (x_stepMore : Value) (x_codes : Value) (x_symbolTree : Value) (x_distanceTree : Value) (x_smallTree : Value) (x_readLengths : Value) (x_source : Value) (v_room : Int32) (v_wrong : Int32) (v_made : Int32) (c_target : Nat → Int32) (v_plain : Int32) (v_closed : Int32) (v_rowSize : Int32) (v_pieces : Int32) (v_imageSize : Int32) (v_readSize : Int32) (v_readPieces : Int32) (v_packedBits : Int32) (v_tokens : Int32) (v_steps : Int32) (v_sourceFrom : Int32) (v_sourceBits : Int32) (v_readBits : Int32) : va_W := [(a_this, .inr (12, [.int v_plain, .int v_closed, .int v_rowSize, x_row, .int v_pieces, x_starts, .int v_imageSize, x_image, .int v_readSize, x_readRow, .int v_readPieces, x_readStart, x_readAt, x_readMany, x_piece, x_packed, .int v_packedBits, x_pairBefore, x_pairLast, .int v_tokens, x_tokenLength, x_tokenValue, x_counts, x_lengths, x_fixed, x_ranked, x_weight, x_weightBefore, x_items, x_lengthRow, .int v_steps, x_step, x_stepMore, x_codes, x_symbolTree, x_distanceTree, x_smallTree, x_readLengths, x_source, .int v_sourceFrom, .int v_sourceBits, .int v_readBits, .int v_wrong, .ref a_target, .int v_made, .int v_room])), (a_target, .inl (E.2.2.1, n_target, .inl c_target))]
def M_makeByte (F : Nat) (n_target : Nat) (v_room : Int32) (v_wrong : Int32) (v_made : Int32) (c_target : Nat → Int32) (x1 : Int32) : Option (Unit × Int32 × Int32 × (Nat → Int32)) :=
  mC (v_wrong = 0) (mC (v_made = v_room) ((M_makeByte_19 F n_target x1) v_wrong v_made c_target) ((M_makeByte_24 F n_target x1) v_wrong v_made c_target 0)) ((M_makeByte_19 F n_target x1) v_wrong v_made c_target)
abbrev M_makeByte_rm : Room := { frames := 0, cells := 0, slots := 0, locals := 0 }
set_option maxHeartbeats 4000000 in
set_option maxRecDepth 100000 in
theorem c_M_makeByte (l : Launch) (E : xE) (F sz : Nat) (a_this : Nat) (a_target : Nat) (n_target : Nat) (x_row : Value) (x_starts : Value) (x_image : Value) (x_readRow : Value) (x_readStart : Value) (x_readAt : Value) (x_readMany : Value) (x_piece : Value) (x_packed : Value) (x_pairBefore : Value) (x_pairLast : Value) (x_tokenLength : Value) (x_tokenValue : Value) (x_counts : Value) (x_lengths : Value) (x_fixed : Value) (x_ranked : Value) (x_weight : Value) (x_weightBefore : Value) (x_items : Value) (x_lengthRow : Value) (x_step : Value) (x_stepMore : Value) (x_codes : Value) (x_symbolTree : Value) (x_distanceTree : Value) (x_smallTree : Value) (x_readLengths : Value) (x_source : Value) (v_room : Int32) (v_wrong : Int32) (v_made : Int32) (c_target : Nat → Int32) (v_plain : Int32) (v_closed : Int32) (v_rowSize : Int32) (v_pieces : Int32) (v_imageSize : Int32) (v_readSize : Int32) (v_readPieces : Int32) (v_packedBits : Int32) (v_tokens : Int32) (v_steps : Int32) (v_sourceFrom : Int32) (v_sourceBits : Int32) (v_readBits : Int32) (x1 : Int32) (res : Unit × Int32 × Int32 × (Nat → Int32)) (hm : M_makeByte F n_target v_room v_wrong v_made c_target x1 = some res) : Met l y_M_makeByte (Cond.code y_M_makeByte b_M_makeByte 2 none :: x_tb) M_makeByte_rm (va_Pc [.ref a_this, .int x1] (xPre E (M_makeByte_w E a_this a_target n_target x_row x_starts x_image x_readRow x_readStart x_readAt x_readMany x_piece x_packed x_pairBefore x_pairLast x_tokenLength x_tokenValue x_counts x_lengths x_fixed x_ranked x_weight x_weightBefore x_items x_lengthRow x_step x_stepMore x_codes x_symbolTree x_distanceTree x_smallTree x_readLengths x_source v_room v_wrong v_made c_target v_plain v_closed v_rowSize v_pieces v_imageSize v_readSize v_readPieces v_packedBits v_tokens v_steps v_sourceFrom v_sourceBits v_readBits) sz)) (xQv E (fun (u : Int32 × Int32 × (Nat → Int32)) => u = res.2) (fun (u : Int32 × Int32 × (Nat → Int32)) => (M_makeByte_w E a_this a_target n_target x_row x_starts x_image x_readRow x_readStart x_readAt x_readMany x_piece x_packed x_pairBefore x_pairLast x_tokenLength x_tokenValue x_counts x_lengths x_fixed x_ranked x_weight x_weightBefore x_items x_lengthRow x_step x_stepMore x_codes x_symbolTree x_distanceTree x_smallTree x_readLengths x_source v_room u.1 u.2.1 u.2.2 v_plain v_closed v_rowSize v_pieces v_imageSize v_readSize v_readPieces v_packedBits v_tokens v_steps v_sourceFrom v_sourceBits v_readBits)) (va_A (M_makeByte_w E a_this a_target n_target x_row x_starts x_image x_readRow x_readStart x_readAt x_readMany x_piece x_packed x_pairBefore x_pairLast x_tokenLength x_tokenValue x_counts x_lengths x_fixed x_ranked x_weight x_weightBefore x_items x_lengthRow x_step x_stepMore x_codes x_symbolTree x_distanceTree x_smallTree x_readLengths x_source v_room v_wrong v_made c_target v_plain v_closed v_rowSize v_pieces v_imageSize v_readSize v_readPieces v_packedBits v_tokens v_steps v_sourceFrom v_sourceBits v_readBits) sz)) 0 0 (va_A (M_makeByte_w E a_this a_target n_target x_row x_starts x_image x_readRow x_readStart x_readAt x_readMany x_piece x_packed x_pairBefore x_pairLast x_tokenLength x_tokenValue x_counts x_lengths x_fixed x_ranked x_weight x_weightBefore x_items x_lengthRow x_step x_stepMore x_codes x_symbolTree x_distanceTree x_smallTree x_readLengths x_source v_room v_wrong v_made c_target v_plain v_closed v_rowSize v_pieces v_imageSize v_readSize v_readPieces v_packedBits v_tokens v_steps v_sourceFrom v_sourceBits v_readBits) sz) := by
  refine xEnV (by decide) (Nat.le_of_ble_eq_true rfl) ?_
  intro p e s m args below meth c A ls Q hx hb hnm hts hown hml hK hA hI hN hret hP hD hS hl
  replace hown : s.vm.findClass R_M = some m.cls := hown
  replace hl : lv_has ls 2 [(0, .ref a_this), (1, .int x1)] := hl
  obtain ⟨H, eH⟩ : ∃ z, z = s.heap := ⟨_, rfl⟩
  obtain ⟨locs, eL⟩ : ∃ z : List Loc, z = [] := ⟨_, rfl⟩
  rw [show W p l e M_makeByte_rm s m args below meth c s.heap [] 0 0 Q (F0 m 0 ls []) = W p l e M_makeByte_rm s m args below meth c H locs 0 0 Q (F0 m 0 ls []) by rw [eH, eL]]
  replace hP : va_P E.1 vwCl (M_makeByte_w E a_this a_target n_target x_row x_starts x_image x_readRow x_readStart x_readAt x_readMany x_piece x_packed x_pairBefore x_pairLast x_tokenLength x_tokenValue x_counts x_lengths x_fixed x_ranked x_weight x_weightBefore x_items x_lengthRow x_step x_stepMore x_codes x_symbolTree x_distanceTree x_smallTree x_readLengths x_source v_room v_wrong v_made c_target v_plain v_closed v_rowSize v_pieces v_imageSize v_readSize v_readPieces v_packedBits v_tokens v_steps v_sourceFrom v_sourceBits v_readBits) H := by rw [eH]; exact hP
  replace hS : va_S A s.heap H locs := by rw [eH, eL]; exact hS
  clear eH eL
  rw [M_makeByte] at hm
  have h_24 : ∀ (v_wrong : Int32) (v_made : Int32) (c_target : Nat → Int32) (s1 : Int32) (H : Heap) (locs : List Loc) (ls : Array Slot), (M_makeByte_24 F n_target x1) v_wrong v_made c_target s1 = some res → va_P E.1 vwCl (M_makeByte_w E a_this a_target n_target x_row x_starts x_image x_readRow x_readStart x_readAt x_readMany x_piece x_packed x_pairBefore x_pairLast x_tokenLength x_tokenValue x_counts x_lengths x_fixed x_ranked x_weight x_weightBefore x_items x_lengthRow x_step x_stepMore x_codes x_symbolTree x_distanceTree x_smallTree x_readLengths x_source v_room v_wrong v_made c_target v_plain v_closed v_rowSize v_pieces v_imageSize v_readSize v_readPieces v_packedBits v_tokens v_steps v_sourceFrom v_sourceBits v_readBits) H → va_D A (M_makeByte_w E a_this a_target n_target x_row x_starts x_image x_readRow x_readStart x_readAt x_readMany x_piece x_packed x_pairBefore x_pairLast x_tokenLength x_tokenValue x_counts x_lengths x_fixed x_ranked x_weight x_weightBefore x_items x_lengthRow x_step x_stepMore x_codes x_symbolTree x_distanceTree x_smallTree x_readLengths x_source v_room v_wrong v_made c_target v_plain v_closed v_rowSize v_pieces v_imageSize v_readSize v_readPieces v_packedBits v_tokens v_steps v_sourceFrom v_sourceBits v_readBits) → va_S A s.heap H locs → lv_has ls 2 [(0, .ref a_this), (1, .int x1)] → W p l e M_makeByte_rm s m args below meth c H locs 0 0 Q (F0 m 24 ls [.int s1, .ref a_this]) := by
    intro v_wrong v_made c_target s1 H locs ls hm hP hD hS hl
    rw [M_makeByte_24] at hm
    obtain ⟨hz24, hm⟩ := mZ_e hm
    refine va_put (D := E.1) (ci := 12) (v := .int s1) (ty := .boolean) (C := R_M) (T := F_M) (N := 46) hx hb hts i_M t_M t_M_ok n_M hown hK hP hD hS 0 rfl rfl 42 (by decide) (hts _ tw_837) (fun _ h9 => h9) rfl (by decide +kernel) (xnz hz24) (xfz hz24) (Nat.le_of_ble_eq_true rfl) d_M_makeByte_24 (fun H locs hP hD hS => ?_)
    replace hP : va_P E.1 vwCl (M_makeByte_w E a_this a_target n_target x_row x_starts x_image x_readRow x_readStart x_readAt x_readMany x_piece x_packed x_pairBefore x_pairLast x_tokenLength x_tokenValue x_counts x_lengths x_fixed x_ranked x_weight x_weightBefore x_items x_lengthRow x_step x_stepMore x_codes x_symbolTree x_distanceTree x_smallTree x_readLengths x_source v_room s1 v_made c_target v_plain v_closed v_rowSize v_pieces v_imageSize v_readSize v_readPieces v_packedBits v_tokens v_steps v_sourceFrom v_sourceBits v_readBits) H := hP
    replace hD : va_D A (M_makeByte_w E a_this a_target n_target x_row x_starts x_image x_readRow x_readStart x_readAt x_readMany x_piece x_packed x_pairBefore x_pairLast x_tokenLength x_tokenValue x_counts x_lengths x_fixed x_ranked x_weight x_weightBefore x_items x_lengthRow x_step x_stepMore x_codes x_symbolTree x_distanceTree x_smallTree x_readLengths x_source v_room s1 v_made c_target v_plain v_closed v_rowSize v_pieces v_imageSize v_readSize v_readPieces v_packedBits v_tokens v_steps v_sourceFrom v_sourceBits v_readBits) := hD
    refine lv_aload_n hx hb d_M_makeByte_27 rfl (lv_at hl 0 rfl) ?_
    refine va_get (D := E.1) (ci := 12) (v := .int s1) (C := R_M) (T := F_M) (N := 46) hx hb hts i_M hown hK hP 0 rfl rfl 42 (by decide) (hts _ tw_837) (fun _ h9 => h9) rfl d_M_makeByte_28 ?_
    refine lv_if_ne (tgt := 55) hx hb d_M_makeByte_31 (by decide) (fun c31 => ?_) (fun c31 => ?_)
    · replace hm := mC_f hm c31
      replace hm := Option.some.inj hm
      subst hm
      exact hret d_M_makeByte_55 (u := (s1, v_made, c_target)) rfl hP hD hS
    · replace hm := mC_t hm c31
      refine lv_aload_n hx hb d_M_makeByte_34 rfl (lv_at hl 0 rfl) ?_
      refine va_get (D := E.1) (ci := 12) (v := .ref a_target) (C := R_M) (T := F_M) (N := 46) hx hb hts i_M hown hK hP 0 rfl rfl 43 (by decide) (hts _ tw_838) (fun _ h9 => h9) rfl d_M_makeByte_35 ?_
      refine lv_aload_n hx hb d_M_makeByte_38 rfl (lv_at hl 0 rfl) ?_
      refine va_get (D := E.1) (ci := 12) (v := .int v_made) (C := R_M) (T := F_M) (N := 46) hx hb hts i_M hown hK hP 0 rfl rfl 44 (by decide) (hts _ tw_839) (fun _ h9 => h9) rfl d_M_makeByte_39 ?_
      refine lv_iload_n hx hb d_M_makeByte_42 rfl (lv_at hl 1 rfl) ?_
      refine lv_i2b hx hb d_M_makeByte_43 rfl ?_
      obtain ⟨hi44, hm⟩ := mG_e hm
      obtain ⟨c_1, ec_1⟩ : ∃ z : Nat → Int32, z = upd c_target v_made.toNatClampNeg (vp_nar .byte x1.toInt8.toInt32) := ⟨_, rfl⟩
      replace hm := mL_e hm c_1 ec_1
      refine va_bast hx hb hK hP hD hS 1 1 rfl rfl hi44 d_M_makeByte_44 (fun H locs hP hD hS => ?_)
      rw [← ec_1] at hP hD
      replace hP : va_P E.1 vwCl (M_makeByte_w E a_this a_target n_target x_row x_starts x_image x_readRow x_readStart x_readAt x_readMany x_piece x_packed x_pairBefore x_pairLast x_tokenLength x_tokenValue x_counts x_lengths x_fixed x_ranked x_weight x_weightBefore x_items x_lengthRow x_step x_stepMore x_codes x_symbolTree x_distanceTree x_smallTree x_readLengths x_source v_room s1 v_made c_1 v_plain v_closed v_rowSize v_pieces v_imageSize v_readSize v_readPieces v_packedBits v_tokens v_steps v_sourceFrom v_sourceBits v_readBits) H := hP
      replace hD : va_D A (M_makeByte_w E a_this a_target n_target x_row x_starts x_image x_readRow x_readStart x_readAt x_readMany x_piece x_packed x_pairBefore x_pairLast x_tokenLength x_tokenValue x_counts x_lengths x_fixed x_ranked x_weight x_weightBefore x_items x_lengthRow x_step x_stepMore x_codes x_symbolTree x_distanceTree x_smallTree x_readLengths x_source v_room s1 v_made c_1 v_plain v_closed v_rowSize v_pieces v_imageSize v_readSize v_readPieces v_packedBits v_tokens v_steps v_sourceFrom v_sourceBits v_readBits) := hD
      refine lv_aload_n hx hb d_M_makeByte_45 rfl (lv_at hl 0 rfl) ?_
      refine lv_dup hx hb d_M_makeByte_46 rfl ?_
      refine va_get (D := E.1) (ci := 12) (v := .int v_made) (C := R_M) (T := F_M) (N := 46) hx hb hts i_M hown hK hP 0 rfl rfl 44 (by decide) (hts _ tw_839) (fun _ h9 => h9) rfl d_M_makeByte_47 ?_
      refine lv_iconst (v := 1) hx hb d_M_makeByte_50 (by decide) ?_
      refine lv_iadd hx hb d_M_makeByte_51 ?_
      refine lv_topi (fun v_2 ev_2 => ?_)
      replace hm := mL_e hm v_2 ev_2
      refine va_put (D := E.1) (ci := 12) (v := .int v_2) (ty := .int) (C := R_M) (T := F_M) (N := 46) hx hb hts i_M t_M t_M_ok n_M hown hK hP hD hS 0 rfl rfl 44 (by decide) (hts _ tw_839) (fun _ h9 => h9) rfl (by decide +kernel) rfl rfl (Nat.le_of_ble_eq_true rfl) d_M_makeByte_52 (fun H locs hP hD hS => ?_)
      replace hP : va_P E.1 vwCl (M_makeByte_w E a_this a_target n_target x_row x_starts x_image x_readRow x_readStart x_readAt x_readMany x_piece x_packed x_pairBefore x_pairLast x_tokenLength x_tokenValue x_counts x_lengths x_fixed x_ranked x_weight x_weightBefore x_items x_lengthRow x_step x_stepMore x_codes x_symbolTree x_distanceTree x_smallTree x_readLengths x_source v_room s1 v_2 c_1 v_plain v_closed v_rowSize v_pieces v_imageSize v_readSize v_readPieces v_packedBits v_tokens v_steps v_sourceFrom v_sourceBits v_readBits) H := hP
      replace hD : va_D A (M_makeByte_w E a_this a_target n_target x_row x_starts x_image x_readRow x_readStart x_readAt x_readMany x_piece x_packed x_pairBefore x_pairLast x_tokenLength x_tokenValue x_counts x_lengths x_fixed x_ranked x_weight x_weightBefore x_items x_lengthRow x_step x_stepMore x_codes x_symbolTree x_distanceTree x_smallTree x_readLengths x_source v_room s1 v_2 c_1 v_plain v_closed v_rowSize v_pieces v_imageSize v_readSize v_readPieces v_packedBits v_tokens v_steps v_sourceFrom v_sourceBits v_readBits) := hD
      replace hm := Option.some.inj hm
      subst hm
      exact hret d_M_makeByte_55 (u := (s1, v_2, c_1)) rfl hP hD hS
  have h_19 : ∀ (v_wrong : Int32) (v_made : Int32) (c_target : Nat → Int32) (H : Heap) (locs : List Loc) (ls : Array Slot), (M_makeByte_19 F n_target x1) v_wrong v_made c_target = some res → va_P E.1 vwCl (M_makeByte_w E a_this a_target n_target x_row x_starts x_image x_readRow x_readStart x_readAt x_readMany x_piece x_packed x_pairBefore x_pairLast x_tokenLength x_tokenValue x_counts x_lengths x_fixed x_ranked x_weight x_weightBefore x_items x_lengthRow x_step x_stepMore x_codes x_symbolTree x_distanceTree x_smallTree x_readLengths x_source v_room v_wrong v_made c_target v_plain v_closed v_rowSize v_pieces v_imageSize v_readSize v_readPieces v_packedBits v_tokens v_steps v_sourceFrom v_sourceBits v_readBits) H → va_D A (M_makeByte_w E a_this a_target n_target x_row x_starts x_image x_readRow x_readStart x_readAt x_readMany x_piece x_packed x_pairBefore x_pairLast x_tokenLength x_tokenValue x_counts x_lengths x_fixed x_ranked x_weight x_weightBefore x_items x_lengthRow x_step x_stepMore x_codes x_symbolTree x_distanceTree x_smallTree x_readLengths x_source v_room v_wrong v_made c_target v_plain v_closed v_rowSize v_pieces v_imageSize v_readSize v_readPieces v_packedBits v_tokens v_steps v_sourceFrom v_sourceBits v_readBits) → va_S A s.heap H locs → lv_has ls 2 [(0, .ref a_this), (1, .int x1)] → W p l e M_makeByte_rm s m args below meth c H locs 0 0 Q (F0 m 19 ls [.ref a_this]) := by
    intro v_wrong v_made c_target H locs ls hm hP hD hS hl
    rw [M_makeByte_19] at hm
    refine lv_iconst (v := 1) hx hb d_M_makeByte_19 (by decide) ?_
    refine lv_goto (tgt := 24) hx hb d_M_makeByte_20 (by decide) ?_
    exact h_24 _ _ _ _ H locs ls hm hP hD hS hl
  refine lv_aload_n hx hb d_M_makeByte_0 rfl (lv_at hl 0 rfl) ?_
  refine lv_aload_n hx hb d_M_makeByte_1 rfl (lv_at hl 0 rfl) ?_
  refine va_get (D := E.1) (ci := 12) (v := .int v_wrong) (C := R_M) (T := F_M) (N := 46) hx hb hts i_M hown hK hP 0 rfl rfl 42 (by decide) (hts _ tw_837) (fun _ h9 => h9) rfl d_M_makeByte_2 ?_
  refine lv_if_ne (tgt := 19) hx hb d_M_makeByte_5 (by decide) (fun c5 => ?_) (fun c5 => ?_)
  · replace hm := mC_f hm c5
    exact h_19 _ _ _ H locs ls hm hP hD hS hl
  · replace hm := mC_t hm c5
    refine lv_aload_n hx hb d_M_makeByte_8 rfl (lv_at hl 0 rfl) ?_
    refine va_get (D := E.1) (ci := 12) (v := .int v_made) (C := R_M) (T := F_M) (N := 46) hx hb hts i_M hown hK hP 0 rfl rfl 44 (by decide) (hts _ tw_839) (fun _ h9 => h9) rfl d_M_makeByte_9 ?_
    refine lv_aload_n hx hb d_M_makeByte_12 rfl (lv_at hl 0 rfl) ?_
    refine va_get (D := E.1) (ci := 12) (v := .int v_room) (C := R_M) (T := F_M) (N := 46) hx hb hts i_M hown hK hP 0 rfl rfl 45 (by decide) (hts _ tw_840) (fun _ h9 => h9) rfl d_M_makeByte_13 ?_
    refine lv_icmp_ne (tgt := 23) hx hb d_M_makeByte_16 (by decide) (fun c16 => ?_) (fun c16 => ?_)
    · replace hm := mC_f hm c16
      refine lv_iconst (v := 0) hx hb d_M_makeByte_23 (by decide) ?_
      exact h_24 _ _ _ _ H locs ls hm hP hD hS hl
    · replace hm := mC_t hm c16
      exact h_19 _ _ _ H locs ls hm hP hD hS hl
theorem d_M_readStored_0 : decode b_M_readStored 0 = .ok (.aload_n 0, 1) := by decide +kernel
theorem d_M_readStored_1 : decode b_M_readStored 1 = .ok (.invokevirtual 250, 3) := by decide +kernel
theorem d_M_readStored_4 : decode b_M_readStored 4 = .ok (.aload_n 0, 1) := by decide +kernel
theorem d_M_readStored_5 : decode b_M_readStored 5 = .ok (.bipush 16, 2) := by decide +kernel
theorem d_M_readStored_7 : decode b_M_readStored 7 = .ok (.invokevirtual 253, 3) := by decide +kernel
theorem d_M_readStored_10 : decode b_M_readStored 10 = .ok (.istore_n 1, 1) := by decide +kernel
theorem d_M_readStored_11 : decode b_M_readStored 11 = .ok (.aload_n 0, 1) := by decide +kernel
theorem d_M_readStored_12 : decode b_M_readStored 12 = .ok (.aload_n 0, 1) := by decide +kernel
theorem d_M_readStored_13 : decode b_M_readStored 13 = .ok (.bipush 16, 2) := by decide +kernel
theorem d_M_readStored_15 : decode b_M_readStored 15 = .ok (.invokevirtual 253, 3) := by decide +kernel
theorem d_M_readStored_18 : decode b_M_readStored 18 = .ok (.ldc 195, 2) := by decide +kernel
theorem d_M_readStored_20 : decode b_M_readStored 20 = .ok (.iload_n 1, 1) := by decide +kernel
theorem d_M_readStored_21 : decode b_M_readStored 21 = .ok (.isub, 1) := by decide +kernel
theorem d_M_readStored_22 : decode b_M_readStored 22 = .ok (.if_icmp .ne 10, 3) := by decide +kernel
theorem d_M_readStored_25 : decode b_M_readStored 25 = .ok (.aload_n 0, 1) := by decide +kernel
theorem d_M_readStored_26 : decode b_M_readStored 26 = .ok (.getfield 218, 3) := by decide +kernel
theorem d_M_readStored_29 : decode b_M_readStored 29 = .ok (.ifCond .eq 7, 3) := by decide +kernel
theorem d_M_readStored_32 : decode b_M_readStored 32 = .ok (.iconst 1, 1) := by decide +kernel
theorem d_M_readStored_33 : decode b_M_readStored 33 = .ok (.goto 4, 3) := by decide +kernel
theorem d_M_readStored_36 : decode b_M_readStored 36 = .ok (.iconst 0, 1) := by decide +kernel
theorem d_M_readStored_37 : decode b_M_readStored 37 = .ok (.putfield 218, 3) := by decide +kernel
theorem d_M_readStored_40 : decode b_M_readStored 40 = .ok (.iconst 0, 1) := by decide +kernel
theorem d_M_readStored_41 : decode b_M_readStored 41 = .ok (.istore_n 2, 1) := by decide +kernel
theorem d_M_readStored_42 : decode b_M_readStored 42 = .ok (.iload_n 2, 1) := by decide +kernel
theorem d_M_readStored_43 : decode b_M_readStored 43 = .ok (.iload_n 1, 1) := by decide +kernel
theorem d_M_readStored_44 : decode b_M_readStored 44 = .ok (.if_icmp .ge 26, 3) := by decide +kernel
theorem d_M_readStored_47 : decode b_M_readStored 47 = .ok (.aload_n 0, 1) := by decide +kernel
theorem d_M_readStored_48 : decode b_M_readStored 48 = .ok (.getfield 218, 3) := by decide +kernel
theorem d_M_readStored_51 : decode b_M_readStored 51 = .ok (.ifCond .ne 19, 3) := by decide +kernel
theorem d_M_readStored_54 : decode b_M_readStored 54 = .ok (.aload_n 0, 1) := by decide +kernel
theorem d_M_readStored_55 : decode b_M_readStored 55 = .ok (.aload_n 0, 1) := by decide +kernel
theorem d_M_readStored_56 : decode b_M_readStored 56 = .ok (.bipush 8, 2) := by decide +kernel
theorem d_M_readStored_58 : decode b_M_readStored 58 = .ok (.invokevirtual 253, 3) := by decide +kernel
theorem d_M_readStored_61 : decode b_M_readStored 61 = .ok (.invokevirtual 256, 3) := by decide +kernel
theorem d_M_readStored_64 : decode b_M_readStored 64 = .ok (.iinc 2 1, 3) := by decide +kernel
theorem d_M_readStored_67 : decode b_M_readStored 67 = .ok (.goto (-25), 3) := by decide +kernel
theorem d_M_readStored_70 : decode b_M_readStored 70 = .ok (.return_, 1) := by decide +kernel
def M_readStored_42 (F : Nat) (n_source : Nat) (n_target : Nat) (v_sourceFrom : Int32) (v_sourceBits : Int32) (v_room : Int32) (c_source : Nat → Int32) (k_42 : Int32 → Int32 → Int32 → (Nat → Int32) → Int32 → Int32 → Option (Unit × Int32 × Int32 × Int32 × (Nat → Int32))) (v_readBits : Int32) (v_wrong : Int32) (v_made : Int32) (c_target : Nat → Int32) (x1 : Int32) (x2 : Int32) : Option (Unit × Int32 × Int32 × Int32 × (Nat → Int32)) :=
  mC (x1 ≤ x2) (some ((), v_readBits, v_wrong, v_made, c_target)) (mC (v_wrong = 0) (mR2 (M_readNumber F n_source v_sourceFrom v_sourceBits c_source v_readBits v_wrong 8) fun r_3 v_readBits_1 v_wrong_2 => mR3 (M_makeByte F n_target v_room v_wrong_2 v_made c_target r_3) fun _ v_wrong_4 v_made_5 c_target_6 => mL (x2 + 1) fun y2_8 => k_42 v_readBits_1 v_wrong_4 v_made_5 c_target_6 x1 y2_8) (some ((), v_readBits, v_wrong, v_made, c_target)))
def M_readStored_37 (F : Nat) (n_source : Nat) (n_target : Nat) (v_sourceFrom : Int32) (v_sourceBits : Int32) (v_room : Int32) (c_source : Nat → Int32) (v_readBits : Int32) (v_wrong : Int32) (v_made : Int32) (c_target : Nat → Int32) (x1 : Int32) (s1 : Int32) : Option (Unit × Int32 × Int32 × Int32 × (Nat → Int32)) :=
  mZ s1 ((mW6 (M_readStored_42 F n_source n_target v_sourceFrom v_sourceBits v_room c_source) F) v_readBits s1 v_made c_target x1 0)
def M_readStored_32 (F : Nat) (n_source : Nat) (n_target : Nat) (v_sourceFrom : Int32) (v_sourceBits : Int32) (v_room : Int32) (c_source : Nat → Int32) (v_readBits : Int32) (v_wrong : Int32) (v_made : Int32) (c_target : Nat → Int32) (x1 : Int32) : Option (Unit × Int32 × Int32 × Int32 × (Nat → Int32)) :=
  (M_readStored_37 F n_source n_target v_sourceFrom v_sourceBits v_room c_source) v_readBits v_wrong v_made c_target x1 1
abbrev M_readStored_w (E : xE) (a_this : Nat) (a_source : Nat) (a_target : Nat) (n_source : Nat) (n_target : Nat) (x_row : Value) (x_starts : Value) (x_image : Value) (x_readRow : Value) (x_readStart : Value) (x_readAt : Value) (x_readMany : Value) (x_piece : Value) (x_packed : Value) (x_pairBefore : Value) (x_pairLast : Value) (x_tokenLength : Value) (x_tokenValue : Value) (x_counts : Value) (x_lengths : Value) (x_fixed : Value) (x_ranked : Value) (x_weight : Value) (x_weightBefore : Value) (x_items : Value) (x_lengthRow : Value) (x_step : Value) (x_stepMore : Value) (x_codes : Value) (x_symbolTree : Value) (x_distanceTree : Value) (x_smallTree : Value) (x_readLengths : Value) (v_sourceFrom : Int32) (v_sourceBits : Int32) (v_room : Int32) (c_source : Nat → Int32) (v_readBits : Int32) (v_wrong : Int32) (v_made : Int32) (c_target : Nat → Int32) (v_plain : Int32) (v_closed : Int32) (v_rowSize : Int32) (v_pieces : Int32) (v_imageSize : Int32) (v_readSize : Int32) (v_readPieces : Int32) (v_packedBits : Int32) (v_tokens : Int32) (v_steps : Int32) : va_W := [(a_this, .inr (12, [.int v_plain, .int v_closed, .int v_rowSize, x_row, .int v_pieces, x_starts, .int v_imageSize, x_image, .int v_readSize, x_readRow, .int v_readPieces, x_readStart, x_readAt, x_readMany, x_piece, x_packed, .int v_packedBits, x_pairBefore, x_pairLast, .int v_tokens, x_tokenLength, x_tokenValue, x_counts, x_lengths, x_fixed, x_ranked, x_weight, x_weightBefore, x_items, x_lengthRow, .int v_steps, x_step, x_stepMore, x_codes, x_symbolTree, x_distanceTree, x_smallTree, x_readLengths, .ref a_source, .int v_sourceFrom, .int v_sourceBits, .int v_readBits, .int v_wrong, .ref a_target, .int v_made, .int v_room])), (a_source, .inl (E.2.2.1, n_source, .inl c_source)), (a_target, .inl (E.2.2.1, n_target, .inl c_target))]
def M_readStored (F : Nat) (n_source : Nat) (n_target : Nat) (v_sourceFrom : Int32) (v_sourceBits : Int32) (v_room : Int32) (c_source : Nat → Int32) (v_readBits : Int32) (v_wrong : Int32) (v_made : Int32) (c_target : Nat → Int32) : Option (Unit × Int32 × Int32 × Int32 × (Nat → Int32)) :=
  mR1 (M_toByte F v_readBits) fun _ v_readBits_9 => mR2 (M_readNumber F n_source v_sourceFrom v_sourceBits c_source v_readBits_9 v_wrong 16) fun r_13 v_readBits_11 v_wrong_12 => mR2 (M_readNumber F n_source v_sourceFrom v_sourceBits c_source v_readBits_11 v_wrong_12 16) fun r_16 v_readBits_14 v_wrong_15 => mC (r_16 = (65535 - r_13)) (mC (v_wrong_15 = 0) ((M_readStored_37 F n_source n_target v_sourceFrom v_sourceBits v_room c_source) v_readBits_14 v_wrong_15 v_made c_target r_13 0) ((M_readStored_32 F n_source n_target v_sourceFrom v_sourceBits v_room c_source) v_readBits_14 v_wrong_15 v_made c_target r_13)) ((M_readStored_32 F n_source n_target v_sourceFrom v_sourceBits v_room c_source) v_readBits_14 v_wrong_15 v_made c_target r_13)
abbrev M_readStored_rm : Room := { frames := 2, cells := 0, slots := 0, locals := 44 }
set_option maxHeartbeats 4000000 in
set_option maxRecDepth 100000 in
theorem c_M_readStored (l : Launch) (E : xE) (F sz : Nat) (a_this : Nat) (a_source : Nat) (a_target : Nat) (n_source : Nat) (n_target : Nat) (x_row : Value) (x_starts : Value) (x_image : Value) (x_readRow : Value) (x_readStart : Value) (x_readAt : Value) (x_readMany : Value) (x_piece : Value) (x_packed : Value) (x_pairBefore : Value) (x_pairLast : Value) (x_tokenLength : Value) (x_tokenValue : Value) (x_counts : Value) (x_lengths : Value) (x_fixed : Value) (x_ranked : Value) (x_weight : Value) (x_weightBefore : Value) (x_items : Value) (x_lengthRow : Value) (x_step : Value) (x_stepMore : Value) (x_codes : Value) (x_symbolTree : Value) (x_distanceTree : Value) (x_smallTree : Value) (x_readLengths : Value) (v_sourceFrom : Int32) (v_sourceBits : Int32) (v_room : Int32) (c_source : Nat → Int32) (v_readBits : Int32) (v_wrong : Int32) (v_made : Int32) (c_target : Nat → Int32) (v_plain : Int32) (v_closed : Int32) (v_rowSize : Int32) (v_pieces : Int32) (v_imageSize : Int32) (v_readSize : Int32) (v_readPieces : Int32) (v_packedBits : Int32) (v_tokens : Int32) (v_steps : Int32) (res : Unit × Int32 × Int32 × Int32 × (Nat → Int32)) (hm : M_readStored F n_source n_target v_sourceFrom v_sourceBits v_room c_source v_readBits v_wrong v_made c_target = some res) : Met l y_M_readStored (Cond.code y_M_readStored b_M_readStored 3 none :: x_tb) M_readStored_rm (va_Pc [.ref a_this] (xPre E (M_readStored_w E a_this a_source a_target n_source n_target x_row x_starts x_image x_readRow x_readStart x_readAt x_readMany x_piece x_packed x_pairBefore x_pairLast x_tokenLength x_tokenValue x_counts x_lengths x_fixed x_ranked x_weight x_weightBefore x_items x_lengthRow x_step x_stepMore x_codes x_symbolTree x_distanceTree x_smallTree x_readLengths v_sourceFrom v_sourceBits v_room c_source v_readBits v_wrong v_made c_target v_plain v_closed v_rowSize v_pieces v_imageSize v_readSize v_readPieces v_packedBits v_tokens v_steps) sz)) (xQv E (fun (u : Int32 × Int32 × Int32 × (Nat → Int32)) => u = res.2) (fun (u : Int32 × Int32 × Int32 × (Nat → Int32)) => (M_readStored_w E a_this a_source a_target n_source n_target x_row x_starts x_image x_readRow x_readStart x_readAt x_readMany x_piece x_packed x_pairBefore x_pairLast x_tokenLength x_tokenValue x_counts x_lengths x_fixed x_ranked x_weight x_weightBefore x_items x_lengthRow x_step x_stepMore x_codes x_symbolTree x_distanceTree x_smallTree x_readLengths v_sourceFrom v_sourceBits v_room c_source u.1 u.2.1 u.2.2.1 u.2.2.2 v_plain v_closed v_rowSize v_pieces v_imageSize v_readSize v_readPieces v_packedBits v_tokens v_steps)) (va_A (M_readStored_w E a_this a_source a_target n_source n_target x_row x_starts x_image x_readRow x_readStart x_readAt x_readMany x_piece x_packed x_pairBefore x_pairLast x_tokenLength x_tokenValue x_counts x_lengths x_fixed x_ranked x_weight x_weightBefore x_items x_lengthRow x_step x_stepMore x_codes x_symbolTree x_distanceTree x_smallTree x_readLengths v_sourceFrom v_sourceBits v_room c_source v_readBits v_wrong v_made c_target v_plain v_closed v_rowSize v_pieces v_imageSize v_readSize v_readPieces v_packedBits v_tokens v_steps) sz)) 0 0 (va_A (M_readStored_w E a_this a_source a_target n_source n_target x_row x_starts x_image x_readRow x_readStart x_readAt x_readMany x_piece x_packed x_pairBefore x_pairLast x_tokenLength x_tokenValue x_counts x_lengths x_fixed x_ranked x_weight x_weightBefore x_items x_lengthRow x_step x_stepMore x_codes x_symbolTree x_distanceTree x_smallTree x_readLengths v_sourceFrom v_sourceBits v_room c_source v_readBits v_wrong v_made c_target v_plain v_closed v_rowSize v_pieces v_imageSize v_readSize v_readPieces v_packedBits v_tokens v_steps) sz) := by
  refine xEnV (by decide) (Nat.le_of_ble_eq_true rfl) ?_
  intro p e s m args below meth c A ls Q hx hb hnm hts hown hml hK hA hI hN hret hP hD hS hl
  replace hown : s.vm.findClass R_M = some m.cls := hown
  replace hl : lv_has ls 3 [(0, .ref a_this)] := hl
  obtain ⟨H, eH⟩ : ∃ z, z = s.heap := ⟨_, rfl⟩
  obtain ⟨locs, eL⟩ : ∃ z : List Loc, z = [] := ⟨_, rfl⟩
  rw [show W p l e M_readStored_rm s m args below meth c s.heap [] 0 0 Q (F0 m 0 ls []) = W p l e M_readStored_rm s m args below meth c H locs 0 0 Q (F0 m 0 ls []) by rw [eH, eL]]
  replace hP : va_P E.1 vwCl (M_readStored_w E a_this a_source a_target n_source n_target x_row x_starts x_image x_readRow x_readStart x_readAt x_readMany x_piece x_packed x_pairBefore x_pairLast x_tokenLength x_tokenValue x_counts x_lengths x_fixed x_ranked x_weight x_weightBefore x_items x_lengthRow x_step x_stepMore x_codes x_symbolTree x_distanceTree x_smallTree x_readLengths v_sourceFrom v_sourceBits v_room c_source v_readBits v_wrong v_made c_target v_plain v_closed v_rowSize v_pieces v_imageSize v_readSize v_readPieces v_packedBits v_tokens v_steps) H := by rw [eH]; exact hP
  replace hS : va_S A s.heap H locs := by rw [eH, eL]; exact hS
  clear eH eL
  rw [M_readStored] at hm
  have h_37 : ∀ (v_readBits : Int32) (v_wrong : Int32) (v_made : Int32) (c_target : Nat → Int32) (x1 : Int32) (s1 : Int32) (H : Heap) (locs : List Loc) (ls : Array Slot), (M_readStored_37 F n_source n_target v_sourceFrom v_sourceBits v_room c_source) v_readBits v_wrong v_made c_target x1 s1 = some res → va_P E.1 vwCl (M_readStored_w E a_this a_source a_target n_source n_target x_row x_starts x_image x_readRow x_readStart x_readAt x_readMany x_piece x_packed x_pairBefore x_pairLast x_tokenLength x_tokenValue x_counts x_lengths x_fixed x_ranked x_weight x_weightBefore x_items x_lengthRow x_step x_stepMore x_codes x_symbolTree x_distanceTree x_smallTree x_readLengths v_sourceFrom v_sourceBits v_room c_source v_readBits v_wrong v_made c_target v_plain v_closed v_rowSize v_pieces v_imageSize v_readSize v_readPieces v_packedBits v_tokens v_steps) H → va_D A (M_readStored_w E a_this a_source a_target n_source n_target x_row x_starts x_image x_readRow x_readStart x_readAt x_readMany x_piece x_packed x_pairBefore x_pairLast x_tokenLength x_tokenValue x_counts x_lengths x_fixed x_ranked x_weight x_weightBefore x_items x_lengthRow x_step x_stepMore x_codes x_symbolTree x_distanceTree x_smallTree x_readLengths v_sourceFrom v_sourceBits v_room c_source v_readBits v_wrong v_made c_target v_plain v_closed v_rowSize v_pieces v_imageSize v_readSize v_readPieces v_packedBits v_tokens v_steps) → va_S A s.heap H locs → lv_has ls 3 [(0, .ref a_this), (1, .int x1)] → W p l e M_readStored_rm s m args below meth c H locs 0 0 Q (F0 m 37 ls [.int s1, .ref a_this]) := by
    intro v_readBits v_wrong v_made c_target x1 s1 H locs ls hm hP hD hS hl
    rw [M_readStored_37] at hm
    have h_42 : ∀ (n_42 : Nat) (v_readBits : Int32) (v_wrong : Int32) (v_made : Int32) (c_target : Nat → Int32) (x1 : Int32) (x2 : Int32) (H : Heap) (locs : List Loc) (ls : Array Slot), (mW6 (M_readStored_42 F n_source n_target v_sourceFrom v_sourceBits v_room c_source) n_42) v_readBits v_wrong v_made c_target x1 x2 = some res → va_P E.1 vwCl (M_readStored_w E a_this a_source a_target n_source n_target x_row x_starts x_image x_readRow x_readStart x_readAt x_readMany x_piece x_packed x_pairBefore x_pairLast x_tokenLength x_tokenValue x_counts x_lengths x_fixed x_ranked x_weight x_weightBefore x_items x_lengthRow x_step x_stepMore x_codes x_symbolTree x_distanceTree x_smallTree x_readLengths v_sourceFrom v_sourceBits v_room c_source v_readBits v_wrong v_made c_target v_plain v_closed v_rowSize v_pieces v_imageSize v_readSize v_readPieces v_packedBits v_tokens v_steps) H → va_D A (M_readStored_w E a_this a_source a_target n_source n_target x_row x_starts x_image x_readRow x_readStart x_readAt x_readMany x_piece x_packed x_pairBefore x_pairLast x_tokenLength x_tokenValue x_counts x_lengths x_fixed x_ranked x_weight x_weightBefore x_items x_lengthRow x_step x_stepMore x_codes x_symbolTree x_distanceTree x_smallTree x_readLengths v_sourceFrom v_sourceBits v_room c_source v_readBits v_wrong v_made c_target v_plain v_closed v_rowSize v_pieces v_imageSize v_readSize v_readPieces v_packedBits v_tokens v_steps) → va_S A s.heap H locs → lv_has ls 3 [(0, .ref a_this), (1, .int x1), (2, .int x2)] → W p l e M_readStored_rm s m args below meth c H locs 0 0 Q (F0 m 42 ls []) := by
      intro n_42
      induction n_42 with
      | zero => exact fun _ _ _ _ _ _ _ _ _ hm _ _ _ _ => (mW6_z hm).elim
      | succ n_42 ih_42 =>
        intro v_readBits v_wrong v_made c_target x1 x2 H locs ls hm hP hD hS hl
        replace hm := mW6_s hm
        rw [M_readStored_42] at hm
        refine lv_iload_n hx hb d_M_readStored_42 rfl (lv_at hl 2 rfl) ?_
        refine lv_iload_n hx hb d_M_readStored_43 rfl (lv_at hl 1 rfl) ?_
        refine lv_icmp_ge (tgt := 70) hx hb d_M_readStored_44 (by decide) (fun c44 => ?_) (fun c44 => ?_)
        · replace hm := mC_t hm c44
          replace hm := Option.some.inj hm
          subst hm
          exact hret d_M_readStored_70 (u := (v_readBits, v_wrong, v_made, c_target)) rfl hP hD hS
        · replace hm := mC_f hm c44
          refine lv_aload_n hx hb d_M_readStored_47 rfl (lv_at hl 0 rfl) ?_
          refine va_get (D := E.1) (ci := 12) (v := .int v_wrong) (C := R_M) (T := F_M) (N := 46) hx hb hts i_M hown hK hP 0 rfl rfl 42 (by decide) (hts _ tw_837) (fun _ h9 => h9) rfl d_M_readStored_48 ?_
          refine lv_if_ne (tgt := 70) hx hb d_M_readStored_51 (by decide) (fun c51 => ?_) (fun c51 => ?_)
          · replace hm := mC_f hm c51
            replace hm := Option.some.inj hm
            subst hm
            exact hret d_M_readStored_70 (u := (v_readBits, v_wrong, v_made, c_target)) rfl hP hD hS
          · replace hm := mC_t hm c51
            refine lv_aload_n hx hb d_M_readStored_54 rfl (lv_at hl 0 rfl) ?_
            refine lv_aload_n hx hb d_M_readStored_55 rfl (lv_at hl 0 rfl) ?_
            refine lv_bipush (v := 8) hx hb d_M_readStored_56 (by decide) ?_
            obtain ⟨r_3, v_readBits_1, v_wrong_2, hc58, hm⟩ := mR2_e hm
            refine xmi (wc := (M_readNumber_w E a_this a_source n_source x_row x_starts x_image x_readRow x_readStart x_readAt x_readMany x_piece x_packed x_pairBefore x_pairLast x_tokenLength x_tokenValue x_counts x_lengths x_fixed x_ranked x_weight x_weightBefore x_items x_lengthRow x_step x_stepMore x_codes x_symbolTree x_distanceTree x_smallTree x_readLengths (.ref a_target) v_sourceFrom v_sourceBits c_source v_readBits v_wrong v_plain v_closed v_rowSize v_pieces v_imageSize v_readSize v_readPieces v_packedBits v_tokens v_steps v_made v_room)) [true, true, false] [0, 1] [0, 1] hP hD hS hA rfl (by decide) (by decide) 2 (by decide) (fun _ => rfl) (fun hPc hDc hFc => va_runV (As := [.int 8]) (rest := [.ref a_this]) ⟨hx, hb, hml, hown, hts⟩ (c_M_readNumber l E F H.size a_this a_source n_source x_row x_starts x_image x_readRow x_readStart x_readAt x_readMany x_piece x_packed x_pairBefore x_pairLast x_tokenLength x_tokenValue x_counts x_lengths x_fixed x_ranked x_weight x_weightBefore x_items x_lengthRow x_step x_stepMore x_codes x_symbolTree x_distanceTree x_smallTree x_readLengths (.ref a_target) v_sourceFrom v_sourceBits c_source v_readBits v_wrong v_plain v_closed v_rowSize v_pieces v_imageSize v_readSize v_readPieces v_packedBits v_tokens v_steps v_made v_room 8 (r_3, v_readBits_1, v_wrong_2) hc58) (cwV 1 hts (x_gV tw_1115 tw_1117 tw_56 tw_79 tw_1118) rfl rfl rfl (by decide +kernel) ⟨Nat.le_of_ble_eq_true rfl, Nat.le_of_ble_eq_true rfl⟩) (xPV 12 0 rfl rfl hPc hDc hFc hK hI hN hS) rfl rfl hl.1 rfl (lv_room (Nat.le_of_ble_eq_true rfl)) d_M_readStored_58 ⟨Nat.le_of_ble_eq_true rfl, Nat.le_of_ble_eq_true rfl⟩) (fun r9 u9 H locs hw hP hD hS => ?_)
            have hw1 : r_3 = r9 := hw.1.symm
            subst hw1
            have hw2 : (v_readBits_1, v_wrong_2) = u9 := hw.2.symm
            subst hw2
            replace hP : va_P E.1 vwCl (M_readStored_w E a_this a_source a_target n_source n_target x_row x_starts x_image x_readRow x_readStart x_readAt x_readMany x_piece x_packed x_pairBefore x_pairLast x_tokenLength x_tokenValue x_counts x_lengths x_fixed x_ranked x_weight x_weightBefore x_items x_lengthRow x_step x_stepMore x_codes x_symbolTree x_distanceTree x_smallTree x_readLengths v_sourceFrom v_sourceBits v_room c_source v_readBits_1 v_wrong_2 v_made c_target v_plain v_closed v_rowSize v_pieces v_imageSize v_readSize v_readPieces v_packedBits v_tokens v_steps) H := hP
            replace hD : va_D A (M_readStored_w E a_this a_source a_target n_source n_target x_row x_starts x_image x_readRow x_readStart x_readAt x_readMany x_piece x_packed x_pairBefore x_pairLast x_tokenLength x_tokenValue x_counts x_lengths x_fixed x_ranked x_weight x_weightBefore x_items x_lengthRow x_step x_stepMore x_codes x_symbolTree x_distanceTree x_smallTree x_readLengths v_sourceFrom v_sourceBits v_room c_source v_readBits_1 v_wrong_2 v_made c_target v_plain v_closed v_rowSize v_pieces v_imageSize v_readSize v_readPieces v_packedBits v_tokens v_steps) := hD
            obtain ⟨r_7, v_wrong_4, v_made_5, c_target_6, hc61, hm⟩ := mR3_e hm
            refine xmv (wc := (M_makeByte_w E a_this a_target n_target x_row x_starts x_image x_readRow x_readStart x_readAt x_readMany x_piece x_packed x_pairBefore x_pairLast x_tokenLength x_tokenValue x_counts x_lengths x_fixed x_ranked x_weight x_weightBefore x_items x_lengthRow x_step x_stepMore x_codes x_symbolTree x_distanceTree x_smallTree x_readLengths (.ref a_source) v_room v_wrong_2 v_made c_target v_plain v_closed v_rowSize v_pieces v_imageSize v_readSize v_readPieces v_packedBits v_tokens v_steps v_sourceFrom v_sourceBits v_readBits_1)) [true, false, true] [0, 1] [0, 1] hP hD hS hA rfl (by decide) (by decide) 2 (by decide) (fun _ => rfl) (fun hPc hDc hFc => va_runV (As := [.int r_3]) (rest := []) ⟨hx, hb, hml, hown, hts⟩ (c_M_makeByte l E F H.size a_this a_target n_target x_row x_starts x_image x_readRow x_readStart x_readAt x_readMany x_piece x_packed x_pairBefore x_pairLast x_tokenLength x_tokenValue x_counts x_lengths x_fixed x_ranked x_weight x_weightBefore x_items x_lengthRow x_step x_stepMore x_codes x_symbolTree x_distanceTree x_smallTree x_readLengths (.ref a_source) v_room v_wrong_2 v_made c_target v_plain v_closed v_rowSize v_pieces v_imageSize v_readSize v_readPieces v_packedBits v_tokens v_steps v_sourceFrom v_sourceBits v_readBits_1 r_3 (r_7, v_wrong_4, v_made_5, c_target_6) hc61) (cwV 1 hts (x_gV tw_1131 tw_1133 tw_60 tw_79 tw_1134) rfl rfl rfl (by decide +kernel) ⟨Nat.le_of_ble_eq_true rfl, Nat.le_of_ble_eq_true rfl⟩) (xPV 12 0 rfl rfl hPc hDc hFc hK hI hN hS) rfl rfl hl.1 rfl (lv_room (Nat.le_of_ble_eq_true rfl)) d_M_readStored_61 ⟨Nat.le_of_ble_eq_true rfl, Nat.le_of_ble_eq_true rfl⟩) (fun u9 H locs hw hP hD hS => ?_)
            have hw2 : (v_wrong_4, v_made_5, c_target_6) = u9 := hw.symm
            subst hw2
            replace hP : va_P E.1 vwCl (M_readStored_w E a_this a_source a_target n_source n_target x_row x_starts x_image x_readRow x_readStart x_readAt x_readMany x_piece x_packed x_pairBefore x_pairLast x_tokenLength x_tokenValue x_counts x_lengths x_fixed x_ranked x_weight x_weightBefore x_items x_lengthRow x_step x_stepMore x_codes x_symbolTree x_distanceTree x_smallTree x_readLengths v_sourceFrom v_sourceBits v_room c_source v_readBits_1 v_wrong_4 v_made_5 c_target_6 v_plain v_closed v_rowSize v_pieces v_imageSize v_readSize v_readPieces v_packedBits v_tokens v_steps) H := hP
            replace hD : va_D A (M_readStored_w E a_this a_source a_target n_source n_target x_row x_starts x_image x_readRow x_readStart x_readAt x_readMany x_piece x_packed x_pairBefore x_pairLast x_tokenLength x_tokenValue x_counts x_lengths x_fixed x_ranked x_weight x_weightBefore x_items x_lengthRow x_step x_stepMore x_codes x_symbolTree x_distanceTree x_smallTree x_readLengths v_sourceFrom v_sourceBits v_room c_source v_readBits_1 v_wrong_4 v_made_5 c_target_6 v_plain v_closed v_rowSize v_pieces v_imageSize v_readSize v_readPieces v_packedBits v_tokens v_steps) := hD
            obtain ⟨y2_8, ey2_8⟩ : ∃ y : Int32, y = x2 + 1 := ⟨_, rfl⟩
            replace hm := mL_e hm y2_8 ey2_8
            refine lv_iinc (v := y2_8) (lv' := [(2, .int y2_8), (0, .ref a_this), (1, .int x1)]) hx hb d_M_readStored_64 hl (k := 2) rfl (by rw [ey2_8]; rfl) (by decide) rfl (fun ls hl => ?_)
            refine lv_goto (tgt := 42) hx hb d_M_readStored_67 (by decide) ?_
            exact ih_42 _ _ _ _ _ _ H locs ls hm hP hD hS (lv_sub hl [1, 2, 0] rfl)
    obtain ⟨hz37, hm⟩ := mZ_e hm
    refine va_put (D := E.1) (ci := 12) (v := .int s1) (ty := .boolean) (C := R_M) (T := F_M) (N := 46) hx hb hts i_M t_M t_M_ok n_M hown hK hP hD hS 0 rfl rfl 42 (by decide) (hts _ tw_837) (fun _ h9 => h9) rfl (by decide +kernel) (xnz hz37) (xfz hz37) (Nat.le_of_ble_eq_true rfl) d_M_readStored_37 (fun H locs hP hD hS => ?_)
    replace hP : va_P E.1 vwCl (M_readStored_w E a_this a_source a_target n_source n_target x_row x_starts x_image x_readRow x_readStart x_readAt x_readMany x_piece x_packed x_pairBefore x_pairLast x_tokenLength x_tokenValue x_counts x_lengths x_fixed x_ranked x_weight x_weightBefore x_items x_lengthRow x_step x_stepMore x_codes x_symbolTree x_distanceTree x_smallTree x_readLengths v_sourceFrom v_sourceBits v_room c_source v_readBits s1 v_made c_target v_plain v_closed v_rowSize v_pieces v_imageSize v_readSize v_readPieces v_packedBits v_tokens v_steps) H := hP
    replace hD : va_D A (M_readStored_w E a_this a_source a_target n_source n_target x_row x_starts x_image x_readRow x_readStart x_readAt x_readMany x_piece x_packed x_pairBefore x_pairLast x_tokenLength x_tokenValue x_counts x_lengths x_fixed x_ranked x_weight x_weightBefore x_items x_lengthRow x_step x_stepMore x_codes x_symbolTree x_distanceTree x_smallTree x_readLengths v_sourceFrom v_sourceBits v_room c_source v_readBits s1 v_made c_target v_plain v_closed v_rowSize v_pieces v_imageSize v_readSize v_readPieces v_packedBits v_tokens v_steps) := hD
    refine lv_iconst (v := 0) hx hb d_M_readStored_40 (by decide) ?_
    refine lv_istore_n (lv' := [(2, .int 0), (0, .ref a_this), (1, .int x1)]) hx hb d_M_readStored_41 rfl hl (by decide) rfl (fun ls hl => ?_)
    exact h_42 F _ _ _ _ _ _ H locs ls hm hP hD hS (lv_sub hl [1, 2, 0] rfl)
  have h_32 : ∀ (v_readBits : Int32) (v_wrong : Int32) (v_made : Int32) (c_target : Nat → Int32) (x1 : Int32) (H : Heap) (locs : List Loc) (ls : Array Slot), (M_readStored_32 F n_source n_target v_sourceFrom v_sourceBits v_room c_source) v_readBits v_wrong v_made c_target x1 = some res → va_P E.1 vwCl (M_readStored_w E a_this a_source a_target n_source n_target x_row x_starts x_image x_readRow x_readStart x_readAt x_readMany x_piece x_packed x_pairBefore x_pairLast x_tokenLength x_tokenValue x_counts x_lengths x_fixed x_ranked x_weight x_weightBefore x_items x_lengthRow x_step x_stepMore x_codes x_symbolTree x_distanceTree x_smallTree x_readLengths v_sourceFrom v_sourceBits v_room c_source v_readBits v_wrong v_made c_target v_plain v_closed v_rowSize v_pieces v_imageSize v_readSize v_readPieces v_packedBits v_tokens v_steps) H → va_D A (M_readStored_w E a_this a_source a_target n_source n_target x_row x_starts x_image x_readRow x_readStart x_readAt x_readMany x_piece x_packed x_pairBefore x_pairLast x_tokenLength x_tokenValue x_counts x_lengths x_fixed x_ranked x_weight x_weightBefore x_items x_lengthRow x_step x_stepMore x_codes x_symbolTree x_distanceTree x_smallTree x_readLengths v_sourceFrom v_sourceBits v_room c_source v_readBits v_wrong v_made c_target v_plain v_closed v_rowSize v_pieces v_imageSize v_readSize v_readPieces v_packedBits v_tokens v_steps) → va_S A s.heap H locs → lv_has ls 3 [(0, .ref a_this), (1, .int x1)] → W p l e M_readStored_rm s m args below meth c H locs 0 0 Q (F0 m 32 ls [.ref a_this]) := by
    intro v_readBits v_wrong v_made c_target x1 H locs ls hm hP hD hS hl
    rw [M_readStored_32] at hm
    refine lv_iconst (v := 1) hx hb d_M_readStored_32 (by decide) ?_
    refine lv_goto (tgt := 37) hx hb d_M_readStored_33 (by decide) ?_
    exact h_37 _ _ _ _ _ _ H locs ls hm hP hD hS hl
  refine lv_aload_n hx hb d_M_readStored_0 rfl (lv_at hl 0 rfl) ?_
  obtain ⟨r_10, v_readBits_9, hc1, hm⟩ := mR1_e hm
  refine xmv (wc := (M_toByte_w E a_this x_row x_starts x_image x_readRow x_readStart x_readAt x_readMany x_piece x_packed x_pairBefore x_pairLast x_tokenLength x_tokenValue x_counts x_lengths x_fixed x_ranked x_weight x_weightBefore x_items x_lengthRow x_step x_stepMore x_codes x_symbolTree x_distanceTree x_smallTree x_readLengths (.ref a_source) (.ref a_target) v_readBits v_plain v_closed v_rowSize v_pieces v_imageSize v_readSize v_readPieces v_packedBits v_tokens v_steps v_sourceFrom v_sourceBits v_wrong v_made v_room)) [true, false, false] [0] [0] hP hD hS hA rfl (by decide) (by decide) 1 (by decide) (fun _ => rfl) (fun hPc hDc hFc => va_runV (As := []) (rest := []) ⟨hx, hb, hml, hown, hts⟩ (c_M_toByte l E F H.size a_this x_row x_starts x_image x_readRow x_readStart x_readAt x_readMany x_piece x_packed x_pairBefore x_pairLast x_tokenLength x_tokenValue x_counts x_lengths x_fixed x_ranked x_weight x_weightBefore x_items x_lengthRow x_step x_stepMore x_codes x_symbolTree x_distanceTree x_smallTree x_readLengths (.ref a_source) (.ref a_target) v_readBits v_plain v_closed v_rowSize v_pieces v_imageSize v_readSize v_readPieces v_packedBits v_tokens v_steps v_sourceFrom v_sourceBits v_wrong v_made v_room (r_10, v_readBits_9) hc1) (cwV 0 hts (x_gV tw_1127 tw_1129 tw_59 tw_79 tw_1130) rfl rfl rfl (by decide +kernel) ⟨Nat.le_of_ble_eq_true rfl, Nat.le_of_ble_eq_true rfl⟩) (xPV 12 0 rfl rfl hPc hDc hFc hK hI hN hS) rfl rfl hl.1 rfl (lv_room (Nat.le_of_ble_eq_true rfl)) d_M_readStored_1 ⟨Nat.le_of_ble_eq_true rfl, Nat.le_of_ble_eq_true rfl⟩) (fun u9 H locs hw hP hD hS => ?_)
  have hw2 : v_readBits_9 = u9 := hw.symm
  subst hw2
  replace hP : va_P E.1 vwCl (M_readStored_w E a_this a_source a_target n_source n_target x_row x_starts x_image x_readRow x_readStart x_readAt x_readMany x_piece x_packed x_pairBefore x_pairLast x_tokenLength x_tokenValue x_counts x_lengths x_fixed x_ranked x_weight x_weightBefore x_items x_lengthRow x_step x_stepMore x_codes x_symbolTree x_distanceTree x_smallTree x_readLengths v_sourceFrom v_sourceBits v_room c_source v_readBits_9 v_wrong v_made c_target v_plain v_closed v_rowSize v_pieces v_imageSize v_readSize v_readPieces v_packedBits v_tokens v_steps) H := hP
  replace hD : va_D A (M_readStored_w E a_this a_source a_target n_source n_target x_row x_starts x_image x_readRow x_readStart x_readAt x_readMany x_piece x_packed x_pairBefore x_pairLast x_tokenLength x_tokenValue x_counts x_lengths x_fixed x_ranked x_weight x_weightBefore x_items x_lengthRow x_step x_stepMore x_codes x_symbolTree x_distanceTree x_smallTree x_readLengths v_sourceFrom v_sourceBits v_room c_source v_readBits_9 v_wrong v_made c_target v_plain v_closed v_rowSize v_pieces v_imageSize v_readSize v_readPieces v_packedBits v_tokens v_steps) := hD
  refine lv_aload_n hx hb d_M_readStored_4 rfl (lv_at hl 0 rfl) ?_
  refine lv_bipush (v := 16) hx hb d_M_readStored_5 (by decide) ?_
  obtain ⟨r_13, v_readBits_11, v_wrong_12, hc7, hm⟩ := mR2_e hm
  refine xmi (wc := (M_readNumber_w E a_this a_source n_source x_row x_starts x_image x_readRow x_readStart x_readAt x_readMany x_piece x_packed x_pairBefore x_pairLast x_tokenLength x_tokenValue x_counts x_lengths x_fixed x_ranked x_weight x_weightBefore x_items x_lengthRow x_step x_stepMore x_codes x_symbolTree x_distanceTree x_smallTree x_readLengths (.ref a_target) v_sourceFrom v_sourceBits c_source v_readBits_9 v_wrong v_plain v_closed v_rowSize v_pieces v_imageSize v_readSize v_readPieces v_packedBits v_tokens v_steps v_made v_room)) [true, true, false] [0, 1] [0, 1] hP hD hS hA rfl (by decide) (by decide) 2 (by decide) (fun _ => rfl) (fun hPc hDc hFc => va_runV (As := [.int 16]) (rest := []) ⟨hx, hb, hml, hown, hts⟩ (c_M_readNumber l E F H.size a_this a_source n_source x_row x_starts x_image x_readRow x_readStart x_readAt x_readMany x_piece x_packed x_pairBefore x_pairLast x_tokenLength x_tokenValue x_counts x_lengths x_fixed x_ranked x_weight x_weightBefore x_items x_lengthRow x_step x_stepMore x_codes x_symbolTree x_distanceTree x_smallTree x_readLengths (.ref a_target) v_sourceFrom v_sourceBits c_source v_readBits_9 v_wrong v_plain v_closed v_rowSize v_pieces v_imageSize v_readSize v_readPieces v_packedBits v_tokens v_steps v_made v_room 16 (r_13, v_readBits_11, v_wrong_12) hc7) (cwV 1 hts (x_gV tw_1115 tw_1117 tw_56 tw_79 tw_1118) rfl rfl rfl (by decide +kernel) ⟨Nat.le_of_ble_eq_true rfl, Nat.le_of_ble_eq_true rfl⟩) (xPV 12 0 rfl rfl hPc hDc hFc hK hI hN hS) rfl rfl hl.1 rfl (lv_room (Nat.le_of_ble_eq_true rfl)) d_M_readStored_7 ⟨Nat.le_of_ble_eq_true rfl, Nat.le_of_ble_eq_true rfl⟩) (fun r9 u9 H locs hw hP hD hS => ?_)
  have hw1 : r_13 = r9 := hw.1.symm
  subst hw1
  have hw2 : (v_readBits_11, v_wrong_12) = u9 := hw.2.symm
  subst hw2
  replace hP : va_P E.1 vwCl (M_readStored_w E a_this a_source a_target n_source n_target x_row x_starts x_image x_readRow x_readStart x_readAt x_readMany x_piece x_packed x_pairBefore x_pairLast x_tokenLength x_tokenValue x_counts x_lengths x_fixed x_ranked x_weight x_weightBefore x_items x_lengthRow x_step x_stepMore x_codes x_symbolTree x_distanceTree x_smallTree x_readLengths v_sourceFrom v_sourceBits v_room c_source v_readBits_11 v_wrong_12 v_made c_target v_plain v_closed v_rowSize v_pieces v_imageSize v_readSize v_readPieces v_packedBits v_tokens v_steps) H := hP
  replace hD : va_D A (M_readStored_w E a_this a_source a_target n_source n_target x_row x_starts x_image x_readRow x_readStart x_readAt x_readMany x_piece x_packed x_pairBefore x_pairLast x_tokenLength x_tokenValue x_counts x_lengths x_fixed x_ranked x_weight x_weightBefore x_items x_lengthRow x_step x_stepMore x_codes x_symbolTree x_distanceTree x_smallTree x_readLengths v_sourceFrom v_sourceBits v_room c_source v_readBits_11 v_wrong_12 v_made c_target v_plain v_closed v_rowSize v_pieces v_imageSize v_readSize v_readPieces v_packedBits v_tokens v_steps) := hD
  refine lv_istore_n (lv' := [(1, .int r_13), (0, .ref a_this)]) hx hb d_M_readStored_10 rfl hl (by decide) rfl (fun ls hl => ?_)
  refine lv_aload_n hx hb d_M_readStored_11 rfl (lv_at hl 1 rfl) ?_
  refine lv_aload_n hx hb d_M_readStored_12 rfl (lv_at hl 1 rfl) ?_
  refine lv_bipush (v := 16) hx hb d_M_readStored_13 (by decide) ?_
  obtain ⟨r_16, v_readBits_14, v_wrong_15, hc15, hm⟩ := mR2_e hm
  refine xmi (wc := (M_readNumber_w E a_this a_source n_source x_row x_starts x_image x_readRow x_readStart x_readAt x_readMany x_piece x_packed x_pairBefore x_pairLast x_tokenLength x_tokenValue x_counts x_lengths x_fixed x_ranked x_weight x_weightBefore x_items x_lengthRow x_step x_stepMore x_codes x_symbolTree x_distanceTree x_smallTree x_readLengths (.ref a_target) v_sourceFrom v_sourceBits c_source v_readBits_11 v_wrong_12 v_plain v_closed v_rowSize v_pieces v_imageSize v_readSize v_readPieces v_packedBits v_tokens v_steps v_made v_room)) [true, true, false] [0, 1] [0, 1] hP hD hS hA rfl (by decide) (by decide) 2 (by decide) (fun _ => rfl) (fun hPc hDc hFc => va_runV (As := [.int 16]) (rest := [.ref a_this]) ⟨hx, hb, hml, hown, hts⟩ (c_M_readNumber l E F H.size a_this a_source n_source x_row x_starts x_image x_readRow x_readStart x_readAt x_readMany x_piece x_packed x_pairBefore x_pairLast x_tokenLength x_tokenValue x_counts x_lengths x_fixed x_ranked x_weight x_weightBefore x_items x_lengthRow x_step x_stepMore x_codes x_symbolTree x_distanceTree x_smallTree x_readLengths (.ref a_target) v_sourceFrom v_sourceBits c_source v_readBits_11 v_wrong_12 v_plain v_closed v_rowSize v_pieces v_imageSize v_readSize v_readPieces v_packedBits v_tokens v_steps v_made v_room 16 (r_16, v_readBits_14, v_wrong_15) hc15) (cwV 1 hts (x_gV tw_1115 tw_1117 tw_56 tw_79 tw_1118) rfl rfl rfl (by decide +kernel) ⟨Nat.le_of_ble_eq_true rfl, Nat.le_of_ble_eq_true rfl⟩) (xPV 12 0 rfl rfl hPc hDc hFc hK hI hN hS) rfl rfl hl.1 rfl (lv_room (Nat.le_of_ble_eq_true rfl)) d_M_readStored_15 ⟨Nat.le_of_ble_eq_true rfl, Nat.le_of_ble_eq_true rfl⟩) (fun r9 u9 H locs hw hP hD hS => ?_)
  have hw1 : r_16 = r9 := hw.1.symm
  subst hw1
  have hw2 : (v_readBits_14, v_wrong_15) = u9 := hw.2.symm
  subst hw2
  replace hP : va_P E.1 vwCl (M_readStored_w E a_this a_source a_target n_source n_target x_row x_starts x_image x_readRow x_readStart x_readAt x_readMany x_piece x_packed x_pairBefore x_pairLast x_tokenLength x_tokenValue x_counts x_lengths x_fixed x_ranked x_weight x_weightBefore x_items x_lengthRow x_step x_stepMore x_codes x_symbolTree x_distanceTree x_smallTree x_readLengths v_sourceFrom v_sourceBits v_room c_source v_readBits_14 v_wrong_15 v_made c_target v_plain v_closed v_rowSize v_pieces v_imageSize v_readSize v_readPieces v_packedBits v_tokens v_steps) H := hP
  replace hD : va_D A (M_readStored_w E a_this a_source a_target n_source n_target x_row x_starts x_image x_readRow x_readStart x_readAt x_readMany x_piece x_packed x_pairBefore x_pairLast x_tokenLength x_tokenValue x_counts x_lengths x_fixed x_ranked x_weight x_weightBefore x_items x_lengthRow x_step x_stepMore x_codes x_symbolTree x_distanceTree x_smallTree x_readLengths v_sourceFrom v_sourceBits v_room c_source v_readBits_14 v_wrong_15 v_made c_target v_plain v_closed v_rowSize v_pieces v_imageSize v_readSize v_readPieces v_packedBits v_tokens v_steps) := hD
  refine lv_ldc (v := 65535) hx hb hown (hts _ tw_1039) d_M_readStored_18 ?_
  refine lv_iload_n hx hb d_M_readStored_20 rfl (lv_at hl 0 rfl) ?_
  refine lv_isub hx hb d_M_readStored_21 ?_
  refine lv_icmp_ne (tgt := 32) hx hb d_M_readStored_22 (by decide) (fun c22 => ?_) (fun c22 => ?_)
  · replace hm := mC_f hm c22
    exact h_32 _ _ _ _ _ H locs ls hm hP hD hS (lv_sub hl [1, 0] rfl)
  · replace hm := mC_t hm c22
    refine lv_aload_n hx hb d_M_readStored_25 rfl (lv_at hl 1 rfl) ?_
    refine va_get (D := E.1) (ci := 12) (v := .int v_wrong_15) (C := R_M) (T := F_M) (N := 46) hx hb hts i_M hown hK hP 0 rfl rfl 42 (by decide) (hts _ tw_837) (fun _ h9 => h9) rfl d_M_readStored_26 ?_
    refine lv_if_eq (tgt := 36) hx hb d_M_readStored_29 (by decide) (fun c29 => ?_) (fun c29 => ?_)
    · replace hm := mC_t hm c29
      refine lv_iconst (v := 0) hx hb d_M_readStored_36 (by decide) ?_
      exact h_37 _ _ _ _ _ _ H locs ls hm hP hD hS (lv_sub hl [1, 0] rfl)
    · replace hm := mC_f hm c29
      exact h_32 _ _ _ _ _ H locs ls hm hP hD hS (lv_sub hl [1, 0] rfl)
theorem d_Tree_grow_0 : decode b_Tree_grow 0 = .ok (.iconst 0, 1) := by decide +kernel
theorem d_Tree_grow_1 : decode b_Tree_grow 1 = .ok (.istore 4, 2) := by decide +kernel
theorem d_Tree_grow_3 : decode b_Tree_grow 3 = .ok (.iload_n 2, 1) := by decide +kernel
theorem d_Tree_grow_4 : decode b_Tree_grow 4 = .ok (.iconst 1, 1) := by decide +kernel
theorem d_Tree_grow_5 : decode b_Tree_grow 5 = .ok (.isub, 1) := by decide +kernel
theorem d_Tree_grow_6 : decode b_Tree_grow 6 = .ok (.istore 5, 2) := by decide +kernel
theorem d_Tree_grow_8 : decode b_Tree_grow 8 = .ok (.iload 5, 2) := by decide +kernel
theorem d_Tree_grow_10 : decode b_Tree_grow 10 = .ok (.ifCond .le 88, 3) := by decide +kernel
theorem d_Tree_grow_13 : decode b_Tree_grow 13 = .ok (.iconst 2, 1) := by decide +kernel
theorem d_Tree_grow_14 : decode b_Tree_grow 14 = .ok (.iload 4, 2) := by decide +kernel
theorem d_Tree_grow_16 : decode b_Tree_grow 16 = .ok (.imul, 1) := by decide +kernel
theorem d_Tree_grow_17 : decode b_Tree_grow 17 = .ok (.iload_n 1, 1) := by decide +kernel
theorem d_Tree_grow_18 : decode b_Tree_grow 18 = .ok (.iload 5, 2) := by decide +kernel
theorem d_Tree_grow_20 : decode b_Tree_grow 20 = .ok (.ishr, 1) := by decide +kernel
theorem d_Tree_grow_21 : decode b_Tree_grow 21 = .ok (.iconst 1, 1) := by decide +kernel
theorem d_Tree_grow_22 : decode b_Tree_grow 22 = .ok (.iand, 1) := by decide +kernel
theorem d_Tree_grow_23 : decode b_Tree_grow 23 = .ok (.iadd, 1) := by decide +kernel
theorem d_Tree_grow_24 : decode b_Tree_grow 24 = .ok (.istore 6, 2) := by decide +kernel
theorem d_Tree_grow_26 : decode b_Tree_grow 26 = .ok (.aload_n 0, 1) := by decide +kernel
theorem d_Tree_grow_27 : decode b_Tree_grow 27 = .ok (.getfield 7, 3) := by decide +kernel
theorem d_Tree_grow_30 : decode b_Tree_grow 30 = .ok (.iload 6, 2) := by decide +kernel
theorem d_Tree_grow_32 : decode b_Tree_grow 32 = .ok (.iaload, 1) := by decide +kernel
theorem d_Tree_grow_33 : decode b_Tree_grow 33 = .ok (.ifCond .ne 50, 3) := by decide +kernel
theorem d_Tree_grow_36 : decode b_Tree_grow 36 = .ok (.aload_n 0, 1) := by decide +kernel
theorem d_Tree_grow_37 : decode b_Tree_grow 37 = .ok (.getfield 7, 3) := by decide +kernel
theorem d_Tree_grow_40 : decode b_Tree_grow 40 = .ok (.iload 6, 2) := by decide +kernel
theorem d_Tree_grow_42 : decode b_Tree_grow 42 = .ok (.aload_n 0, 1) := by decide +kernel
theorem d_Tree_grow_43 : decode b_Tree_grow 43 = .ok (.getfield 13, 3) := by decide +kernel
theorem d_Tree_grow_46 : decode b_Tree_grow 46 = .ok (.iastore, 1) := by decide +kernel
theorem d_Tree_grow_47 : decode b_Tree_grow 47 = .ok (.aload_n 0, 1) := by decide +kernel
theorem d_Tree_grow_48 : decode b_Tree_grow 48 = .ok (.getfield 7, 3) := by decide +kernel
theorem d_Tree_grow_51 : decode b_Tree_grow 51 = .ok (.iconst 2, 1) := by decide +kernel
theorem d_Tree_grow_52 : decode b_Tree_grow 52 = .ok (.aload_n 0, 1) := by decide +kernel
theorem d_Tree_grow_53 : decode b_Tree_grow 53 = .ok (.getfield 13, 3) := by decide +kernel
theorem d_Tree_grow_56 : decode b_Tree_grow 56 = .ok (.imul, 1) := by decide +kernel
theorem d_Tree_grow_57 : decode b_Tree_grow 57 = .ok (.iconst 0, 1) := by decide +kernel
theorem d_Tree_grow_58 : decode b_Tree_grow 58 = .ok (.iastore, 1) := by decide +kernel
theorem d_Tree_grow_59 : decode b_Tree_grow 59 = .ok (.aload_n 0, 1) := by decide +kernel
theorem d_Tree_grow_60 : decode b_Tree_grow 60 = .ok (.getfield 7, 3) := by decide +kernel
theorem d_Tree_grow_63 : decode b_Tree_grow 63 = .ok (.iconst 2, 1) := by decide +kernel
theorem d_Tree_grow_64 : decode b_Tree_grow 64 = .ok (.aload_n 0, 1) := by decide +kernel
theorem d_Tree_grow_65 : decode b_Tree_grow 65 = .ok (.getfield 13, 3) := by decide +kernel
theorem d_Tree_grow_68 : decode b_Tree_grow 68 = .ok (.imul, 1) := by decide +kernel
theorem d_Tree_grow_69 : decode b_Tree_grow 69 = .ok (.iconst 1, 1) := by decide +kernel
theorem d_Tree_grow_70 : decode b_Tree_grow 70 = .ok (.iadd, 1) := by decide +kernel
theorem d_Tree_grow_71 : decode b_Tree_grow 71 = .ok (.iconst 0, 1) := by decide +kernel
theorem d_Tree_grow_72 : decode b_Tree_grow 72 = .ok (.iastore, 1) := by decide +kernel
theorem d_Tree_grow_73 : decode b_Tree_grow 73 = .ok (.aload_n 0, 1) := by decide +kernel
theorem d_Tree_grow_74 : decode b_Tree_grow 74 = .ok (.dup, 1) := by decide +kernel
theorem d_Tree_grow_75 : decode b_Tree_grow 75 = .ok (.getfield 13, 3) := by decide +kernel
theorem d_Tree_grow_78 : decode b_Tree_grow 78 = .ok (.iconst 1, 1) := by decide +kernel
theorem d_Tree_grow_79 : decode b_Tree_grow 79 = .ok (.iadd, 1) := by decide +kernel
theorem d_Tree_grow_80 : decode b_Tree_grow 80 = .ok (.putfield 13, 3) := by decide +kernel
theorem d_Tree_grow_83 : decode b_Tree_grow 83 = .ok (.aload_n 0, 1) := by decide +kernel
theorem d_Tree_grow_84 : decode b_Tree_grow 84 = .ok (.getfield 7, 3) := by decide +kernel
theorem d_Tree_grow_87 : decode b_Tree_grow 87 = .ok (.iload 6, 2) := by decide +kernel
theorem d_Tree_grow_89 : decode b_Tree_grow 89 = .ok (.iaload, 1) := by decide +kernel
theorem d_Tree_grow_90 : decode b_Tree_grow 90 = .ok (.istore 4, 2) := by decide +kernel
theorem d_Tree_grow_92 : decode b_Tree_grow 92 = .ok (.iinc 5 (-1), 3) := by decide +kernel
theorem d_Tree_grow_95 : decode b_Tree_grow 95 = .ok (.goto (-87), 3) := by decide +kernel
theorem d_Tree_grow_98 : decode b_Tree_grow 98 = .ok (.aload_n 0, 1) := by decide +kernel
theorem d_Tree_grow_99 : decode b_Tree_grow 99 = .ok (.getfield 7, 3) := by decide +kernel
theorem d_Tree_grow_102 : decode b_Tree_grow 102 = .ok (.iconst 2, 1) := by decide +kernel
theorem d_Tree_grow_103 : decode b_Tree_grow 103 = .ok (.iload 4, 2) := by decide +kernel
theorem d_Tree_grow_105 : decode b_Tree_grow 105 = .ok (.imul, 1) := by decide +kernel
theorem d_Tree_grow_106 : decode b_Tree_grow 106 = .ok (.iload_n 1, 1) := by decide +kernel
theorem d_Tree_grow_107 : decode b_Tree_grow 107 = .ok (.iconst 1, 1) := by decide +kernel
theorem d_Tree_grow_108 : decode b_Tree_grow 108 = .ok (.iand, 1) := by decide +kernel
theorem d_Tree_grow_109 : decode b_Tree_grow 109 = .ok (.iadd, 1) := by decide +kernel
theorem d_Tree_grow_110 : decode b_Tree_grow 110 = .ok (.iconst (-1), 1) := by decide +kernel
theorem d_Tree_grow_111 : decode b_Tree_grow 111 = .ok (.iload_n 3, 1) := by decide +kernel
theorem d_Tree_grow_112 : decode b_Tree_grow 112 = .ok (.isub, 1) := by decide +kernel
theorem d_Tree_grow_113 : decode b_Tree_grow 113 = .ok (.iastore, 1) := by decide +kernel
theorem d_Tree_grow_114 : decode b_Tree_grow 114 = .ok (.return_, 1) := by decide +kernel
def Tree_grow_98 (F : Nat) (x1 : Int32) (x3 : Int32) (v_nodes : Int32) (c_next : Nat → Int32) (x4 : Int32) : Option (Unit × Int32 × (Nat → Int32)) :=
  mL ((-1) - x3) fun v_1 => mL ((2 * x4) + (x1 &&& 1)) fun t_2 => mG t_2 1300 (mL (upd c_next t_2.toNatClampNeg v_1) fun c_3 => some ((), v_nodes, c_3))
def Tree_grow_83 (F : Nat) (k_8 : Int32 → (Nat → Int32) → Int32 → Int32 → Option (Unit × Int32 × (Nat → Int32))) (v_nodes : Int32) (c_next : Nat → Int32) (x5 : Int32) (x6 : Int32) : Option (Unit × Int32 × (Nat → Int32)) :=
  mG x6 1300 (mL (c_next x6.toNatClampNeg) fun y4_4 => mL (x5 + (-1)) fun y5_5 => k_8 v_nodes c_next y4_4 y5_5)
def Tree_grow_8 (F : Nat) (x1 : Int32) (k_98 : Int32 → (Nat → Int32) → Int32 → Option (Unit × Int32 × (Nat → Int32))) (k_8 : Int32 → (Nat → Int32) → Int32 → Int32 → Option (Unit × Int32 × (Nat → Int32))) (v_nodes : Int32) (c_next : Nat → Int32) (x4 : Int32) (x5 : Int32) : Option (Unit × Int32 × (Nat → Int32)) :=
  mC (x5 ≤ 0) (k_98 v_nodes c_next x4) (mL ((2 * x4) + ((x1 >>> (x5 &&& 31)) &&& 1)) fun y6_6 => mG y6_6 1300 (mC ((c_next y6_6.toNatClampNeg) = 0) (mG y6_6 1300 (mL (upd c_next y6_6.toNatClampNeg v_nodes) fun c_7 => mL (2 * v_nodes) fun t_8 => mG t_8 1300 (mL (upd c_7 t_8.toNatClampNeg 0) fun c_9 => mL ((2 * v_nodes) + 1) fun t_10 => mG t_10 1300 (mL (upd c_9 t_10.toNatClampNeg 0) fun c_11 => mL (v_nodes + 1) fun v_12 => (Tree_grow_83 F k_8) v_12 c_11 x5 y6_6)))) ((Tree_grow_83 F k_8) v_nodes c_next x5 y6_6)))
abbrev Tree_grow_w (E : xE) (a_this : Nat) (a_next : Nat) (v_nodes : Int32) (c_next : Nat → Int32) : va_W := [(a_this, .inr (11, [.ref a_next, .int v_nodes])), (a_next, .inl (E.2.1, 1300, .inl c_next))]
def Tree_grow (F : Nat) (v_nodes : Int32) (c_next : Nat → Int32) (x1 : Int32) (x2 : Int32) (x3 : Int32) : Option (Unit × Int32 × (Nat → Int32)) :=
  mL (x2 - 1) fun y5_13 => (mW4 (Tree_grow_8 F x1 (Tree_grow_98 F x1 x3)) F) v_nodes c_next 0 y5_13
abbrev Tree_grow_rm : Room := { frames := 0, cells := 0, slots := 0, locals := 0 }
set_option maxHeartbeats 4000000 in
set_option maxRecDepth 100000 in
theorem c_Tree_grow (l : Launch) (E : xE) (F sz : Nat) (a_this : Nat) (a_next : Nat) (v_nodes : Int32) (c_next : Nat → Int32) (x1 : Int32) (x2 : Int32) (x3 : Int32) (res : Unit × Int32 × (Nat → Int32)) (hm : Tree_grow F v_nodes c_next x1 x2 x3 = some res) : Met l y_Tree_grow (Cond.code y_Tree_grow b_Tree_grow 7 none :: x_tb) Tree_grow_rm (va_Pc [.ref a_this, .int x1, .int x2, .int x3] (xPre E (Tree_grow_w E a_this a_next v_nodes c_next) sz)) (xQv E (fun (u : Int32 × (Nat → Int32)) => u = res.2) (fun (u : Int32 × (Nat → Int32)) => (Tree_grow_w E a_this a_next u.1 u.2)) (va_A (Tree_grow_w E a_this a_next v_nodes c_next) sz)) 0 0 (va_A (Tree_grow_w E a_this a_next v_nodes c_next) sz) := by
  refine xEnV (by decide) (Nat.le_of_ble_eq_true rfl) ?_
  intro p e s m args below meth c A ls Q hx hb hnm hts hown hml hK hA hI hN hret hP hD hS hl
  replace hown : s.vm.findClass R_Tree = some m.cls := hown
  replace hl : lv_has ls 7 [(0, .ref a_this), (1, .int x1), (2, .int x2), (3, .int x3)] := hl
  obtain ⟨H, eH⟩ : ∃ z, z = s.heap := ⟨_, rfl⟩
  obtain ⟨locs, eL⟩ : ∃ z : List Loc, z = [] := ⟨_, rfl⟩
  rw [show W p l e Tree_grow_rm s m args below meth c s.heap [] 0 0 Q (F0 m 0 ls []) = W p l e Tree_grow_rm s m args below meth c H locs 0 0 Q (F0 m 0 ls []) by rw [eH, eL]]
  replace hP : va_P E.1 vwCl (Tree_grow_w E a_this a_next v_nodes c_next) H := by rw [eH]; exact hP
  replace hS : va_S A s.heap H locs := by rw [eH, eL]; exact hS
  clear eH eL
  rw [Tree_grow] at hm
  have h_98 : ∀ (v_nodes : Int32) (c_next : Nat → Int32) (x4 : Int32) (H : Heap) (locs : List Loc) (ls : Array Slot), (Tree_grow_98 F x1 x3) v_nodes c_next x4 = some res → va_P E.1 vwCl (Tree_grow_w E a_this a_next v_nodes c_next) H → va_D A (Tree_grow_w E a_this a_next v_nodes c_next) → va_S A s.heap H locs → lv_has ls 7 [(0, .ref a_this), (1, .int x1), (3, .int x3), (4, .int x4)] → W p l e Tree_grow_rm s m args below meth c H locs 0 0 Q (F0 m 98 ls []) := by
    intro v_nodes c_next x4 H locs ls hm hP hD hS hl
    rw [Tree_grow_98] at hm
    refine lv_aload_n hx hb d_Tree_grow_98 rfl (lv_at hl 0 rfl) ?_
    refine va_get (D := E.1) (ci := 11) (v := .ref a_next) (C := R_Tree) (T := F_Tree) (N := 2) hx hb hts i_Tree hown hK hP 0 rfl rfl 0 (by decide) (hts _ tw_787) (fun _ h9 => h9) rfl d_Tree_grow_99 ?_
    refine lv_iconst (v := 2) hx hb d_Tree_grow_102 (by decide) ?_
    refine lv_iload hx hb d_Tree_grow_103 (lv_at hl 3 rfl) ?_
    refine lv_imul hx hb d_Tree_grow_105 ?_
    refine lv_iload_n hx hb d_Tree_grow_106 rfl (lv_at hl 1 rfl) ?_
    refine lv_iconst (v := 1) hx hb d_Tree_grow_107 (by decide) ?_
    refine lv_iand hx hb d_Tree_grow_108 ?_
    refine lv_iadd hx hb d_Tree_grow_109 ?_
    refine lv_iconst (v := (-1)) hx hb d_Tree_grow_110 (by decide) ?_
    refine lv_iload_n hx hb d_Tree_grow_111 rfl (lv_at hl 2 rfl) ?_
    refine lv_isub hx hb d_Tree_grow_112 ?_
    refine lv_topi (fun v_1 ev_1 => ?_)
    replace hm := mL_e hm v_1 ev_1
    obtain ⟨t_2, et_2⟩ : ∃ z : Int32, z = (2 * x4) + (x1 &&& 1) := ⟨_, rfl⟩
    rw [← et_2]
    replace hm := mL_e hm t_2 et_2
    obtain ⟨hi113, hm⟩ := mG_e hm
    obtain ⟨c_3, ec_3⟩ : ∃ z : Nat → Int32, z = upd c_next t_2.toNatClampNeg v_1 := ⟨_, rfl⟩
    replace hm := mL_e hm c_3 ec_3
    refine va_iast hx hb hK hP hD hS 1 0 rfl rfl hi113 d_Tree_grow_113 (fun H locs hP hD hS => ?_)
    rw [← ec_3] at hP hD
    replace hP : va_P E.1 vwCl (Tree_grow_w E a_this a_next v_nodes c_3) H := hP
    replace hD : va_D A (Tree_grow_w E a_this a_next v_nodes c_3) := hD
    replace hm := Option.some.inj hm
    subst hm
    exact hret d_Tree_grow_114 (u := (v_nodes, c_3)) rfl hP hD hS
  have h_8 : ∀ (n_8 : Nat) (v_nodes : Int32) (c_next : Nat → Int32) (x4 : Int32) (x5 : Int32) (H : Heap) (locs : List Loc) (ls : Array Slot), (mW4 (Tree_grow_8 F x1 (Tree_grow_98 F x1 x3)) n_8) v_nodes c_next x4 x5 = some res → va_P E.1 vwCl (Tree_grow_w E a_this a_next v_nodes c_next) H → va_D A (Tree_grow_w E a_this a_next v_nodes c_next) → va_S A s.heap H locs → lv_has ls 7 [(0, .ref a_this), (1, .int x1), (3, .int x3), (4, .int x4), (5, .int x5)] → W p l e Tree_grow_rm s m args below meth c H locs 0 0 Q (F0 m 8 ls []) := by
    intro n_8
    induction n_8 with
    | zero => exact fun _ _ _ _ _ _ _ hm _ _ _ _ => (mW4_z hm).elim
    | succ n_8 ih_8 =>
      intro v_nodes c_next x4 x5 H locs ls hm hP hD hS hl
      replace hm := mW4_s hm
      rw [Tree_grow_8] at hm
      refine lv_iload hx hb d_Tree_grow_8 (lv_at hl 4 rfl) ?_
      refine lv_if_le (tgt := 98) hx hb d_Tree_grow_10 (by decide) (fun c10 => ?_) (fun c10 => ?_)
      · replace hm := mC_t hm c10
        exact h_98 _ _ _ H locs ls hm hP hD hS (lv_sub hl [0, 1, 2, 3] rfl)
      · replace hm := mC_f hm c10
        have h_83 : ∀ (v_nodes : Int32) (c_next : Nat → Int32) (x5 : Int32) (x6 : Int32) (H : Heap) (locs : List Loc) (ls : Array Slot), (Tree_grow_83 F (mW4 (Tree_grow_8 F x1 (Tree_grow_98 F x1 x3)) n_8)) v_nodes c_next x5 x6 = some res → va_P E.1 vwCl (Tree_grow_w E a_this a_next v_nodes c_next) H → va_D A (Tree_grow_w E a_this a_next v_nodes c_next) → va_S A s.heap H locs → lv_has ls 7 [(0, .ref a_this), (1, .int x1), (3, .int x3), (5, .int x5), (6, .int x6)] → W p l e Tree_grow_rm s m args below meth c H locs 0 0 Q (F0 m 83 ls []) := by
          intro v_nodes c_next x5 x6 H locs ls hm hP hD hS hl
          rw [Tree_grow_83] at hm
          refine lv_aload_n hx hb d_Tree_grow_83 rfl (lv_at hl 0 rfl) ?_
          refine va_get (D := E.1) (ci := 11) (v := .ref a_next) (C := R_Tree) (T := F_Tree) (N := 2) hx hb hts i_Tree hown hK hP 0 rfl rfl 0 (by decide) (hts _ tw_787) (fun _ h9 => h9) rfl d_Tree_grow_84 ?_
          refine lv_iload hx hb d_Tree_grow_87 (lv_at hl 4 rfl) ?_
          obtain ⟨hi89, hm⟩ := mG_e hm
          refine va_iald hx hb hK hP 1 0 rfl rfl hi89 d_Tree_grow_89 ?_
          refine lv_topi (fun y4_4 ey4_4 => ?_)
          replace hm := mL_e hm y4_4 ey4_4
          refine lv_istore (lv' := [(4, .int y4_4), (0, .ref a_this), (1, .int x1), (3, .int x3), (5, .int x5), (6, .int x6)]) hx hb d_Tree_grow_90 hl (by decide) rfl (fun ls hl => ?_)
          obtain ⟨y5_5, ey5_5⟩ : ∃ y : Int32, y = x5 + (-1) := ⟨_, rfl⟩
          replace hm := mL_e hm y5_5 ey5_5
          refine lv_iinc (v := y5_5) (lv' := [(5, .int y5_5), (4, .int y4_4), (0, .ref a_this), (1, .int x1), (3, .int x3), (6, .int x6)]) hx hb d_Tree_grow_92 hl (k := 4) rfl (by rw [ey5_5]; rfl) (by decide) rfl (fun ls hl => ?_)
          refine lv_goto (tgt := 8) hx hb d_Tree_grow_95 (by decide) ?_
          exact ih_8 _ _ _ _ H locs ls hm hP hD hS (lv_sub hl [2, 3, 4, 1, 0] rfl)
        refine lv_iconst (v := 2) hx hb d_Tree_grow_13 (by decide) ?_
        refine lv_iload hx hb d_Tree_grow_14 (lv_at hl 3 rfl) ?_
        refine lv_imul hx hb d_Tree_grow_16 ?_
        refine lv_iload_n hx hb d_Tree_grow_17 rfl (lv_at hl 1 rfl) ?_
        refine lv_iload hx hb d_Tree_grow_18 (lv_at hl 4 rfl) ?_
        refine lv_ishr hx hb d_Tree_grow_20 ?_
        refine lv_iconst (v := 1) hx hb d_Tree_grow_21 (by decide) ?_
        refine lv_iand hx hb d_Tree_grow_22 ?_
        refine lv_iadd hx hb d_Tree_grow_23 ?_
        refine lv_topi (fun y6_6 ey6_6 => ?_)
        replace hm := mL_e hm y6_6 ey6_6
        refine lv_istore (lv' := [(6, .int y6_6), (0, .ref a_this), (1, .int x1), (3, .int x3), (4, .int x4), (5, .int x5)]) hx hb d_Tree_grow_24 hl (by decide) rfl (fun ls hl => ?_)
        refine lv_aload_n hx hb d_Tree_grow_26 rfl (lv_at hl 1 rfl) ?_
        refine va_get (D := E.1) (ci := 11) (v := .ref a_next) (C := R_Tree) (T := F_Tree) (N := 2) hx hb hts i_Tree hown hK hP 0 rfl rfl 0 (by decide) (hts _ tw_787) (fun _ h9 => h9) rfl d_Tree_grow_27 ?_
        refine lv_iload hx hb d_Tree_grow_30 (lv_at hl 0 rfl) ?_
        obtain ⟨hi32, hm⟩ := mG_e hm
        refine va_iald hx hb hK hP 1 0 rfl rfl hi32 d_Tree_grow_32 ?_
        refine lv_if_ne (tgt := 83) hx hb d_Tree_grow_33 (by decide) (fun c33 => ?_) (fun c33 => ?_)
        · replace hm := mC_f hm c33
          exact h_83 _ _ _ _ H locs ls hm hP hD hS (lv_sub hl [1, 2, 3, 5, 0] rfl)
        · replace hm := mC_t hm c33
          refine lv_aload_n hx hb d_Tree_grow_36 rfl (lv_at hl 1 rfl) ?_
          refine va_get (D := E.1) (ci := 11) (v := .ref a_next) (C := R_Tree) (T := F_Tree) (N := 2) hx hb hts i_Tree hown hK hP 0 rfl rfl 0 (by decide) (hts _ tw_787) (fun _ h9 => h9) rfl d_Tree_grow_37 ?_
          refine lv_iload hx hb d_Tree_grow_40 (lv_at hl 0 rfl) ?_
          refine lv_aload_n hx hb d_Tree_grow_42 rfl (lv_at hl 1 rfl) ?_
          refine va_get (D := E.1) (ci := 11) (v := .int v_nodes) (C := R_Tree) (T := F_Tree) (N := 2) hx hb hts i_Tree hown hK hP 0 rfl rfl 1 (by decide) (hts _ tw_789) (fun _ h9 => h9) rfl d_Tree_grow_43 ?_
          obtain ⟨hi46, hm⟩ := mG_e hm
          obtain ⟨c_7, ec_7⟩ : ∃ z : Nat → Int32, z = upd c_next y6_6.toNatClampNeg v_nodes := ⟨_, rfl⟩
          replace hm := mL_e hm c_7 ec_7
          refine va_iast hx hb hK hP hD hS 1 0 rfl rfl hi46 d_Tree_grow_46 (fun H locs hP hD hS => ?_)
          rw [← ec_7] at hP hD
          replace hP : va_P E.1 vwCl (Tree_grow_w E a_this a_next v_nodes c_7) H := hP
          replace hD : va_D A (Tree_grow_w E a_this a_next v_nodes c_7) := hD
          refine lv_aload_n hx hb d_Tree_grow_47 rfl (lv_at hl 1 rfl) ?_
          refine va_get (D := E.1) (ci := 11) (v := .ref a_next) (C := R_Tree) (T := F_Tree) (N := 2) hx hb hts i_Tree hown hK hP 0 rfl rfl 0 (by decide) (hts _ tw_787) (fun _ h9 => h9) rfl d_Tree_grow_48 ?_
          refine lv_iconst (v := 2) hx hb d_Tree_grow_51 (by decide) ?_
          refine lv_aload_n hx hb d_Tree_grow_52 rfl (lv_at hl 1 rfl) ?_
          refine va_get (D := E.1) (ci := 11) (v := .int v_nodes) (C := R_Tree) (T := F_Tree) (N := 2) hx hb hts i_Tree hown hK hP 0 rfl rfl 1 (by decide) (hts _ tw_789) (fun _ h9 => h9) rfl d_Tree_grow_53 ?_
          refine lv_imul hx hb d_Tree_grow_56 ?_
          refine lv_iconst (v := 0) hx hb d_Tree_grow_57 (by decide) ?_
          obtain ⟨t_8, et_8⟩ : ∃ z : Int32, z = 2 * v_nodes := ⟨_, rfl⟩
          rw [← et_8]
          replace hm := mL_e hm t_8 et_8
          obtain ⟨hi58, hm⟩ := mG_e hm
          obtain ⟨c_9, ec_9⟩ : ∃ z : Nat → Int32, z = upd c_7 t_8.toNatClampNeg 0 := ⟨_, rfl⟩
          replace hm := mL_e hm c_9 ec_9
          refine va_iast hx hb hK hP hD hS 1 0 rfl rfl hi58 d_Tree_grow_58 (fun H locs hP hD hS => ?_)
          rw [← ec_9] at hP hD
          replace hP : va_P E.1 vwCl (Tree_grow_w E a_this a_next v_nodes c_9) H := hP
          replace hD : va_D A (Tree_grow_w E a_this a_next v_nodes c_9) := hD
          refine lv_aload_n hx hb d_Tree_grow_59 rfl (lv_at hl 1 rfl) ?_
          refine va_get (D := E.1) (ci := 11) (v := .ref a_next) (C := R_Tree) (T := F_Tree) (N := 2) hx hb hts i_Tree hown hK hP 0 rfl rfl 0 (by decide) (hts _ tw_787) (fun _ h9 => h9) rfl d_Tree_grow_60 ?_
          refine lv_iconst (v := 2) hx hb d_Tree_grow_63 (by decide) ?_
          refine lv_aload_n hx hb d_Tree_grow_64 rfl (lv_at hl 1 rfl) ?_
          refine va_get (D := E.1) (ci := 11) (v := .int v_nodes) (C := R_Tree) (T := F_Tree) (N := 2) hx hb hts i_Tree hown hK hP 0 rfl rfl 1 (by decide) (hts _ tw_789) (fun _ h9 => h9) rfl d_Tree_grow_65 ?_
          refine lv_imul hx hb d_Tree_grow_68 ?_
          refine lv_iconst (v := 1) hx hb d_Tree_grow_69 (by decide) ?_
          refine lv_iadd hx hb d_Tree_grow_70 ?_
          refine lv_iconst (v := 0) hx hb d_Tree_grow_71 (by decide) ?_
          obtain ⟨t_10, et_10⟩ : ∃ z : Int32, z = (2 * v_nodes) + 1 := ⟨_, rfl⟩
          rw [← et_10]
          replace hm := mL_e hm t_10 et_10
          obtain ⟨hi72, hm⟩ := mG_e hm
          obtain ⟨c_11, ec_11⟩ : ∃ z : Nat → Int32, z = upd c_9 t_10.toNatClampNeg 0 := ⟨_, rfl⟩
          replace hm := mL_e hm c_11 ec_11
          refine va_iast hx hb hK hP hD hS 1 0 rfl rfl hi72 d_Tree_grow_72 (fun H locs hP hD hS => ?_)
          rw [← ec_11] at hP hD
          replace hP : va_P E.1 vwCl (Tree_grow_w E a_this a_next v_nodes c_11) H := hP
          replace hD : va_D A (Tree_grow_w E a_this a_next v_nodes c_11) := hD
          refine lv_aload_n hx hb d_Tree_grow_73 rfl (lv_at hl 1 rfl) ?_
          refine lv_dup hx hb d_Tree_grow_74 rfl ?_
          refine va_get (D := E.1) (ci := 11) (v := .int v_nodes) (C := R_Tree) (T := F_Tree) (N := 2) hx hb hts i_Tree hown hK hP 0 rfl rfl 1 (by decide) (hts _ tw_789) (fun _ h9 => h9) rfl d_Tree_grow_75 ?_
          refine lv_iconst (v := 1) hx hb d_Tree_grow_78 (by decide) ?_
          refine lv_iadd hx hb d_Tree_grow_79 ?_
          refine lv_topi (fun v_12 ev_12 => ?_)
          replace hm := mL_e hm v_12 ev_12
          refine va_put (D := E.1) (ci := 11) (v := .int v_12) (ty := .int) (C := R_Tree) (T := F_Tree) (N := 2) hx hb hts i_Tree t_Tree t_Tree_ok n_Tree hown hK hP hD hS 0 rfl rfl 1 (by decide) (hts _ tw_789) (fun _ h9 => h9) rfl (by decide +kernel) rfl rfl (Nat.le_of_ble_eq_true rfl) d_Tree_grow_80 (fun H locs hP hD hS => ?_)
          replace hP : va_P E.1 vwCl (Tree_grow_w E a_this a_next v_12 c_11) H := hP
          replace hD : va_D A (Tree_grow_w E a_this a_next v_12 c_11) := hD
          exact h_83 _ _ _ _ H locs ls hm hP hD hS (lv_sub hl [1, 2, 3, 5, 0] rfl)
  refine lv_iconst (v := 0) hx hb d_Tree_grow_0 (by decide) ?_
  refine lv_istore (lv' := [(4, .int 0), (0, .ref a_this), (1, .int x1), (2, .int x2), (3, .int x3)]) hx hb d_Tree_grow_1 hl (by decide) rfl (fun ls hl => ?_)
  refine lv_iload_n hx hb d_Tree_grow_3 rfl (lv_at hl 3 rfl) ?_
  refine lv_iconst (v := 1) hx hb d_Tree_grow_4 (by decide) ?_
  refine lv_isub hx hb d_Tree_grow_5 ?_
  refine lv_topi (fun y5_13 ey5_13 => ?_)
  replace hm := mL_e hm y5_13 ey5_13
  refine lv_istore (lv' := [(5, .int y5_13), (4, .int 0), (0, .ref a_this), (1, .int x1), (2, .int x2), (3, .int x3)]) hx hb d_Tree_grow_6 hl (by decide) rfl (fun ls hl => ?_)
  exact h_8 F _ _ _ _ H locs ls hm hP hD hS (lv_sub hl [2, 3, 5, 1, 0] rfl)
theorem d_Tree_make_0 : decode b_Tree_make 0 = .ok (.aload_n 0, 1) := by decide +kernel
theorem d_Tree_make_1 : decode b_Tree_make 1 = .ok (.iconst 1, 1) := by decide +kernel
theorem d_Tree_make_2 : decode b_Tree_make 2 = .ok (.putfield 13, 3) := by decide +kernel
theorem d_Tree_make_5 : decode b_Tree_make 5 = .ok (.aload_n 0, 1) := by decide +kernel
theorem d_Tree_make_6 : decode b_Tree_make 6 = .ok (.getfield 7, 3) := by decide +kernel
theorem d_Tree_make_9 : decode b_Tree_make 9 = .ok (.iconst 0, 1) := by decide +kernel
theorem d_Tree_make_10 : decode b_Tree_make 10 = .ok (.iconst 0, 1) := by decide +kernel
theorem d_Tree_make_11 : decode b_Tree_make 11 = .ok (.iastore, 1) := by decide +kernel
theorem d_Tree_make_12 : decode b_Tree_make 12 = .ok (.aload_n 0, 1) := by decide +kernel
theorem d_Tree_make_13 : decode b_Tree_make 13 = .ok (.getfield 7, 3) := by decide +kernel
theorem d_Tree_make_16 : decode b_Tree_make 16 = .ok (.iconst 1, 1) := by decide +kernel
theorem d_Tree_make_17 : decode b_Tree_make 17 = .ok (.iconst 0, 1) := by decide +kernel
theorem d_Tree_make_18 : decode b_Tree_make 18 = .ok (.iastore, 1) := by decide +kernel
theorem d_Tree_make_19 : decode b_Tree_make 19 = .ok (.iconst 0, 1) := by decide +kernel
theorem d_Tree_make_20 : decode b_Tree_make 20 = .ok (.istore 5, 2) := by decide +kernel
theorem d_Tree_make_22 : decode b_Tree_make 22 = .ok (.iconst 0, 1) := by decide +kernel
theorem d_Tree_make_23 : decode b_Tree_make 23 = .ok (.istore 6, 2) := by decide +kernel
theorem d_Tree_make_25 : decode b_Tree_make 25 = .ok (.iconst 0, 1) := by decide +kernel
theorem d_Tree_make_26 : decode b_Tree_make 26 = .ok (.istore 7, 2) := by decide +kernel
theorem d_Tree_make_28 : decode b_Tree_make 28 = .ok (.iload 7, 2) := by decide +kernel
theorem d_Tree_make_30 : decode b_Tree_make 30 = .ok (.iload_n 3, 1) := by decide +kernel
theorem d_Tree_make_31 : decode b_Tree_make 31 = .ok (.if_icmp .ge 55, 3) := by decide +kernel
theorem d_Tree_make_34 : decode b_Tree_make 34 = .ok (.aload_n 1, 1) := by decide +kernel
theorem d_Tree_make_35 : decode b_Tree_make 35 = .ok (.iload_n 2, 1) := by decide +kernel
theorem d_Tree_make_36 : decode b_Tree_make 36 = .ok (.iload 7, 2) := by decide +kernel
theorem d_Tree_make_38 : decode b_Tree_make 38 = .ok (.iadd, 1) := by decide +kernel
theorem d_Tree_make_39 : decode b_Tree_make 39 = .ok (.iaload, 1) := by decide +kernel
theorem d_Tree_make_40 : decode b_Tree_make 40 = .ok (.istore 8, 2) := by decide +kernel
theorem d_Tree_make_42 : decode b_Tree_make 42 = .ok (.iload 8, 2) := by decide +kernel
theorem d_Tree_make_44 : decode b_Tree_make 44 = .ok (.ifCond .le 16, 3) := by decide +kernel
theorem d_Tree_make_47 : decode b_Tree_make 47 = .ok (.iload 5, 2) := by decide +kernel
theorem d_Tree_make_49 : decode b_Tree_make 49 = .ok (.iconst 1, 1) := by decide +kernel
theorem d_Tree_make_50 : decode b_Tree_make 50 = .ok (.bipush 15, 2) := by decide +kernel
theorem d_Tree_make_52 : decode b_Tree_make 52 = .ok (.iload 8, 2) := by decide +kernel
theorem d_Tree_make_54 : decode b_Tree_make 54 = .ok (.isub, 1) := by decide +kernel
theorem d_Tree_make_55 : decode b_Tree_make 55 = .ok (.ishl, 1) := by decide +kernel
theorem d_Tree_make_56 : decode b_Tree_make 56 = .ok (.iadd, 1) := by decide +kernel
theorem d_Tree_make_57 : decode b_Tree_make 57 = .ok (.goto 5, 3) := by decide +kernel
theorem d_Tree_make_60 : decode b_Tree_make 60 = .ok (.iload 5, 2) := by decide +kernel
theorem d_Tree_make_62 : decode b_Tree_make 62 = .ok (.istore 5, 2) := by decide +kernel
theorem d_Tree_make_64 : decode b_Tree_make 64 = .ok (.iload 8, 2) := by decide +kernel
theorem d_Tree_make_66 : decode b_Tree_make 66 = .ok (.ifCond .le 10, 3) := by decide +kernel
theorem d_Tree_make_69 : decode b_Tree_make 69 = .ok (.iload 6, 2) := by decide +kernel
theorem d_Tree_make_71 : decode b_Tree_make 71 = .ok (.iconst 1, 1) := by decide +kernel
theorem d_Tree_make_72 : decode b_Tree_make 72 = .ok (.iadd, 1) := by decide +kernel
theorem d_Tree_make_73 : decode b_Tree_make 73 = .ok (.goto 5, 3) := by decide +kernel
theorem d_Tree_make_76 : decode b_Tree_make 76 = .ok (.iload 6, 2) := by decide +kernel
theorem d_Tree_make_78 : decode b_Tree_make 78 = .ok (.istore 6, 2) := by decide +kernel
theorem d_Tree_make_80 : decode b_Tree_make 80 = .ok (.iinc 7 1, 3) := by decide +kernel
theorem d_Tree_make_83 : decode b_Tree_make 83 = .ok (.goto (-55), 3) := by decide +kernel
theorem d_Tree_make_86 : decode b_Tree_make 86 = .ok (.iload 5, 2) := by decide +kernel
theorem d_Tree_make_88 : decode b_Tree_make 88 = .ok (.ldc 17, 2) := by decide +kernel
theorem d_Tree_make_90 : decode b_Tree_make 90 = .ok (.if_icmp .eq 29, 3) := by decide +kernel
theorem d_Tree_make_93 : decode b_Tree_make 93 = .ok (.iload 6, 2) := by decide +kernel
theorem d_Tree_make_95 : decode b_Tree_make 95 = .ok (.iconst 1, 1) := by decide +kernel
theorem d_Tree_make_96 : decode b_Tree_make 96 = .ok (.if_icmp .ne 11, 3) := by decide +kernel
theorem d_Tree_make_99 : decode b_Tree_make 99 = .ok (.iload 5, 2) := by decide +kernel
theorem d_Tree_make_101 : decode b_Tree_make 101 = .ok (.sipush 16384, 3) := by decide +kernel
theorem d_Tree_make_104 : decode b_Tree_make 104 = .ok (.if_icmp .eq 15, 3) := by decide +kernel
theorem d_Tree_make_107 : decode b_Tree_make 107 = .ok (.iload 6, 2) := by decide +kernel
theorem d_Tree_make_109 : decode b_Tree_make 109 = .ok (.ifCond .ne 8, 3) := by decide +kernel
theorem d_Tree_make_112 : decode b_Tree_make 112 = .ok (.iload 4, 2) := by decide +kernel
theorem d_Tree_make_114 : decode b_Tree_make 114 = .ok (.ifCond .ne 5, 3) := by decide +kernel
theorem d_Tree_make_117 : decode b_Tree_make 117 = .ok (.iconst 0, 1) := by decide +kernel
theorem d_Tree_make_118 : decode b_Tree_make 118 = .ok (.ireturn, 1) := by decide +kernel
theorem d_Tree_make_119 : decode b_Tree_make 119 = .ok (.iconst 0, 1) := by decide +kernel
theorem d_Tree_make_120 : decode b_Tree_make 120 = .ok (.istore 7, 2) := by decide +kernel
theorem d_Tree_make_122 : decode b_Tree_make 122 = .ok (.iconst 1, 1) := by decide +kernel
theorem d_Tree_make_123 : decode b_Tree_make 123 = .ok (.istore 8, 2) := by decide +kernel
theorem d_Tree_make_125 : decode b_Tree_make 125 = .ok (.iload 8, 2) := by decide +kernel
theorem d_Tree_make_127 : decode b_Tree_make 127 = .ok (.bipush 16, 2) := by decide +kernel
theorem d_Tree_make_129 : decode b_Tree_make 129 = .ok (.if_icmp .ge 54, 3) := by decide +kernel
theorem d_Tree_make_132 : decode b_Tree_make 132 = .ok (.iconst 2, 1) := by decide +kernel
theorem d_Tree_make_133 : decode b_Tree_make 133 = .ok (.iload 7, 2) := by decide +kernel
theorem d_Tree_make_135 : decode b_Tree_make 135 = .ok (.imul, 1) := by decide +kernel
theorem d_Tree_make_136 : decode b_Tree_make 136 = .ok (.istore 7, 2) := by decide +kernel
theorem d_Tree_make_138 : decode b_Tree_make 138 = .ok (.iconst 0, 1) := by decide +kernel
theorem d_Tree_make_139 : decode b_Tree_make 139 = .ok (.istore 9, 2) := by decide +kernel
theorem d_Tree_make_141 : decode b_Tree_make 141 = .ok (.iload 9, 2) := by decide +kernel
theorem d_Tree_make_143 : decode b_Tree_make 143 = .ok (.iload_n 3, 1) := by decide +kernel
theorem d_Tree_make_144 : decode b_Tree_make 144 = .ok (.if_icmp .ge 33, 3) := by decide +kernel
theorem d_Tree_make_147 : decode b_Tree_make 147 = .ok (.aload_n 1, 1) := by decide +kernel
theorem d_Tree_make_148 : decode b_Tree_make 148 = .ok (.iload_n 2, 1) := by decide +kernel
theorem d_Tree_make_149 : decode b_Tree_make 149 = .ok (.iload 9, 2) := by decide +kernel
theorem d_Tree_make_151 : decode b_Tree_make 151 = .ok (.iadd, 1) := by decide +kernel
theorem d_Tree_make_152 : decode b_Tree_make 152 = .ok (.iaload, 1) := by decide +kernel
theorem d_Tree_make_153 : decode b_Tree_make 153 = .ok (.iload 8, 2) := by decide +kernel
theorem d_Tree_make_155 : decode b_Tree_make 155 = .ok (.if_icmp .ne 16, 3) := by decide +kernel
theorem d_Tree_make_158 : decode b_Tree_make 158 = .ok (.aload_n 0, 1) := by decide +kernel
theorem d_Tree_make_159 : decode b_Tree_make 159 = .ok (.iload 7, 2) := by decide +kernel
theorem d_Tree_make_161 : decode b_Tree_make 161 = .ok (.iload 8, 2) := by decide +kernel
theorem d_Tree_make_163 : decode b_Tree_make 163 = .ok (.iload 9, 2) := by decide +kernel
theorem d_Tree_make_165 : decode b_Tree_make 165 = .ok (.invokevirtual 18, 3) := by decide +kernel
theorem d_Tree_make_168 : decode b_Tree_make 168 = .ok (.iinc 7 1, 3) := by decide +kernel
theorem d_Tree_make_171 : decode b_Tree_make 171 = .ok (.iinc 9 1, 3) := by decide +kernel
theorem d_Tree_make_174 : decode b_Tree_make 174 = .ok (.goto (-33), 3) := by decide +kernel
theorem d_Tree_make_177 : decode b_Tree_make 177 = .ok (.iinc 8 1, 3) := by decide +kernel
theorem d_Tree_make_180 : decode b_Tree_make 180 = .ok (.goto (-55), 3) := by decide +kernel
theorem d_Tree_make_183 : decode b_Tree_make 183 = .ok (.iconst 1, 1) := by decide +kernel
theorem d_Tree_make_184 : decode b_Tree_make 184 = .ok (.ireturn, 1) := by decide +kernel
def Tree_make_177 (F : Nat) (k_125 : Int32 → (Nat → Int32) → Int32 → Int32 → Option (Int32 × Int32 × (Nat → Int32))) (v_nodes : Int32) (c_next : Nat → Int32) (x7 : Int32) (x8 : Int32) : Option (Int32 × Int32 × (Nat → Int32)) :=
  mL (x8 + 1) fun y8_1 => k_125 v_nodes c_next x7 y8_1
def Tree_make_171 (F : Nat) (k_141 : Int32 → (Nat → Int32) → Int32 → Int32 → Int32 → Option (Int32 × Int32 × (Nat → Int32))) (v_nodes : Int32) (c_next : Nat → Int32) (x7 : Int32) (x8 : Int32) (x9 : Int32) : Option (Int32 × Int32 × (Nat → Int32)) :=
  mL (x9 + 1) fun y9_2 => k_141 v_nodes c_next x7 x8 y9_2
def Tree_make_141 (F : Nat) (n_p1 : Nat) (c_p1 : Nat → Int32) (x2 : Int32) (x3 : Int32) (k_177 : Int32 → (Nat → Int32) → Int32 → Int32 → Option (Int32 × Int32 × (Nat → Int32))) (k_141 : Int32 → (Nat → Int32) → Int32 → Int32 → Int32 → Option (Int32 × Int32 × (Nat → Int32))) (v_nodes : Int32) (c_next : Nat → Int32) (x7 : Int32) (x8 : Int32) (x9 : Int32) : Option (Int32 × Int32 × (Nat → Int32)) :=
  mC (x3 ≤ x9) (k_177 v_nodes c_next x7 x8) (mL (x2 + x9) fun i_3 => mG i_3 n_p1 (mC ((c_p1 i_3.toNatClampNeg) = x8) (mR2 (Tree_grow F v_nodes c_next x7 x8 x9) fun _ v_nodes_4 c_next_5 => mL (x7 + 1) fun y7_7 => (Tree_make_171 F k_141) v_nodes_4 c_next_5 y7_7 x8 x9) ((Tree_make_171 F k_141) v_nodes c_next x7 x8 x9)))
def Tree_make_125 (F : Nat) (n_p1 : Nat) (c_p1 : Nat → Int32) (x2 : Int32) (x3 : Int32) (k_125 : Int32 → (Nat → Int32) → Int32 → Int32 → Option (Int32 × Int32 × (Nat → Int32))) (v_nodes : Int32) (c_next : Nat → Int32) (x7 : Int32) (x8 : Int32) : Option (Int32 × Int32 × (Nat → Int32)) :=
  mC (16 ≤ x8) (some (1, v_nodes, c_next)) (mL (2 * x7) fun y7_8 => (mW5 (Tree_make_141 F n_p1 c_p1 x2 x3 (Tree_make_177 F k_125)) F) v_nodes c_next y7_8 x8 0)
def Tree_make_119 (F : Nat) (n_p1 : Nat) (c_p1 : Nat → Int32) (x2 : Int32) (x3 : Int32) (v_nodes : Int32) (c_next : Nat → Int32) : Option (Int32 × Int32 × (Nat → Int32)) :=
  (mW4 (Tree_make_125 F n_p1 c_p1 x2 x3) F) v_nodes c_next 0 1
def Tree_make_107 (F : Nat) (n_p1 : Nat) (c_p1 : Nat → Int32) (x2 : Int32) (x3 : Int32) (x4 : Int32) (v_nodes : Int32) (c_next : Nat → Int32) (x6 : Int32) : Option (Int32 × Int32 × (Nat → Int32)) :=
  mC (x6 = 0) (mC (x4 = 0) (some (0, v_nodes, c_next)) ((Tree_make_119 F n_p1 c_p1 x2 x3) v_nodes c_next)) (some (0, v_nodes, c_next))
def Tree_make_86 (F : Nat) (n_p1 : Nat) (c_p1 : Nat → Int32) (x2 : Int32) (x3 : Int32) (x4 : Int32) (v_nodes : Int32) (c_next : Nat → Int32) (x5 : Int32) (x6 : Int32) : Option (Int32 × Int32 × (Nat → Int32)) :=
  mC (x5 = 32768) ((Tree_make_119 F n_p1 c_p1 x2 x3) v_nodes c_next) (mC (x6 = 1) (mC (x5 = 16384) ((Tree_make_119 F n_p1 c_p1 x2 x3) v_nodes c_next) ((Tree_make_107 F n_p1 c_p1 x2 x3 x4) v_nodes c_next x6)) ((Tree_make_107 F n_p1 c_p1 x2 x3 x4) v_nodes c_next x6))
def Tree_make_78 (F : Nat) (k_28 : Int32 → (Nat → Int32) → Int32 → Int32 → Int32 → Option (Int32 × Int32 × (Nat → Int32))) (v_nodes : Int32) (c_next : Nat → Int32) (x5 : Int32) (x7 : Int32) (s0 : Int32) : Option (Int32 × Int32 × (Nat → Int32)) :=
  mL (x7 + 1) fun y7_9 => k_28 v_nodes c_next x5 s0 y7_9
def Tree_make_62 (F : Nat) (k_28 : Int32 → (Nat → Int32) → Int32 → Int32 → Int32 → Option (Int32 × Int32 × (Nat → Int32))) (v_nodes : Int32) (c_next : Nat → Int32) (x6 : Int32) (x7 : Int32) (x8 : Int32) (s0 : Int32) : Option (Int32 × Int32 × (Nat → Int32)) :=
  mC (x8 ≤ 0) ((Tree_make_78 F k_28) v_nodes c_next s0 x7 x6) ((Tree_make_78 F k_28) v_nodes c_next s0 x7 (x6 + 1))
def Tree_make_28 (F : Nat) (n_p1 : Nat) (c_p1 : Nat → Int32) (x2 : Int32) (x3 : Int32) (k_86 : Int32 → (Nat → Int32) → Int32 → Int32 → Option (Int32 × Int32 × (Nat → Int32))) (k_28 : Int32 → (Nat → Int32) → Int32 → Int32 → Int32 → Option (Int32 × Int32 × (Nat → Int32))) (v_nodes : Int32) (c_next : Nat → Int32) (x5 : Int32) (x6 : Int32) (x7 : Int32) : Option (Int32 × Int32 × (Nat → Int32)) :=
  mC (x3 ≤ x7) (k_86 v_nodes c_next x5 x6) (mL (x2 + x7) fun i_10 => mG i_10 n_p1 (mL (c_p1 i_10.toNatClampNeg) fun y8_11 => mC (y8_11 ≤ 0) ((Tree_make_62 F k_28) v_nodes c_next x6 x7 y8_11 x5) ((Tree_make_62 F k_28) v_nodes c_next x6 x7 y8_11 (x5 + ((1 : Int32) <<< ((15 - y8_11) &&& 31))))))
abbrev Tree_make_w (E : xE) (a_this : Nat) (a_next : Nat) (a_p1 : Nat) (n_p1 : Nat) (c_p1 : Nat → Int32) (v_nodes : Int32) (c_next : Nat → Int32) : va_W := [(a_this, .inr (11, [.ref a_next, .int v_nodes])), (a_next, .inl (E.2.1, 1300, .inl c_next)), (a_p1, .inl (E.2.1, n_p1, .inl c_p1))]
def Tree_make (F : Nat) (n_p1 : Nat) (c_p1 : Nat → Int32) (v_nodes : Int32) (c_next : Nat → Int32) (x2 : Int32) (x3 : Int32) (x4 : Int32) : Option (Int32 × Int32 × (Nat → Int32)) :=
  mG 0 1300 (mL (upd c_next (0 : Int32).toNatClampNeg 0) fun c_12 => mG 1 1300 (mL (upd c_12 (1 : Int32).toNatClampNeg 0) fun c_13 => (mW5 (Tree_make_28 F n_p1 c_p1 x2 x3 (Tree_make_86 F n_p1 c_p1 x2 x3 x4)) F) 1 c_13 0 0 0))
abbrev Tree_make_rm : Room := { frames := 1, cells := 0, slots := 0, locals := 26 }
set_option maxHeartbeats 4000000 in
set_option maxRecDepth 100000 in
theorem c_Tree_make (l : Launch) (E : xE) (F sz : Nat) (a_this : Nat) (a_next : Nat) (a_p1 : Nat) (n_p1 : Nat) (c_p1 : Nat → Int32) (v_nodes : Int32) (c_next : Nat → Int32) (x2 : Int32) (x3 : Int32) (x4 : Int32) (res : Int32 × Int32 × (Nat → Int32)) (hm : Tree_make F n_p1 c_p1 v_nodes c_next x2 x3 x4 = some res) : Met l y_Tree_make (Cond.code y_Tree_make b_Tree_make 10 (some .boolean) :: x_tb) Tree_make_rm (va_Pc [.ref a_this, .ref a_p1, .int x2, .int x3, .int x4] (xPre E (Tree_make_w E a_this a_next a_p1 n_p1 c_p1 v_nodes c_next) sz)) (xQi E (fun (r : Int32) (u : Int32 × (Nat → Int32)) => r = res.1 ∧ u = res.2) (fun (u : Int32 × (Nat → Int32)) => (Tree_make_w E a_this a_next a_p1 n_p1 c_p1 u.1 u.2)) (va_A (Tree_make_w E a_this a_next a_p1 n_p1 c_p1 v_nodes c_next) sz)) 0 0 (va_A (Tree_make_w E a_this a_next a_p1 n_p1 c_p1 v_nodes c_next) sz) := by
  refine xEnZ (by decide) (Nat.le_of_ble_eq_true rfl) ?_
  intro p e s m args below meth c A ls Q hx hb hnm hts hown hml hK hA hI hN hret hP hD hS hl
  replace hown : s.vm.findClass R_Tree = some m.cls := hown
  replace hl : lv_has ls 10 [(0, .ref a_this), (1, .ref a_p1), (2, .int x2), (3, .int x3), (4, .int x4)] := hl
  obtain ⟨H, eH⟩ : ∃ z, z = s.heap := ⟨_, rfl⟩
  obtain ⟨locs, eL⟩ : ∃ z : List Loc, z = [] := ⟨_, rfl⟩
  rw [show W p l e Tree_make_rm s m args below meth c s.heap [] 0 0 Q (F0 m 0 ls []) = W p l e Tree_make_rm s m args below meth c H locs 0 0 Q (F0 m 0 ls []) by rw [eH, eL]]
  replace hP : va_P E.1 vwCl (Tree_make_w E a_this a_next a_p1 n_p1 c_p1 v_nodes c_next) H := by rw [eH]; exact hP
  replace hS : va_S A s.heap H locs := by rw [eH, eL]; exact hS
  clear eH eL
  rw [Tree_make] at hm
  have h_86 : ∀ (v_nodes : Int32) (c_next : Nat → Int32) (x5 : Int32) (x6 : Int32) (H : Heap) (locs : List Loc) (ls : Array Slot), (Tree_make_86 F n_p1 c_p1 x2 x3 x4) v_nodes c_next x5 x6 = some res → va_P E.1 vwCl (Tree_make_w E a_this a_next a_p1 n_p1 c_p1 v_nodes c_next) H → va_D A (Tree_make_w E a_this a_next a_p1 n_p1 c_p1 v_nodes c_next) → va_S A s.heap H locs → lv_has ls 10 [(0, .ref a_this), (1, .ref a_p1), (2, .int x2), (3, .int x3), (4, .int x4), (5, .int x5), (6, .int x6)] → W p l e Tree_make_rm s m args below meth c H locs 0 0 Q (F0 m 86 ls []) := by
    intro v_nodes c_next x5 x6 H locs ls hm hP hD hS hl
    rw [Tree_make_86] at hm
    have h_119 : ∀ (v_nodes : Int32) (c_next : Nat → Int32) (H : Heap) (locs : List Loc) (ls : Array Slot), (Tree_make_119 F n_p1 c_p1 x2 x3) v_nodes c_next = some res → va_P E.1 vwCl (Tree_make_w E a_this a_next a_p1 n_p1 c_p1 v_nodes c_next) H → va_D A (Tree_make_w E a_this a_next a_p1 n_p1 c_p1 v_nodes c_next) → va_S A s.heap H locs → lv_has ls 10 [(0, .ref a_this), (1, .ref a_p1), (2, .int x2), (3, .int x3)] → W p l e Tree_make_rm s m args below meth c H locs 0 0 Q (F0 m 119 ls []) := by
      intro v_nodes c_next H locs ls hm hP hD hS hl
      rw [Tree_make_119] at hm
      have h_125 : ∀ (n_125 : Nat) (v_nodes : Int32) (c_next : Nat → Int32) (x7 : Int32) (x8 : Int32) (H : Heap) (locs : List Loc) (ls : Array Slot), (mW4 (Tree_make_125 F n_p1 c_p1 x2 x3) n_125) v_nodes c_next x7 x8 = some res → va_P E.1 vwCl (Tree_make_w E a_this a_next a_p1 n_p1 c_p1 v_nodes c_next) H → va_D A (Tree_make_w E a_this a_next a_p1 n_p1 c_p1 v_nodes c_next) → va_S A s.heap H locs → lv_has ls 10 [(0, .ref a_this), (1, .ref a_p1), (2, .int x2), (3, .int x3), (7, .int x7), (8, .int x8)] → W p l e Tree_make_rm s m args below meth c H locs 0 0 Q (F0 m 125 ls []) := by
        intro n_125
        induction n_125 with
        | zero => exact fun _ _ _ _ _ _ _ hm _ _ _ _ => (mW4_z hm).elim
        | succ n_125 ih_125 =>
          intro v_nodes c_next x7 x8 H locs ls hm hP hD hS hl
          replace hm := mW4_s hm
          rw [Tree_make_125] at hm
          refine lv_iload hx hb d_Tree_make_125 (lv_at hl 5 rfl) ?_
          refine lv_bipush (v := 16) hx hb d_Tree_make_127 (by decide) ?_
          refine lv_icmp_ge (tgt := 183) hx hb d_Tree_make_129 (by decide) (fun c129 => ?_) (fun c129 => ?_)
          · replace hm := mC_t hm c129
            refine lv_iconst (v := 1) hx hb d_Tree_make_183 (by decide) ?_
            replace hm := Option.some.inj hm
            subst hm
            exact hret d_Tree_make_184 (by decide) (u := (v_nodes, c_next)) ⟨rfl, rfl⟩ hP hD hS
          · replace hm := mC_f hm c129
            have h_177 : ∀ (v_nodes : Int32) (c_next : Nat → Int32) (x7 : Int32) (x8 : Int32) (H : Heap) (locs : List Loc) (ls : Array Slot), (Tree_make_177 F (mW4 (Tree_make_125 F n_p1 c_p1 x2 x3) n_125)) v_nodes c_next x7 x8 = some res → va_P E.1 vwCl (Tree_make_w E a_this a_next a_p1 n_p1 c_p1 v_nodes c_next) H → va_D A (Tree_make_w E a_this a_next a_p1 n_p1 c_p1 v_nodes c_next) → va_S A s.heap H locs → lv_has ls 10 [(0, .ref a_this), (1, .ref a_p1), (2, .int x2), (3, .int x3), (7, .int x7), (8, .int x8)] → W p l e Tree_make_rm s m args below meth c H locs 0 0 Q (F0 m 177 ls []) := by
              intro v_nodes c_next x7 x8 H locs ls hm hP hD hS hl
              rw [Tree_make_177] at hm
              obtain ⟨y8_1, ey8_1⟩ : ∃ y : Int32, y = x8 + 1 := ⟨_, rfl⟩
              replace hm := mL_e hm y8_1 ey8_1
              refine lv_iinc (v := y8_1) (lv' := [(8, .int y8_1), (0, .ref a_this), (1, .ref a_p1), (2, .int x2), (3, .int x3), (7, .int x7)]) hx hb d_Tree_make_177 hl (k := 5) rfl (by rw [ey8_1]; rfl) (by decide) rfl (fun ls hl => ?_)
              refine lv_goto (tgt := 125) hx hb d_Tree_make_180 (by decide) ?_
              exact ih_125 _ _ _ _ H locs ls hm hP hD hS (lv_sub hl [1, 2, 3, 4, 5, 0] rfl)
            have h_141 : ∀ (n_141 : Nat) (v_nodes : Int32) (c_next : Nat → Int32) (x7 : Int32) (x8 : Int32) (x9 : Int32) (H : Heap) (locs : List Loc) (ls : Array Slot), (mW5 (Tree_make_141 F n_p1 c_p1 x2 x3 (Tree_make_177 F (mW4 (Tree_make_125 F n_p1 c_p1 x2 x3) n_125))) n_141) v_nodes c_next x7 x8 x9 = some res → va_P E.1 vwCl (Tree_make_w E a_this a_next a_p1 n_p1 c_p1 v_nodes c_next) H → va_D A (Tree_make_w E a_this a_next a_p1 n_p1 c_p1 v_nodes c_next) → va_S A s.heap H locs → lv_has ls 10 [(0, .ref a_this), (1, .ref a_p1), (2, .int x2), (3, .int x3), (7, .int x7), (8, .int x8), (9, .int x9)] → W p l e Tree_make_rm s m args below meth c H locs 0 0 Q (F0 m 141 ls []) := by
              intro n_141
              induction n_141 with
              | zero => exact fun _ _ _ _ _ _ _ _ hm _ _ _ _ => (mW5_z hm).elim
              | succ n_141 ih_141 =>
                intro v_nodes c_next x7 x8 x9 H locs ls hm hP hD hS hl
                replace hm := mW5_s hm
                rw [Tree_make_141] at hm
                refine lv_iload hx hb d_Tree_make_141 (lv_at hl 6 rfl) ?_
                refine lv_iload_n hx hb d_Tree_make_143 rfl (lv_at hl 3 rfl) ?_
                refine lv_icmp_ge (tgt := 177) hx hb d_Tree_make_144 (by decide) (fun c144 => ?_) (fun c144 => ?_)
                · replace hm := mC_t hm c144
                  exact h_177 _ _ _ _ H locs ls hm hP hD hS (lv_sub hl [0, 1, 2, 3, 4, 5] rfl)
                · replace hm := mC_f hm c144
                  have h_171 : ∀ (v_nodes : Int32) (c_next : Nat → Int32) (x7 : Int32) (x8 : Int32) (x9 : Int32) (H : Heap) (locs : List Loc) (ls : Array Slot), (Tree_make_171 F (mW5 (Tree_make_141 F n_p1 c_p1 x2 x3 (Tree_make_177 F (mW4 (Tree_make_125 F n_p1 c_p1 x2 x3) n_125))) n_141)) v_nodes c_next x7 x8 x9 = some res → va_P E.1 vwCl (Tree_make_w E a_this a_next a_p1 n_p1 c_p1 v_nodes c_next) H → va_D A (Tree_make_w E a_this a_next a_p1 n_p1 c_p1 v_nodes c_next) → va_S A s.heap H locs → lv_has ls 10 [(0, .ref a_this), (1, .ref a_p1), (2, .int x2), (3, .int x3), (7, .int x7), (8, .int x8), (9, .int x9)] → W p l e Tree_make_rm s m args below meth c H locs 0 0 Q (F0 m 171 ls []) := by
                    intro v_nodes c_next x7 x8 x9 H locs ls hm hP hD hS hl
                    rw [Tree_make_171] at hm
                    obtain ⟨y9_2, ey9_2⟩ : ∃ y : Int32, y = x9 + 1 := ⟨_, rfl⟩
                    replace hm := mL_e hm y9_2 ey9_2
                    refine lv_iinc (v := y9_2) (lv' := [(9, .int y9_2), (0, .ref a_this), (1, .ref a_p1), (2, .int x2), (3, .int x3), (7, .int x7), (8, .int x8)]) hx hb d_Tree_make_171 hl (k := 6) rfl (by rw [ey9_2]; rfl) (by decide) rfl (fun ls hl => ?_)
                    refine lv_goto (tgt := 141) hx hb d_Tree_make_174 (by decide) ?_
                    exact ih_141 _ _ _ _ _ H locs ls hm hP hD hS (lv_sub hl [1, 2, 3, 4, 5, 6, 0] rfl)
                  refine lv_aload_n hx hb d_Tree_make_147 rfl (lv_at hl 1 rfl) ?_
                  refine lv_iload_n hx hb d_Tree_make_148 rfl (lv_at hl 2 rfl) ?_
                  refine lv_iload hx hb d_Tree_make_149 (lv_at hl 6 rfl) ?_
                  refine lv_iadd hx hb d_Tree_make_151 ?_
                  refine lv_topi (fun i_3 ei_3 => ?_)
                  replace hm := mL_e hm i_3 ei_3
                  obtain ⟨hi152, hm⟩ := mG_e hm
                  refine va_iald hx hb hK hP 2 0 rfl rfl hi152 d_Tree_make_152 ?_
                  refine lv_iload hx hb d_Tree_make_153 (lv_at hl 5 rfl) ?_
                  refine lv_icmp_ne (tgt := 171) hx hb d_Tree_make_155 (by decide) (fun c155 => ?_) (fun c155 => ?_)
                  · replace hm := mC_f hm c155
                    exact h_171 _ _ _ _ _ H locs ls hm hP hD hS hl
                  · replace hm := mC_t hm c155
                    refine lv_aload_n hx hb d_Tree_make_158 rfl (lv_at hl 0 rfl) ?_
                    refine lv_iload hx hb d_Tree_make_159 (lv_at hl 4 rfl) ?_
                    refine lv_iload hx hb d_Tree_make_161 (lv_at hl 5 rfl) ?_
                    refine lv_iload hx hb d_Tree_make_163 (lv_at hl 6 rfl) ?_
                    obtain ⟨r_6, v_nodes_4, c_next_5, hc165, hm⟩ := mR2_e hm
                    refine xmv (wc := (Tree_grow_w E a_this a_next v_nodes c_next)) [true, true, false] [0, 1] [0, 1] hP hD hS hA rfl (by decide) (by decide) 2 (by decide) (fun _ => rfl) (fun hPc hDc hFc => va_runV (As := [.int x7, .int x8, .int x9]) (rest := []) ⟨hx, hb, hml, hown, hts⟩ (c_Tree_grow l E F H.size a_this a_next v_nodes c_next x7 x8 x9 (r_6, v_nodes_4, c_next_5) hc165) (cwV 3 hts (x_gV tw_1140 tw_1142 tw_61 tw_80 tw_1143) rfl rfl rfl (by decide +kernel) ⟨Nat.le_of_ble_eq_true rfl, Nat.le_of_ble_eq_true rfl⟩) (xPV 11 0 rfl rfl hPc hDc hFc hK hI hN hS) rfl rfl hl.1 rfl (lv_room (Nat.le_of_ble_eq_true rfl)) d_Tree_make_165 ⟨Nat.le_of_ble_eq_true rfl, Nat.le_of_ble_eq_true rfl⟩) (fun u9 H locs hw hP hD hS => ?_)
                    have hw2 : (v_nodes_4, c_next_5) = u9 := hw.symm
                    subst hw2
                    replace hP : va_P E.1 vwCl (Tree_make_w E a_this a_next a_p1 n_p1 c_p1 v_nodes_4 c_next_5) H := hP
                    replace hD : va_D A (Tree_make_w E a_this a_next a_p1 n_p1 c_p1 v_nodes_4 c_next_5) := hD
                    obtain ⟨y7_7, ey7_7⟩ : ∃ y : Int32, y = x7 + 1 := ⟨_, rfl⟩
                    replace hm := mL_e hm y7_7 ey7_7
                    refine lv_iinc (v := y7_7) (lv' := [(7, .int y7_7), (0, .ref a_this), (1, .ref a_p1), (2, .int x2), (3, .int x3), (8, .int x8), (9, .int x9)]) hx hb d_Tree_make_168 hl (k := 4) rfl (by rw [ey7_7]; rfl) (by decide) rfl (fun ls hl => ?_)
                    exact h_171 _ _ _ _ _ H locs ls hm hP hD hS (lv_sub hl [1, 2, 3, 4, 0, 5, 6] rfl)
            refine lv_iconst (v := 2) hx hb d_Tree_make_132 (by decide) ?_
            refine lv_iload hx hb d_Tree_make_133 (lv_at hl 4 rfl) ?_
            refine lv_imul hx hb d_Tree_make_135 ?_
            refine lv_topi (fun y7_8 ey7_8 => ?_)
            replace hm := mL_e hm y7_8 ey7_8
            refine lv_istore (lv' := [(7, .int y7_8), (0, .ref a_this), (1, .ref a_p1), (2, .int x2), (3, .int x3), (8, .int x8)]) hx hb d_Tree_make_136 hl (by decide) rfl (fun ls hl => ?_)
            refine lv_iconst (v := 0) hx hb d_Tree_make_138 (by decide) ?_
            refine lv_istore (lv' := [(9, .int 0), (7, .int y7_8), (0, .ref a_this), (1, .ref a_p1), (2, .int x2), (3, .int x3), (8, .int x8)]) hx hb d_Tree_make_139 hl (by decide) rfl (fun ls hl => ?_)
            exact h_141 F _ _ _ _ _ H locs ls hm hP hD hS (lv_sub hl [2, 3, 4, 5, 1, 6, 0] rfl)
      refine lv_iconst (v := 0) hx hb d_Tree_make_119 (by decide) ?_
      refine lv_istore (lv' := [(7, .int 0), (0, .ref a_this), (1, .ref a_p1), (2, .int x2), (3, .int x3)]) hx hb d_Tree_make_120 hl (by decide) rfl (fun ls hl => ?_)
      refine lv_iconst (v := 1) hx hb d_Tree_make_122 (by decide) ?_
      refine lv_istore (lv' := [(8, .int 1), (7, .int 0), (0, .ref a_this), (1, .ref a_p1), (2, .int x2), (3, .int x3)]) hx hb d_Tree_make_123 hl (by decide) rfl (fun ls hl => ?_)
      exact h_125 F _ _ _ _ H locs ls hm hP hD hS (lv_sub hl [2, 3, 4, 5, 1, 0] rfl)
    refine lv_iload hx hb d_Tree_make_86 (lv_at hl 5 rfl) ?_
    refine lv_ldc (v := 32768) hx hb hown (hts _ tw_1139) d_Tree_make_88 ?_
    refine lv_icmp_eq (tgt := 119) hx hb d_Tree_make_90 (by decide) (fun c90 => ?_) (fun c90 => ?_)
    · replace hm := mC_t hm c90
      exact h_119 _ _ H locs ls hm hP hD hS (lv_sub hl [0, 1, 2, 3] rfl)
    · replace hm := mC_f hm c90
      have h_107 : ∀ (v_nodes : Int32) (c_next : Nat → Int32) (x6 : Int32) (H : Heap) (locs : List Loc) (ls : Array Slot), (Tree_make_107 F n_p1 c_p1 x2 x3 x4) v_nodes c_next x6 = some res → va_P E.1 vwCl (Tree_make_w E a_this a_next a_p1 n_p1 c_p1 v_nodes c_next) H → va_D A (Tree_make_w E a_this a_next a_p1 n_p1 c_p1 v_nodes c_next) → va_S A s.heap H locs → lv_has ls 10 [(0, .ref a_this), (1, .ref a_p1), (2, .int x2), (3, .int x3), (4, .int x4), (6, .int x6)] → W p l e Tree_make_rm s m args below meth c H locs 0 0 Q (F0 m 107 ls []) := by
        intro v_nodes c_next x6 H locs ls hm hP hD hS hl
        rw [Tree_make_107] at hm
        refine lv_iload hx hb d_Tree_make_107 (lv_at hl 5 rfl) ?_
        refine lv_if_ne (tgt := 117) hx hb d_Tree_make_109 (by decide) (fun c109 => ?_) (fun c109 => ?_)
        · replace hm := mC_f hm c109
          refine lv_iconst (v := 0) hx hb d_Tree_make_117 (by decide) ?_
          replace hm := Option.some.inj hm
          subst hm
          exact hret d_Tree_make_118 (by decide) (u := (v_nodes, c_next)) ⟨rfl, rfl⟩ hP hD hS
        · replace hm := mC_t hm c109
          refine lv_iload hx hb d_Tree_make_112 (lv_at hl 4 rfl) ?_
          refine lv_if_ne (tgt := 119) hx hb d_Tree_make_114 (by decide) (fun c114 => ?_) (fun c114 => ?_)
          · replace hm := mC_f hm c114
            exact h_119 _ _ H locs ls hm hP hD hS (lv_sub hl [0, 1, 2, 3] rfl)
          · replace hm := mC_t hm c114
            refine lv_iconst (v := 0) hx hb d_Tree_make_117 (by decide) ?_
            replace hm := Option.some.inj hm
            subst hm
            exact hret d_Tree_make_118 (by decide) (u := (v_nodes, c_next)) ⟨rfl, rfl⟩ hP hD hS
      refine lv_iload hx hb d_Tree_make_93 (lv_at hl 6 rfl) ?_
      refine lv_iconst (v := 1) hx hb d_Tree_make_95 (by decide) ?_
      refine lv_icmp_ne (tgt := 107) hx hb d_Tree_make_96 (by decide) (fun c96 => ?_) (fun c96 => ?_)
      · replace hm := mC_f hm c96
        exact h_107 _ _ _ H locs ls hm hP hD hS (lv_sub hl [0, 1, 2, 3, 4, 6] rfl)
      · replace hm := mC_t hm c96
        refine lv_iload hx hb d_Tree_make_99 (lv_at hl 5 rfl) ?_
        refine lv_sipush (v := 16384) hx hb d_Tree_make_101 (by decide) ?_
        refine lv_icmp_eq (tgt := 119) hx hb d_Tree_make_104 (by decide) (fun c104 => ?_) (fun c104 => ?_)
        · replace hm := mC_t hm c104
          exact h_119 _ _ H locs ls hm hP hD hS (lv_sub hl [0, 1, 2, 3] rfl)
        · replace hm := mC_f hm c104
          exact h_107 _ _ _ H locs ls hm hP hD hS (lv_sub hl [0, 1, 2, 3, 4, 6] rfl)
  have h_28 : ∀ (n_28 : Nat) (v_nodes : Int32) (c_next : Nat → Int32) (x5 : Int32) (x6 : Int32) (x7 : Int32) (H : Heap) (locs : List Loc) (ls : Array Slot), (mW5 (Tree_make_28 F n_p1 c_p1 x2 x3 (Tree_make_86 F n_p1 c_p1 x2 x3 x4)) n_28) v_nodes c_next x5 x6 x7 = some res → va_P E.1 vwCl (Tree_make_w E a_this a_next a_p1 n_p1 c_p1 v_nodes c_next) H → va_D A (Tree_make_w E a_this a_next a_p1 n_p1 c_p1 v_nodes c_next) → va_S A s.heap H locs → lv_has ls 10 [(0, .ref a_this), (1, .ref a_p1), (2, .int x2), (3, .int x3), (4, .int x4), (5, .int x5), (6, .int x6), (7, .int x7)] → W p l e Tree_make_rm s m args below meth c H locs 0 0 Q (F0 m 28 ls []) := by
    intro n_28
    induction n_28 with
    | zero => exact fun _ _ _ _ _ _ _ _ hm _ _ _ _ => (mW5_z hm).elim
    | succ n_28 ih_28 =>
      intro v_nodes c_next x5 x6 x7 H locs ls hm hP hD hS hl
      replace hm := mW5_s hm
      rw [Tree_make_28] at hm
      refine lv_iload hx hb d_Tree_make_28 (lv_at hl 7 rfl) ?_
      refine lv_iload_n hx hb d_Tree_make_30 rfl (lv_at hl 3 rfl) ?_
      refine lv_icmp_ge (tgt := 86) hx hb d_Tree_make_31 (by decide) (fun c31 => ?_) (fun c31 => ?_)
      · replace hm := mC_t hm c31
        exact h_86 _ _ _ _ H locs ls hm hP hD hS (lv_sub hl [0, 1, 2, 3, 4, 5, 6] rfl)
      · replace hm := mC_f hm c31
        have h_62 : ∀ (v_nodes : Int32) (c_next : Nat → Int32) (x6 : Int32) (x7 : Int32) (x8 : Int32) (s0 : Int32) (H : Heap) (locs : List Loc) (ls : Array Slot), (Tree_make_62 F (mW5 (Tree_make_28 F n_p1 c_p1 x2 x3 (Tree_make_86 F n_p1 c_p1 x2 x3 x4)) n_28)) v_nodes c_next x6 x7 x8 s0 = some res → va_P E.1 vwCl (Tree_make_w E a_this a_next a_p1 n_p1 c_p1 v_nodes c_next) H → va_D A (Tree_make_w E a_this a_next a_p1 n_p1 c_p1 v_nodes c_next) → va_S A s.heap H locs → lv_has ls 10 [(0, .ref a_this), (1, .ref a_p1), (2, .int x2), (3, .int x3), (4, .int x4), (6, .int x6), (7, .int x7), (8, .int x8)] → W p l e Tree_make_rm s m args below meth c H locs 0 0 Q (F0 m 62 ls [.int s0]) := by
          intro v_nodes c_next x6 x7 x8 s0 H locs ls hm hP hD hS hl
          rw [Tree_make_62] at hm
          have h_78 : ∀ (v_nodes : Int32) (c_next : Nat → Int32) (x5 : Int32) (x7 : Int32) (s0 : Int32) (H : Heap) (locs : List Loc) (ls : Array Slot), (Tree_make_78 F (mW5 (Tree_make_28 F n_p1 c_p1 x2 x3 (Tree_make_86 F n_p1 c_p1 x2 x3 x4)) n_28)) v_nodes c_next x5 x7 s0 = some res → va_P E.1 vwCl (Tree_make_w E a_this a_next a_p1 n_p1 c_p1 v_nodes c_next) H → va_D A (Tree_make_w E a_this a_next a_p1 n_p1 c_p1 v_nodes c_next) → va_S A s.heap H locs → lv_has ls 10 [(0, .ref a_this), (1, .ref a_p1), (2, .int x2), (3, .int x3), (4, .int x4), (5, .int x5), (7, .int x7)] → W p l e Tree_make_rm s m args below meth c H locs 0 0 Q (F0 m 78 ls [.int s0]) := by
            intro v_nodes c_next x5 x7 s0 H locs ls hm hP hD hS hl
            rw [Tree_make_78] at hm
            refine lv_istore (lv' := [(6, .int s0), (0, .ref a_this), (1, .ref a_p1), (2, .int x2), (3, .int x3), (4, .int x4), (5, .int x5), (7, .int x7)]) hx hb d_Tree_make_78 hl (by decide) rfl (fun ls hl => ?_)
            obtain ⟨y7_9, ey7_9⟩ : ∃ y : Int32, y = x7 + 1 := ⟨_, rfl⟩
            replace hm := mL_e hm y7_9 ey7_9
            refine lv_iinc (v := y7_9) (lv' := [(7, .int y7_9), (6, .int s0), (0, .ref a_this), (1, .ref a_p1), (2, .int x2), (3, .int x3), (4, .int x4), (5, .int x5)]) hx hb d_Tree_make_80 hl (k := 7) rfl (by rw [ey7_9]; rfl) (by decide) rfl (fun ls hl => ?_)
            refine lv_goto (tgt := 28) hx hb d_Tree_make_83 (by decide) ?_
            exact ih_28 _ _ _ _ _ H locs ls hm hP hD hS (lv_sub hl [2, 3, 4, 5, 6, 7, 1, 0] rfl)
          refine lv_istore (lv' := [(5, .int s0), (0, .ref a_this), (1, .ref a_p1), (2, .int x2), (3, .int x3), (4, .int x4), (6, .int x6), (7, .int x7), (8, .int x8)]) hx hb d_Tree_make_62 hl (by decide) rfl (fun ls hl => ?_)
          refine lv_iload hx hb d_Tree_make_64 (lv_at hl 8 rfl) ?_
          refine lv_if_le (tgt := 76) hx hb d_Tree_make_66 (by decide) (fun c66 => ?_) (fun c66 => ?_)
          · replace hm := mC_t hm c66
            refine lv_iload hx hb d_Tree_make_76 (lv_at hl 6 rfl) ?_
            exact h_78 _ _ _ _ _ H locs ls hm hP hD hS (lv_sub hl [1, 2, 3, 4, 5, 0, 7] rfl)
          · replace hm := mC_f hm c66
            refine lv_iload hx hb d_Tree_make_69 (lv_at hl 6 rfl) ?_
            refine lv_iconst (v := 1) hx hb d_Tree_make_71 (by decide) ?_
            refine lv_iadd hx hb d_Tree_make_72 ?_
            refine lv_goto (tgt := 78) hx hb d_Tree_make_73 (by decide) ?_
            exact h_78 _ _ _ _ _ H locs ls hm hP hD hS (lv_sub hl [1, 2, 3, 4, 5, 0, 7] rfl)
        refine lv_aload_n hx hb d_Tree_make_34 rfl (lv_at hl 1 rfl) ?_
        refine lv_iload_n hx hb d_Tree_make_35 rfl (lv_at hl 2 rfl) ?_
        refine lv_iload hx hb d_Tree_make_36 (lv_at hl 7 rfl) ?_
        refine lv_iadd hx hb d_Tree_make_38 ?_
        refine lv_topi (fun i_10 ei_10 => ?_)
        replace hm := mL_e hm i_10 ei_10
        obtain ⟨hi39, hm⟩ := mG_e hm
        refine va_iald hx hb hK hP 2 0 rfl rfl hi39 d_Tree_make_39 ?_
        refine lv_topi (fun y8_11 ey8_11 => ?_)
        replace hm := mL_e hm y8_11 ey8_11
        refine lv_istore (lv' := [(8, .int y8_11), (0, .ref a_this), (1, .ref a_p1), (2, .int x2), (3, .int x3), (4, .int x4), (5, .int x5), (6, .int x6), (7, .int x7)]) hx hb d_Tree_make_40 hl (by decide) rfl (fun ls hl => ?_)
        refine lv_iload hx hb d_Tree_make_42 (lv_at hl 0 rfl) ?_
        refine lv_if_le (tgt := 60) hx hb d_Tree_make_44 (by decide) (fun c44 => ?_) (fun c44 => ?_)
        · replace hm := mC_t hm c44
          refine lv_iload hx hb d_Tree_make_60 (lv_at hl 6 rfl) ?_
          exact h_62 _ _ _ _ _ _ H locs ls hm hP hD hS (lv_sub hl [1, 2, 3, 4, 5, 7, 8, 0] rfl)
        · replace hm := mC_f hm c44
          refine lv_iload hx hb d_Tree_make_47 (lv_at hl 6 rfl) ?_
          refine lv_iconst (v := 1) hx hb d_Tree_make_49 (by decide) ?_
          refine lv_bipush (v := 15) hx hb d_Tree_make_50 (by decide) ?_
          refine lv_iload hx hb d_Tree_make_52 (lv_at hl 0 rfl) ?_
          refine lv_isub hx hb d_Tree_make_54 ?_
          refine lv_ishl hx hb d_Tree_make_55 ?_
          refine lv_iadd hx hb d_Tree_make_56 ?_
          refine lv_goto (tgt := 62) hx hb d_Tree_make_57 (by decide) ?_
          exact h_62 _ _ _ _ _ _ H locs ls hm hP hD hS (lv_sub hl [1, 2, 3, 4, 5, 7, 8, 0] rfl)
  refine lv_aload_n hx hb d_Tree_make_0 rfl (lv_at hl 0 rfl) ?_
  refine lv_iconst (v := 1) hx hb d_Tree_make_1 (by decide) ?_
  refine va_put (D := E.1) (ci := 11) (v := .int 1) (ty := .int) (C := R_Tree) (T := F_Tree) (N := 2) hx hb hts i_Tree t_Tree t_Tree_ok n_Tree hown hK hP hD hS 0 rfl rfl 1 (by decide) (hts _ tw_789) (fun _ h9 => h9) rfl (by decide +kernel) rfl rfl (Nat.le_of_ble_eq_true rfl) d_Tree_make_2 (fun H locs hP hD hS => ?_)
  replace hP : va_P E.1 vwCl (Tree_make_w E a_this a_next a_p1 n_p1 c_p1 1 c_next) H := hP
  replace hD : va_D A (Tree_make_w E a_this a_next a_p1 n_p1 c_p1 1 c_next) := hD
  refine lv_aload_n hx hb d_Tree_make_5 rfl (lv_at hl 0 rfl) ?_
  refine va_get (D := E.1) (ci := 11) (v := .ref a_next) (C := R_Tree) (T := F_Tree) (N := 2) hx hb hts i_Tree hown hK hP 0 rfl rfl 0 (by decide) (hts _ tw_787) (fun _ h9 => h9) rfl d_Tree_make_6 ?_
  refine lv_iconst (v := 0) hx hb d_Tree_make_9 (by decide) ?_
  refine lv_iconst (v := 0) hx hb d_Tree_make_10 (by decide) ?_
  obtain ⟨hi11, hm⟩ := mG_e hm
  obtain ⟨c_12, ec_12⟩ : ∃ z : Nat → Int32, z = upd c_next (0 : Int32).toNatClampNeg 0 := ⟨_, rfl⟩
  replace hm := mL_e hm c_12 ec_12
  refine va_iast hx hb hK hP hD hS 1 0 rfl rfl hi11 d_Tree_make_11 (fun H locs hP hD hS => ?_)
  rw [← ec_12] at hP hD
  replace hP : va_P E.1 vwCl (Tree_make_w E a_this a_next a_p1 n_p1 c_p1 1 c_12) H := hP
  replace hD : va_D A (Tree_make_w E a_this a_next a_p1 n_p1 c_p1 1 c_12) := hD
  refine lv_aload_n hx hb d_Tree_make_12 rfl (lv_at hl 0 rfl) ?_
  refine va_get (D := E.1) (ci := 11) (v := .ref a_next) (C := R_Tree) (T := F_Tree) (N := 2) hx hb hts i_Tree hown hK hP 0 rfl rfl 0 (by decide) (hts _ tw_787) (fun _ h9 => h9) rfl d_Tree_make_13 ?_
  refine lv_iconst (v := 1) hx hb d_Tree_make_16 (by decide) ?_
  refine lv_iconst (v := 0) hx hb d_Tree_make_17 (by decide) ?_
  obtain ⟨hi18, hm⟩ := mG_e hm
  obtain ⟨c_13, ec_13⟩ : ∃ z : Nat → Int32, z = upd c_12 (1 : Int32).toNatClampNeg 0 := ⟨_, rfl⟩
  replace hm := mL_e hm c_13 ec_13
  refine va_iast hx hb hK hP hD hS 1 0 rfl rfl hi18 d_Tree_make_18 (fun H locs hP hD hS => ?_)
  rw [← ec_13] at hP hD
  replace hP : va_P E.1 vwCl (Tree_make_w E a_this a_next a_p1 n_p1 c_p1 1 c_13) H := hP
  replace hD : va_D A (Tree_make_w E a_this a_next a_p1 n_p1 c_p1 1 c_13) := hD
  refine lv_iconst (v := 0) hx hb d_Tree_make_19 (by decide) ?_
  refine lv_istore (lv' := [(5, .int 0), (0, .ref a_this), (1, .ref a_p1), (2, .int x2), (3, .int x3), (4, .int x4)]) hx hb d_Tree_make_20 hl (by decide) rfl (fun ls hl => ?_)
  refine lv_iconst (v := 0) hx hb d_Tree_make_22 (by decide) ?_
  refine lv_istore (lv' := [(6, .int 0), (5, .int 0), (0, .ref a_this), (1, .ref a_p1), (2, .int x2), (3, .int x3), (4, .int x4)]) hx hb d_Tree_make_23 hl (by decide) rfl (fun ls hl => ?_)
  refine lv_iconst (v := 0) hx hb d_Tree_make_25 (by decide) ?_
  refine lv_istore (lv' := [(7, .int 0), (6, .int 0), (5, .int 0), (0, .ref a_this), (1, .ref a_p1), (2, .int x2), (3, .int x3), (4, .int x4)]) hx hb d_Tree_make_26 hl (by decide) rfl (fun ls hl => ?_)
  exact h_28 F _ _ _ _ _ H locs ls hm hP hD hS (lv_sub hl [3, 4, 5, 6, 7, 2, 1, 0] rfl)
theorem d_M_readSymbol_0 : decode b_M_readSymbol 0 = .ok (.iconst 0, 1) := by decide +kernel
theorem d_M_readSymbol_1 : decode b_M_readSymbol 1 = .ok (.istore_n 2, 1) := by decide +kernel
theorem d_M_readSymbol_2 : decode b_M_readSymbol 2 = .ok (.aload_n 0, 1) := by decide +kernel
theorem d_M_readSymbol_3 : decode b_M_readSymbol 3 = .ok (.getfield 218, 3) := by decide +kernel
theorem d_M_readSymbol_6 : decode b_M_readSymbol 6 = .ok (.ifCond .ne 49, 3) := by decide +kernel
theorem d_M_readSymbol_9 : decode b_M_readSymbol 9 = .ok (.aload_n 1, 1) := by decide +kernel
theorem d_M_readSymbol_10 : decode b_M_readSymbol 10 = .ok (.getfield 238, 3) := by decide +kernel
theorem d_M_readSymbol_13 : decode b_M_readSymbol 13 = .ok (.iconst 2, 1) := by decide +kernel
theorem d_M_readSymbol_14 : decode b_M_readSymbol 14 = .ok (.iload_n 2, 1) := by decide +kernel
theorem d_M_readSymbol_15 : decode b_M_readSymbol 15 = .ok (.imul, 1) := by decide +kernel
theorem d_M_readSymbol_16 : decode b_M_readSymbol 16 = .ok (.aload_n 0, 1) := by decide +kernel
theorem d_M_readSymbol_17 : decode b_M_readSymbol 17 = .ok (.invokevirtual 234, 3) := by decide +kernel
theorem d_M_readSymbol_20 : decode b_M_readSymbol 20 = .ok (.iadd, 1) := by decide +kernel
theorem d_M_readSymbol_21 : decode b_M_readSymbol 21 = .ok (.iaload, 1) := by decide +kernel
theorem d_M_readSymbol_22 : decode b_M_readSymbol 22 = .ok (.istore_n 3, 1) := by decide +kernel
theorem d_M_readSymbol_23 : decode b_M_readSymbol 23 = .ok (.aload_n 0, 1) := by decide +kernel
theorem d_M_readSymbol_24 : decode b_M_readSymbol 24 = .ok (.getfield 218, 3) := by decide +kernel
theorem d_M_readSymbol_27 : decode b_M_readSymbol 27 = .ok (.ifCond .ne 7, 3) := by decide +kernel
theorem d_M_readSymbol_30 : decode b_M_readSymbol 30 = .ok (.iload_n 3, 1) := by decide +kernel
theorem d_M_readSymbol_31 : decode b_M_readSymbol 31 = .ok (.ifCond .ne 11, 3) := by decide +kernel
theorem d_M_readSymbol_34 : decode b_M_readSymbol 34 = .ok (.aload_n 0, 1) := by decide +kernel
theorem d_M_readSymbol_35 : decode b_M_readSymbol 35 = .ok (.iconst 1, 1) := by decide +kernel
theorem d_M_readSymbol_36 : decode b_M_readSymbol 36 = .ok (.putfield 218, 3) := by decide +kernel
theorem d_M_readSymbol_39 : decode b_M_readSymbol 39 = .ok (.goto 11, 3) := by decide +kernel
theorem d_M_readSymbol_42 : decode b_M_readSymbol 42 = .ok (.iload_n 3, 1) := by decide +kernel
theorem d_M_readSymbol_43 : decode b_M_readSymbol 43 = .ok (.ifCond .ge 7, 3) := by decide +kernel
theorem d_M_readSymbol_46 : decode b_M_readSymbol 46 = .ok (.iconst (-1), 1) := by decide +kernel
theorem d_M_readSymbol_47 : decode b_M_readSymbol 47 = .ok (.iload_n 3, 1) := by decide +kernel
theorem d_M_readSymbol_48 : decode b_M_readSymbol 48 = .ok (.isub, 1) := by decide +kernel
theorem d_M_readSymbol_49 : decode b_M_readSymbol 49 = .ok (.ireturn, 1) := by decide +kernel
theorem d_M_readSymbol_50 : decode b_M_readSymbol 50 = .ok (.iload_n 3, 1) := by decide +kernel
theorem d_M_readSymbol_51 : decode b_M_readSymbol 51 = .ok (.istore_n 2, 1) := by decide +kernel
theorem d_M_readSymbol_52 : decode b_M_readSymbol 52 = .ok (.goto (-50), 3) := by decide +kernel
theorem d_M_readSymbol_55 : decode b_M_readSymbol 55 = .ok (.iconst 0, 1) := by decide +kernel
theorem d_M_readSymbol_56 : decode b_M_readSymbol 56 = .ok (.ireturn, 1) := by decide +kernel
def M_readSymbol_50 (F : Nat) (k_2 : Int32 → Int32 → Int32 → Option (Int32 × Int32 × Int32)) (v_readBits : Int32) (v_wrong : Int32) (x3 : Int32) : Option (Int32 × Int32 × Int32) :=
  k_2 v_readBits v_wrong x3
def M_readSymbol_34 (F : Nat) (k_2 : Int32 → Int32 → Int32 → Option (Int32 × Int32 × Int32)) (v_readBits : Int32) (v_wrong : Int32) (x3 : Int32) : Option (Int32 × Int32 × Int32) :=
  (M_readSymbol_50 F k_2) v_readBits 1 x3
def M_readSymbol_2 (F : Nat) (n_source : Nat) (v_sourceFrom : Int32) (v_sourceBits : Int32) (c_source : Nat → Int32) (c_p1_next : Nat → Int32) (k_2 : Int32 → Int32 → Int32 → Option (Int32 × Int32 × Int32)) (v_readBits : Int32) (v_wrong : Int32) (x2 : Int32) : Option (Int32 × Int32 × Int32) :=
  mC (v_wrong = 0) (mR2 (M_readBit F n_source v_sourceFrom v_sourceBits c_source v_readBits v_wrong) fun r_3 v_readBits_1 v_wrong_2 => mL ((2 * x2) + r_3) fun i_4 => mG i_4 1300 (mL (c_p1_next i_4.toNatClampNeg) fun y3_5 => mC (v_wrong_2 = 0) (mC (y3_5 = 0) ((M_readSymbol_34 F k_2) v_readBits_1 v_wrong_2 y3_5) (mC (0 ≤ y3_5) ((M_readSymbol_50 F k_2) v_readBits_1 v_wrong_2 y3_5) (some ((-1) - y3_5, v_readBits_1, v_wrong_2)))) ((M_readSymbol_34 F k_2) v_readBits_1 v_wrong_2 y3_5))) (some (0, v_readBits, v_wrong))
abbrev M_readSymbol_w (E : xE) (a_this : Nat) (a_p1 : Nat) (a_source : Nat) (a_p1_next : Nat) (n_source : Nat) (x_row : Value) (x_starts : Value) (x_image : Value) (x_readRow : Value) (x_readStart : Value) (x_readAt : Value) (x_readMany : Value) (x_piece : Value) (x_packed : Value) (x_pairBefore : Value) (x_pairLast : Value) (x_tokenLength : Value) (x_tokenValue : Value) (x_counts : Value) (x_lengths : Value) (x_fixed : Value) (x_ranked : Value) (x_weight : Value) (x_weightBefore : Value) (x_items : Value) (x_lengthRow : Value) (x_step : Value) (x_stepMore : Value) (x_codes : Value) (x_symbolTree : Value) (x_distanceTree : Value) (x_smallTree : Value) (x_readLengths : Value) (x_target : Value) (v_sourceFrom : Int32) (v_sourceBits : Int32) (c_source : Nat → Int32) (c_p1_next : Nat → Int32) (v_readBits : Int32) (v_wrong : Int32) (v_plain : Int32) (v_closed : Int32) (v_rowSize : Int32) (v_pieces : Int32) (v_imageSize : Int32) (v_readSize : Int32) (v_readPieces : Int32) (v_packedBits : Int32) (v_tokens : Int32) (v_steps : Int32) (v_made : Int32) (v_room : Int32) (v_p1_nodes : Int32) : va_W := [(a_this, .inr (12, [.int v_plain, .int v_closed, .int v_rowSize, x_row, .int v_pieces, x_starts, .int v_imageSize, x_image, .int v_readSize, x_readRow, .int v_readPieces, x_readStart, x_readAt, x_readMany, x_piece, x_packed, .int v_packedBits, x_pairBefore, x_pairLast, .int v_tokens, x_tokenLength, x_tokenValue, x_counts, x_lengths, x_fixed, x_ranked, x_weight, x_weightBefore, x_items, x_lengthRow, .int v_steps, x_step, x_stepMore, x_codes, x_symbolTree, x_distanceTree, x_smallTree, x_readLengths, .ref a_source, .int v_sourceFrom, .int v_sourceBits, .int v_readBits, .int v_wrong, x_target, .int v_made, .int v_room])), (a_p1, .inr (11, [.ref a_p1_next, .int v_p1_nodes])), (a_source, .inl (E.2.2.1, n_source, .inl c_source)), (a_p1_next, .inl (E.2.1, 1300, .inl c_p1_next))]
def M_readSymbol (F : Nat) (n_source : Nat) (v_sourceFrom : Int32) (v_sourceBits : Int32) (c_source : Nat → Int32) (c_p1_next : Nat → Int32) (v_readBits : Int32) (v_wrong : Int32) : Option (Int32 × Int32 × Int32) :=
  (mW3 (M_readSymbol_2 F n_source v_sourceFrom v_sourceBits c_source c_p1_next) F) v_readBits v_wrong 0
abbrev M_readSymbol_rm : Room := { frames := 1, cells := 0, slots := 0, locals := 21 }
set_option maxHeartbeats 4000000 in
set_option maxRecDepth 100000 in
theorem c_M_readSymbol (l : Launch) (E : xE) (F sz : Nat) (a_this : Nat) (a_p1 : Nat) (a_source : Nat) (a_p1_next : Nat) (n_source : Nat) (x_row : Value) (x_starts : Value) (x_image : Value) (x_readRow : Value) (x_readStart : Value) (x_readAt : Value) (x_readMany : Value) (x_piece : Value) (x_packed : Value) (x_pairBefore : Value) (x_pairLast : Value) (x_tokenLength : Value) (x_tokenValue : Value) (x_counts : Value) (x_lengths : Value) (x_fixed : Value) (x_ranked : Value) (x_weight : Value) (x_weightBefore : Value) (x_items : Value) (x_lengthRow : Value) (x_step : Value) (x_stepMore : Value) (x_codes : Value) (x_symbolTree : Value) (x_distanceTree : Value) (x_smallTree : Value) (x_readLengths : Value) (x_target : Value) (v_sourceFrom : Int32) (v_sourceBits : Int32) (c_source : Nat → Int32) (c_p1_next : Nat → Int32) (v_readBits : Int32) (v_wrong : Int32) (v_plain : Int32) (v_closed : Int32) (v_rowSize : Int32) (v_pieces : Int32) (v_imageSize : Int32) (v_readSize : Int32) (v_readPieces : Int32) (v_packedBits : Int32) (v_tokens : Int32) (v_steps : Int32) (v_made : Int32) (v_room : Int32) (v_p1_nodes : Int32) (res : Int32 × Int32 × Int32) (hm : M_readSymbol F n_source v_sourceFrom v_sourceBits c_source c_p1_next v_readBits v_wrong = some res) : Met l y_M_readSymbol (Cond.code y_M_readSymbol b_M_readSymbol 4 (some .int) :: x_tb) M_readSymbol_rm (va_Pc [.ref a_this, .ref a_p1] (xPre E (M_readSymbol_w E a_this a_p1 a_source a_p1_next n_source x_row x_starts x_image x_readRow x_readStart x_readAt x_readMany x_piece x_packed x_pairBefore x_pairLast x_tokenLength x_tokenValue x_counts x_lengths x_fixed x_ranked x_weight x_weightBefore x_items x_lengthRow x_step x_stepMore x_codes x_symbolTree x_distanceTree x_smallTree x_readLengths x_target v_sourceFrom v_sourceBits c_source c_p1_next v_readBits v_wrong v_plain v_closed v_rowSize v_pieces v_imageSize v_readSize v_readPieces v_packedBits v_tokens v_steps v_made v_room v_p1_nodes) sz)) (xQi E (fun (r : Int32) (u : Int32 × Int32) => r = res.1 ∧ u = res.2) (fun (u : Int32 × Int32) => (M_readSymbol_w E a_this a_p1 a_source a_p1_next n_source x_row x_starts x_image x_readRow x_readStart x_readAt x_readMany x_piece x_packed x_pairBefore x_pairLast x_tokenLength x_tokenValue x_counts x_lengths x_fixed x_ranked x_weight x_weightBefore x_items x_lengthRow x_step x_stepMore x_codes x_symbolTree x_distanceTree x_smallTree x_readLengths x_target v_sourceFrom v_sourceBits c_source c_p1_next u.1 u.2 v_plain v_closed v_rowSize v_pieces v_imageSize v_readSize v_readPieces v_packedBits v_tokens v_steps v_made v_room v_p1_nodes)) (va_A (M_readSymbol_w E a_this a_p1 a_source a_p1_next n_source x_row x_starts x_image x_readRow x_readStart x_readAt x_readMany x_piece x_packed x_pairBefore x_pairLast x_tokenLength x_tokenValue x_counts x_lengths x_fixed x_ranked x_weight x_weightBefore x_items x_lengthRow x_step x_stepMore x_codes x_symbolTree x_distanceTree x_smallTree x_readLengths x_target v_sourceFrom v_sourceBits c_source c_p1_next v_readBits v_wrong v_plain v_closed v_rowSize v_pieces v_imageSize v_readSize v_readPieces v_packedBits v_tokens v_steps v_made v_room v_p1_nodes) sz)) 0 0 (va_A (M_readSymbol_w E a_this a_p1 a_source a_p1_next n_source x_row x_starts x_image x_readRow x_readStart x_readAt x_readMany x_piece x_packed x_pairBefore x_pairLast x_tokenLength x_tokenValue x_counts x_lengths x_fixed x_ranked x_weight x_weightBefore x_items x_lengthRow x_step x_stepMore x_codes x_symbolTree x_distanceTree x_smallTree x_readLengths x_target v_sourceFrom v_sourceBits c_source c_p1_next v_readBits v_wrong v_plain v_closed v_rowSize v_pieces v_imageSize v_readSize v_readPieces v_packedBits v_tokens v_steps v_made v_room v_p1_nodes) sz) := by
  refine xEnI (by decide) (Nat.le_of_ble_eq_true rfl) ?_
  intro p e s m args below meth c A ls Q hx hb hnm hts hown hml hK hA hI hN hret hP hD hS hl
  replace hown : s.vm.findClass R_M = some m.cls := hown
  replace hl : lv_has ls 4 [(0, .ref a_this), (1, .ref a_p1)] := hl
  obtain ⟨H, eH⟩ : ∃ z, z = s.heap := ⟨_, rfl⟩
  obtain ⟨locs, eL⟩ : ∃ z : List Loc, z = [] := ⟨_, rfl⟩
  rw [show W p l e M_readSymbol_rm s m args below meth c s.heap [] 0 0 Q (F0 m 0 ls []) = W p l e M_readSymbol_rm s m args below meth c H locs 0 0 Q (F0 m 0 ls []) by rw [eH, eL]]
  replace hP : va_P E.1 vwCl (M_readSymbol_w E a_this a_p1 a_source a_p1_next n_source x_row x_starts x_image x_readRow x_readStart x_readAt x_readMany x_piece x_packed x_pairBefore x_pairLast x_tokenLength x_tokenValue x_counts x_lengths x_fixed x_ranked x_weight x_weightBefore x_items x_lengthRow x_step x_stepMore x_codes x_symbolTree x_distanceTree x_smallTree x_readLengths x_target v_sourceFrom v_sourceBits c_source c_p1_next v_readBits v_wrong v_plain v_closed v_rowSize v_pieces v_imageSize v_readSize v_readPieces v_packedBits v_tokens v_steps v_made v_room v_p1_nodes) H := by rw [eH]; exact hP
  replace hS : va_S A s.heap H locs := by rw [eH, eL]; exact hS
  clear eH eL
  rw [M_readSymbol] at hm
  have h_2 : ∀ (n_2 : Nat) (v_readBits : Int32) (v_wrong : Int32) (x2 : Int32) (H : Heap) (locs : List Loc) (ls : Array Slot), (mW3 (M_readSymbol_2 F n_source v_sourceFrom v_sourceBits c_source c_p1_next) n_2) v_readBits v_wrong x2 = some res → va_P E.1 vwCl (M_readSymbol_w E a_this a_p1 a_source a_p1_next n_source x_row x_starts x_image x_readRow x_readStart x_readAt x_readMany x_piece x_packed x_pairBefore x_pairLast x_tokenLength x_tokenValue x_counts x_lengths x_fixed x_ranked x_weight x_weightBefore x_items x_lengthRow x_step x_stepMore x_codes x_symbolTree x_distanceTree x_smallTree x_readLengths x_target v_sourceFrom v_sourceBits c_source c_p1_next v_readBits v_wrong v_plain v_closed v_rowSize v_pieces v_imageSize v_readSize v_readPieces v_packedBits v_tokens v_steps v_made v_room v_p1_nodes) H → va_D A (M_readSymbol_w E a_this a_p1 a_source a_p1_next n_source x_row x_starts x_image x_readRow x_readStart x_readAt x_readMany x_piece x_packed x_pairBefore x_pairLast x_tokenLength x_tokenValue x_counts x_lengths x_fixed x_ranked x_weight x_weightBefore x_items x_lengthRow x_step x_stepMore x_codes x_symbolTree x_distanceTree x_smallTree x_readLengths x_target v_sourceFrom v_sourceBits c_source c_p1_next v_readBits v_wrong v_plain v_closed v_rowSize v_pieces v_imageSize v_readSize v_readPieces v_packedBits v_tokens v_steps v_made v_room v_p1_nodes) → va_S A s.heap H locs → lv_has ls 4 [(0, .ref a_this), (1, .ref a_p1), (2, .int x2)] → W p l e M_readSymbol_rm s m args below meth c H locs 0 0 Q (F0 m 2 ls []) := by
    intro n_2
    induction n_2 with
    | zero => exact fun _ _ _ _ _ _ hm _ _ _ _ => (mW3_z hm).elim
    | succ n_2 ih_2 =>
      intro v_readBits v_wrong x2 H locs ls hm hP hD hS hl
      replace hm := mW3_s hm
      rw [M_readSymbol_2] at hm
      refine lv_aload_n hx hb d_M_readSymbol_2 rfl (lv_at hl 0 rfl) ?_
      refine va_get (D := E.1) (ci := 12) (v := .int v_wrong) (C := R_M) (T := F_M) (N := 46) hx hb hts i_M hown hK hP 0 rfl rfl 42 (by decide) (hts _ tw_837) (fun _ h9 => h9) rfl d_M_readSymbol_3 ?_
      refine lv_if_ne (tgt := 55) hx hb d_M_readSymbol_6 (by decide) (fun c6 => ?_) (fun c6 => ?_)
      · replace hm := mC_f hm c6
        refine lv_iconst (v := 0) hx hb d_M_readSymbol_55 (by decide) ?_
        replace hm := Option.some.inj hm
        subst hm
        exact hret d_M_readSymbol_56 (u := (v_readBits, v_wrong)) ⟨rfl, rfl⟩ hP hD hS
      · replace hm := mC_t hm c6
        have h_50 : ∀ (v_readBits : Int32) (v_wrong : Int32) (x3 : Int32) (H : Heap) (locs : List Loc) (ls : Array Slot), (M_readSymbol_50 F (mW3 (M_readSymbol_2 F n_source v_sourceFrom v_sourceBits c_source c_p1_next) n_2)) v_readBits v_wrong x3 = some res → va_P E.1 vwCl (M_readSymbol_w E a_this a_p1 a_source a_p1_next n_source x_row x_starts x_image x_readRow x_readStart x_readAt x_readMany x_piece x_packed x_pairBefore x_pairLast x_tokenLength x_tokenValue x_counts x_lengths x_fixed x_ranked x_weight x_weightBefore x_items x_lengthRow x_step x_stepMore x_codes x_symbolTree x_distanceTree x_smallTree x_readLengths x_target v_sourceFrom v_sourceBits c_source c_p1_next v_readBits v_wrong v_plain v_closed v_rowSize v_pieces v_imageSize v_readSize v_readPieces v_packedBits v_tokens v_steps v_made v_room v_p1_nodes) H → va_D A (M_readSymbol_w E a_this a_p1 a_source a_p1_next n_source x_row x_starts x_image x_readRow x_readStart x_readAt x_readMany x_piece x_packed x_pairBefore x_pairLast x_tokenLength x_tokenValue x_counts x_lengths x_fixed x_ranked x_weight x_weightBefore x_items x_lengthRow x_step x_stepMore x_codes x_symbolTree x_distanceTree x_smallTree x_readLengths x_target v_sourceFrom v_sourceBits c_source c_p1_next v_readBits v_wrong v_plain v_closed v_rowSize v_pieces v_imageSize v_readSize v_readPieces v_packedBits v_tokens v_steps v_made v_room v_p1_nodes) → va_S A s.heap H locs → lv_has ls 4 [(0, .ref a_this), (1, .ref a_p1), (3, .int x3)] → W p l e M_readSymbol_rm s m args below meth c H locs 0 0 Q (F0 m 50 ls []) := by
          intro v_readBits v_wrong x3 H locs ls hm hP hD hS hl
          rw [M_readSymbol_50] at hm
          refine lv_iload_n hx hb d_M_readSymbol_50 rfl (lv_at hl 2 rfl) ?_
          refine lv_istore_n (lv' := [(2, .int x3), (0, .ref a_this), (1, .ref a_p1), (3, .int x3)]) hx hb d_M_readSymbol_51 rfl hl (by decide) rfl (fun ls hl => ?_)
          refine lv_goto (tgt := 2) hx hb d_M_readSymbol_52 (by decide) ?_
          exact ih_2 _ _ _ H locs ls hm hP hD hS (lv_sub hl [1, 2, 0] rfl)
        have h_34 : ∀ (v_readBits : Int32) (v_wrong : Int32) (x3 : Int32) (H : Heap) (locs : List Loc) (ls : Array Slot), (M_readSymbol_34 F (mW3 (M_readSymbol_2 F n_source v_sourceFrom v_sourceBits c_source c_p1_next) n_2)) v_readBits v_wrong x3 = some res → va_P E.1 vwCl (M_readSymbol_w E a_this a_p1 a_source a_p1_next n_source x_row x_starts x_image x_readRow x_readStart x_readAt x_readMany x_piece x_packed x_pairBefore x_pairLast x_tokenLength x_tokenValue x_counts x_lengths x_fixed x_ranked x_weight x_weightBefore x_items x_lengthRow x_step x_stepMore x_codes x_symbolTree x_distanceTree x_smallTree x_readLengths x_target v_sourceFrom v_sourceBits c_source c_p1_next v_readBits v_wrong v_plain v_closed v_rowSize v_pieces v_imageSize v_readSize v_readPieces v_packedBits v_tokens v_steps v_made v_room v_p1_nodes) H → va_D A (M_readSymbol_w E a_this a_p1 a_source a_p1_next n_source x_row x_starts x_image x_readRow x_readStart x_readAt x_readMany x_piece x_packed x_pairBefore x_pairLast x_tokenLength x_tokenValue x_counts x_lengths x_fixed x_ranked x_weight x_weightBefore x_items x_lengthRow x_step x_stepMore x_codes x_symbolTree x_distanceTree x_smallTree x_readLengths x_target v_sourceFrom v_sourceBits c_source c_p1_next v_readBits v_wrong v_plain v_closed v_rowSize v_pieces v_imageSize v_readSize v_readPieces v_packedBits v_tokens v_steps v_made v_room v_p1_nodes) → va_S A s.heap H locs → lv_has ls 4 [(0, .ref a_this), (1, .ref a_p1), (3, .int x3)] → W p l e M_readSymbol_rm s m args below meth c H locs 0 0 Q (F0 m 34 ls []) := by
          intro v_readBits v_wrong x3 H locs ls hm hP hD hS hl
          rw [M_readSymbol_34] at hm
          refine lv_aload_n hx hb d_M_readSymbol_34 rfl (lv_at hl 0 rfl) ?_
          refine lv_iconst (v := 1) hx hb d_M_readSymbol_35 (by decide) ?_
          refine va_put (D := E.1) (ci := 12) (v := .int 1) (ty := .boolean) (C := R_M) (T := F_M) (N := 46) hx hb hts i_M t_M t_M_ok n_M hown hK hP hD hS 0 rfl rfl 42 (by decide) (hts _ tw_837) (fun _ h9 => h9) rfl (by decide +kernel) rfl rfl (Nat.le_of_ble_eq_true rfl) d_M_readSymbol_36 (fun H locs hP hD hS => ?_)
          replace hP : va_P E.1 vwCl (M_readSymbol_w E a_this a_p1 a_source a_p1_next n_source x_row x_starts x_image x_readRow x_readStart x_readAt x_readMany x_piece x_packed x_pairBefore x_pairLast x_tokenLength x_tokenValue x_counts x_lengths x_fixed x_ranked x_weight x_weightBefore x_items x_lengthRow x_step x_stepMore x_codes x_symbolTree x_distanceTree x_smallTree x_readLengths x_target v_sourceFrom v_sourceBits c_source c_p1_next v_readBits 1 v_plain v_closed v_rowSize v_pieces v_imageSize v_readSize v_readPieces v_packedBits v_tokens v_steps v_made v_room v_p1_nodes) H := hP
          replace hD : va_D A (M_readSymbol_w E a_this a_p1 a_source a_p1_next n_source x_row x_starts x_image x_readRow x_readStart x_readAt x_readMany x_piece x_packed x_pairBefore x_pairLast x_tokenLength x_tokenValue x_counts x_lengths x_fixed x_ranked x_weight x_weightBefore x_items x_lengthRow x_step x_stepMore x_codes x_symbolTree x_distanceTree x_smallTree x_readLengths x_target v_sourceFrom v_sourceBits c_source c_p1_next v_readBits 1 v_plain v_closed v_rowSize v_pieces v_imageSize v_readSize v_readPieces v_packedBits v_tokens v_steps v_made v_room v_p1_nodes) := hD
          refine lv_goto (tgt := 50) hx hb d_M_readSymbol_39 (by decide) ?_
          exact h_50 _ _ _ H locs ls hm hP hD hS hl
        refine lv_aload_n hx hb d_M_readSymbol_9 rfl (lv_at hl 1 rfl) ?_
        refine va_getN (D := E.1) (ci := 11) (v := .ref a_p1_next) (C := R_Tree) (T := F_Tree) (N := 2) hx hb hts i_Tree hown hK hP 1 rfl rfl 0 (by decide) (va_Nw.use rfl (nF_4 hN)) (fun _ h9 => h9) rfl d_M_readSymbol_10 ?_
        refine lv_iconst (v := 2) hx hb d_M_readSymbol_13 (by decide) ?_
        refine lv_iload_n hx hb d_M_readSymbol_14 rfl (lv_at hl 2 rfl) ?_
        refine lv_imul hx hb d_M_readSymbol_15 ?_
        refine lv_aload_n hx hb d_M_readSymbol_16 rfl (lv_at hl 0 rfl) ?_
        obtain ⟨r_3, v_readBits_1, v_wrong_2, hc17, hm⟩ := mR2_e hm
        refine xmi (wc := (M_readBit_w E a_this a_source n_source x_row x_starts x_image x_readRow x_readStart x_readAt x_readMany x_piece x_packed x_pairBefore x_pairLast x_tokenLength x_tokenValue x_counts x_lengths x_fixed x_ranked x_weight x_weightBefore x_items x_lengthRow x_step x_stepMore x_codes x_symbolTree x_distanceTree x_smallTree x_readLengths x_target v_sourceFrom v_sourceBits c_source v_readBits v_wrong v_plain v_closed v_rowSize v_pieces v_imageSize v_readSize v_readPieces v_packedBits v_tokens v_steps v_made v_room)) [true, false, true, false] [0, 1] [0, 1] hP hD hS hA rfl (by decide) (by decide) 2 (by decide) (fun _ => rfl) (fun hPc hDc hFc => va_runV (As := []) (rest := [.int (2 * x2), .ref a_p1_next]) ⟨hx, hb, hml, hown, hts⟩ (c_M_readBit l E F H.size a_this a_source n_source x_row x_starts x_image x_readRow x_readStart x_readAt x_readMany x_piece x_packed x_pairBefore x_pairLast x_tokenLength x_tokenValue x_counts x_lengths x_fixed x_ranked x_weight x_weightBefore x_items x_lengthRow x_step x_stepMore x_codes x_symbolTree x_distanceTree x_smallTree x_readLengths x_target v_sourceFrom v_sourceBits c_source v_readBits v_wrong v_plain v_closed v_rowSize v_pieces v_imageSize v_readSize v_readPieces v_packedBits v_tokens v_steps v_made v_room (r_3, v_readBits_1, v_wrong_2) hc17) (cwV 0 hts (x_gV tw_1119 tw_1121 tw_57 tw_79 tw_1122) rfl rfl rfl (by decide +kernel) ⟨Nat.le_of_ble_eq_true rfl, Nat.le_of_ble_eq_true rfl⟩) (xPV 12 0 rfl rfl hPc hDc hFc hK hI hN hS) rfl rfl hl.1 rfl (lv_room (Nat.le_of_ble_eq_true rfl)) d_M_readSymbol_17 ⟨Nat.le_of_ble_eq_true rfl, Nat.le_of_ble_eq_true rfl⟩) (fun r9 u9 H locs hw hP hD hS => ?_)
        have hw1 : r_3 = r9 := hw.1.symm
        subst hw1
        have hw2 : (v_readBits_1, v_wrong_2) = u9 := hw.2.symm
        subst hw2
        replace hP : va_P E.1 vwCl (M_readSymbol_w E a_this a_p1 a_source a_p1_next n_source x_row x_starts x_image x_readRow x_readStart x_readAt x_readMany x_piece x_packed x_pairBefore x_pairLast x_tokenLength x_tokenValue x_counts x_lengths x_fixed x_ranked x_weight x_weightBefore x_items x_lengthRow x_step x_stepMore x_codes x_symbolTree x_distanceTree x_smallTree x_readLengths x_target v_sourceFrom v_sourceBits c_source c_p1_next v_readBits_1 v_wrong_2 v_plain v_closed v_rowSize v_pieces v_imageSize v_readSize v_readPieces v_packedBits v_tokens v_steps v_made v_room v_p1_nodes) H := hP
        replace hD : va_D A (M_readSymbol_w E a_this a_p1 a_source a_p1_next n_source x_row x_starts x_image x_readRow x_readStart x_readAt x_readMany x_piece x_packed x_pairBefore x_pairLast x_tokenLength x_tokenValue x_counts x_lengths x_fixed x_ranked x_weight x_weightBefore x_items x_lengthRow x_step x_stepMore x_codes x_symbolTree x_distanceTree x_smallTree x_readLengths x_target v_sourceFrom v_sourceBits c_source c_p1_next v_readBits_1 v_wrong_2 v_plain v_closed v_rowSize v_pieces v_imageSize v_readSize v_readPieces v_packedBits v_tokens v_steps v_made v_room v_p1_nodes) := hD
        refine lv_iadd hx hb d_M_readSymbol_20 ?_
        refine lv_topi (fun i_4 ei_4 => ?_)
        replace hm := mL_e hm i_4 ei_4
        obtain ⟨hi21, hm⟩ := mG_e hm
        refine va_iald hx hb hK hP 3 0 rfl rfl hi21 d_M_readSymbol_21 ?_
        refine lv_topi (fun y3_5 ey3_5 => ?_)
        replace hm := mL_e hm y3_5 ey3_5
        refine lv_istore_n (lv' := [(3, .int y3_5), (0, .ref a_this), (1, .ref a_p1), (2, .int x2)]) hx hb d_M_readSymbol_22 rfl hl (by decide) rfl (fun ls hl => ?_)
        refine lv_aload_n hx hb d_M_readSymbol_23 rfl (lv_at hl 1 rfl) ?_
        refine va_get (D := E.1) (ci := 12) (v := .int v_wrong_2) (C := R_M) (T := F_M) (N := 46) hx hb hts i_M hown hK hP 0 rfl rfl 42 (by decide) (hts _ tw_837) (fun _ h9 => h9) rfl d_M_readSymbol_24 ?_
        refine lv_if_ne (tgt := 34) hx hb d_M_readSymbol_27 (by decide) (fun c27 => ?_) (fun c27 => ?_)
        · replace hm := mC_f hm c27
          exact h_34 _ _ _ H locs ls hm hP hD hS (lv_sub hl [1, 2, 0] rfl)
        · replace hm := mC_t hm c27
          refine lv_iload_n hx hb d_M_readSymbol_30 rfl (lv_at hl 0 rfl) ?_
          refine lv_if_ne (tgt := 42) hx hb d_M_readSymbol_31 (by decide) (fun c31 => ?_) (fun c31 => ?_)
          · replace hm := mC_f hm c31
            refine lv_iload_n hx hb d_M_readSymbol_42 rfl (lv_at hl 0 rfl) ?_
            refine lv_if_ge (tgt := 50) hx hb d_M_readSymbol_43 (by decide) (fun c43 => ?_) (fun c43 => ?_)
            · replace hm := mC_t hm c43
              exact h_50 _ _ _ H locs ls hm hP hD hS (lv_sub hl [1, 2, 0] rfl)
            · replace hm := mC_f hm c43
              refine lv_iconst (v := (-1)) hx hb d_M_readSymbol_46 (by decide) ?_
              refine lv_iload_n hx hb d_M_readSymbol_47 rfl (lv_at hl 0 rfl) ?_
              refine lv_isub hx hb d_M_readSymbol_48 ?_
              replace hm := Option.some.inj hm
              subst hm
              exact hret d_M_readSymbol_49 (u := (v_readBits_1, v_wrong_2)) ⟨rfl, rfl⟩ hP hD hS
          · replace hm := mC_t hm c31
            exact h_34 _ _ _ H locs ls hm hP hD hS (lv_sub hl [1, 2, 0] rfl)
  refine lv_iconst (v := 0) hx hb d_M_readSymbol_0 (by decide) ?_
  refine lv_istore_n (lv' := [(2, .int 0), (0, .ref a_this), (1, .ref a_p1)]) hx hb d_M_readSymbol_1 rfl hl (by decide) rfl (fun ls hl => ?_)
  exact h_2 F _ _ _ H locs ls hm hP hD hS (lv_sub hl [1, 2, 0] rfl)
