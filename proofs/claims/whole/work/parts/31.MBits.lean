theorem d_M_writeBit_0 : decode b_M_writeBit 0 = .ok (.aload_n 0, 1) := by decide +kernel
theorem d_M_writeBit_1 : decode b_M_writeBit 1 = .ok (.getfield 114, 3) := by decide +kernel
theorem d_M_writeBit_4 : decode b_M_writeBit 4 = .ok (.bipush 8, 2) := by decide +kernel
theorem d_M_writeBit_6 : decode b_M_writeBit 6 = .ok (.idiv, 1) := by decide +kernel
theorem d_M_writeBit_7 : decode b_M_writeBit 7 = .ok (.istore_n 2, 1) := by decide +kernel
theorem d_M_writeBit_8 : decode b_M_writeBit 8 = .ok (.aload_n 0, 1) := by decide +kernel
theorem d_M_writeBit_9 : decode b_M_writeBit 9 = .ok (.getfield 37, 3) := by decide +kernel
theorem d_M_writeBit_12 : decode b_M_writeBit 12 = .ok (.iload_n 2, 1) := by decide +kernel
theorem d_M_writeBit_13 : decode b_M_writeBit 13 = .ok (.aload_n 0, 1) := by decide +kernel
theorem d_M_writeBit_14 : decode b_M_writeBit 14 = .ok (.getfield 114, 3) := by decide +kernel
theorem d_M_writeBit_17 : decode b_M_writeBit 17 = .ok (.bipush 8, 2) := by decide +kernel
theorem d_M_writeBit_19 : decode b_M_writeBit 19 = .ok (.irem, 1) := by decide +kernel
theorem d_M_writeBit_20 : decode b_M_writeBit 20 = .ok (.ifCond .ne 7, 3) := by decide +kernel
theorem d_M_writeBit_23 : decode b_M_writeBit 23 = .ok (.iload_n 1, 1) := by decide +kernel
theorem d_M_writeBit_24 : decode b_M_writeBit 24 = .ok (.goto 19, 3) := by decide +kernel
theorem d_M_writeBit_27 : decode b_M_writeBit 27 = .ok (.aload_n 0, 1) := by decide +kernel
theorem d_M_writeBit_28 : decode b_M_writeBit 28 = .ok (.getfield 37, 3) := by decide +kernel
theorem d_M_writeBit_31 : decode b_M_writeBit 31 = .ok (.iload_n 2, 1) := by decide +kernel
theorem d_M_writeBit_32 : decode b_M_writeBit 32 = .ok (.baload, 1) := by decide +kernel
theorem d_M_writeBit_33 : decode b_M_writeBit 33 = .ok (.iload_n 1, 1) := by decide +kernel
theorem d_M_writeBit_34 : decode b_M_writeBit 34 = .ok (.aload_n 0, 1) := by decide +kernel
theorem d_M_writeBit_35 : decode b_M_writeBit 35 = .ok (.getfield 114, 3) := by decide +kernel
theorem d_M_writeBit_38 : decode b_M_writeBit 38 = .ok (.bipush 8, 2) := by decide +kernel
theorem d_M_writeBit_40 : decode b_M_writeBit 40 = .ok (.irem, 1) := by decide +kernel
theorem d_M_writeBit_41 : decode b_M_writeBit 41 = .ok (.ishl, 1) := by decide +kernel
theorem d_M_writeBit_42 : decode b_M_writeBit 42 = .ok (.ior, 1) := by decide +kernel
theorem d_M_writeBit_43 : decode b_M_writeBit 43 = .ok (.i2b, 1) := by decide +kernel
theorem d_M_writeBit_44 : decode b_M_writeBit 44 = .ok (.bastore, 1) := by decide +kernel
theorem d_M_writeBit_45 : decode b_M_writeBit 45 = .ok (.aload_n 0, 1) := by decide +kernel
theorem d_M_writeBit_46 : decode b_M_writeBit 46 = .ok (.dup, 1) := by decide +kernel
theorem d_M_writeBit_47 : decode b_M_writeBit 47 = .ok (.getfield 114, 3) := by decide +kernel
theorem d_M_writeBit_50 : decode b_M_writeBit 50 = .ok (.iconst 1, 1) := by decide +kernel
theorem d_M_writeBit_51 : decode b_M_writeBit 51 = .ok (.iadd, 1) := by decide +kernel
theorem d_M_writeBit_52 : decode b_M_writeBit 52 = .ok (.putfield 114, 3) := by decide +kernel
theorem d_M_writeBit_55 : decode b_M_writeBit 55 = .ok (.return_, 1) := by decide +kernel
def M_writeBit_43 (F : Nat) (v_packedBits : Int32) (c_packed : Nat → Int32) (s1 : Int32) (s2 : Int32) : Option (Unit × Int32 × (Nat → Int32)) :=
  mG s1 66000 (mL (upd c_packed s1.toNatClampNeg (vp_nar .byte s2.toInt8.toInt32)) fun c_1 => mL (v_packedBits + 1) fun v_2 => some ((), v_2, c_1))
abbrev M_writeBit_w (E : xE) (a_this : Nat) (a_packed : Nat) (x_row : Value) (x_starts : Value) (x_image : Value) (x_readRow : Value) (x_readStart : Value) (x_readAt : Value) (x_readMany : Value) (x_piece : Value) (x_pairBefore : Value) (x_pairLast : Value) (x_tokenLength : Value) (x_tokenValue : Value) (x_counts : Value) (x_lengths : Value) (x_fixed : Value) (x_ranked : Value) (x_weight : Value) (x_weightBefore : Value) (x_items : Value) (x_lengthRow : Value) (x_step : Value) (x_stepMore : Value) (x_codes : Value) (x_symbolTree : Value) (x_distanceTree : Value) (x_smallTree : Value) (x_readLengths : Value) (x_source : Value) (x_target : Value) (v_packedBits : Int32) (c_packed : Nat → Int32) (v_plain : Int32) (v_closed : Int32) (v_rowSize : Int32) (v_pieces : Int32) (v_imageSize : Int32) (v_readSize : Int32) (v_readPieces : Int32) (v_tokens : Int32) (v_steps : Int32) (v_sourceFrom : Int32) (v_sourceBits : Int32) (v_readBits : Int32) (v_wrong : Int32) (v_made : Int32) (v_room : Int32) : va_W := [(a_this, .inr (12, [.int v_plain, .int v_closed, .int v_rowSize, x_row, .int v_pieces, x_starts, .int v_imageSize, x_image, .int v_readSize, x_readRow, .int v_readPieces, x_readStart, x_readAt, x_readMany, x_piece, .ref a_packed, .int v_packedBits, x_pairBefore, x_pairLast, .int v_tokens, x_tokenLength, x_tokenValue, x_counts, x_lengths, x_fixed, x_ranked, x_weight, x_weightBefore, x_items, x_lengthRow, .int v_steps, x_step, x_stepMore, x_codes, x_symbolTree, x_distanceTree, x_smallTree, x_readLengths, x_source, .int v_sourceFrom, .int v_sourceBits, .int v_readBits, .int v_wrong, x_target, .int v_made, .int v_room])), (a_packed, .inl (E.2.2.1, 66000, .inl c_packed))]
def M_writeBit (F : Nat) (v_packedBits : Int32) (c_packed : Nat → Int32) (x1 : Int32) : Option (Unit × Int32 × (Nat → Int32)) :=
  mL (v_packedBits / 8) fun y2_3 => mC ((v_packedBits - v_packedBits / 8 * 8) = 0) ((M_writeBit_43 F) v_packedBits c_packed y2_3 x1) (mG y2_3 66000 ((M_writeBit_43 F) v_packedBits c_packed y2_3 ((c_packed y2_3.toNatClampNeg) ||| (x1 <<< ((v_packedBits - v_packedBits / 8 * 8) &&& 31)))))
abbrev M_writeBit_rm : Room := { frames := 0, cells := 0, slots := 0, locals := 0 }
set_option maxHeartbeats 4000000 in
set_option maxRecDepth 100000 in
theorem c_M_writeBit (l : Launch) (E : xE) (F sz : Nat) (a_this : Nat) (a_packed : Nat) (x_row : Value) (x_starts : Value) (x_image : Value) (x_readRow : Value) (x_readStart : Value) (x_readAt : Value) (x_readMany : Value) (x_piece : Value) (x_pairBefore : Value) (x_pairLast : Value) (x_tokenLength : Value) (x_tokenValue : Value) (x_counts : Value) (x_lengths : Value) (x_fixed : Value) (x_ranked : Value) (x_weight : Value) (x_weightBefore : Value) (x_items : Value) (x_lengthRow : Value) (x_step : Value) (x_stepMore : Value) (x_codes : Value) (x_symbolTree : Value) (x_distanceTree : Value) (x_smallTree : Value) (x_readLengths : Value) (x_source : Value) (x_target : Value) (v_packedBits : Int32) (c_packed : Nat → Int32) (v_plain : Int32) (v_closed : Int32) (v_rowSize : Int32) (v_pieces : Int32) (v_imageSize : Int32) (v_readSize : Int32) (v_readPieces : Int32) (v_tokens : Int32) (v_steps : Int32) (v_sourceFrom : Int32) (v_sourceBits : Int32) (v_readBits : Int32) (v_wrong : Int32) (v_made : Int32) (v_room : Int32) (x1 : Int32) (res : Unit × Int32 × (Nat → Int32)) (hm : M_writeBit F v_packedBits c_packed x1 = some res) : Met l y_M_writeBit (Cond.code y_M_writeBit b_M_writeBit 3 none :: x_tb) M_writeBit_rm (va_Pc [.ref a_this, .int x1] (xPre E (M_writeBit_w E a_this a_packed x_row x_starts x_image x_readRow x_readStart x_readAt x_readMany x_piece x_pairBefore x_pairLast x_tokenLength x_tokenValue x_counts x_lengths x_fixed x_ranked x_weight x_weightBefore x_items x_lengthRow x_step x_stepMore x_codes x_symbolTree x_distanceTree x_smallTree x_readLengths x_source x_target v_packedBits c_packed v_plain v_closed v_rowSize v_pieces v_imageSize v_readSize v_readPieces v_tokens v_steps v_sourceFrom v_sourceBits v_readBits v_wrong v_made v_room) sz)) (xQv E (fun (u : Int32 × (Nat → Int32)) => u = res.2) (fun (u : Int32 × (Nat → Int32)) => (M_writeBit_w E a_this a_packed x_row x_starts x_image x_readRow x_readStart x_readAt x_readMany x_piece x_pairBefore x_pairLast x_tokenLength x_tokenValue x_counts x_lengths x_fixed x_ranked x_weight x_weightBefore x_items x_lengthRow x_step x_stepMore x_codes x_symbolTree x_distanceTree x_smallTree x_readLengths x_source x_target u.1 u.2 v_plain v_closed v_rowSize v_pieces v_imageSize v_readSize v_readPieces v_tokens v_steps v_sourceFrom v_sourceBits v_readBits v_wrong v_made v_room)) (va_A (M_writeBit_w E a_this a_packed x_row x_starts x_image x_readRow x_readStart x_readAt x_readMany x_piece x_pairBefore x_pairLast x_tokenLength x_tokenValue x_counts x_lengths x_fixed x_ranked x_weight x_weightBefore x_items x_lengthRow x_step x_stepMore x_codes x_symbolTree x_distanceTree x_smallTree x_readLengths x_source x_target v_packedBits c_packed v_plain v_closed v_rowSize v_pieces v_imageSize v_readSize v_readPieces v_tokens v_steps v_sourceFrom v_sourceBits v_readBits v_wrong v_made v_room) sz)) 0 0 (va_A (M_writeBit_w E a_this a_packed x_row x_starts x_image x_readRow x_readStart x_readAt x_readMany x_piece x_pairBefore x_pairLast x_tokenLength x_tokenValue x_counts x_lengths x_fixed x_ranked x_weight x_weightBefore x_items x_lengthRow x_step x_stepMore x_codes x_symbolTree x_distanceTree x_smallTree x_readLengths x_source x_target v_packedBits c_packed v_plain v_closed v_rowSize v_pieces v_imageSize v_readSize v_readPieces v_tokens v_steps v_sourceFrom v_sourceBits v_readBits v_wrong v_made v_room) sz) := by
  refine xEnV (by decide) (Nat.le_of_ble_eq_true rfl) ?_
  intro p e s m args below meth c A ls Q hx hb hnm hts hown hml hK hA hI hN hret hP hD hS hl
  replace hown : s.vm.findClass R_M = some m.cls := hown
  replace hl : lv_has ls 3 [(0, .ref a_this), (1, .int x1)] := hl
  obtain ⟨H, eH⟩ : ∃ z, z = s.heap := ⟨_, rfl⟩
  obtain ⟨locs, eL⟩ : ∃ z : List Loc, z = [] := ⟨_, rfl⟩
  rw [show W p l e M_writeBit_rm s m args below meth c s.heap [] 0 0 Q (F0 m 0 ls []) = W p l e M_writeBit_rm s m args below meth c H locs 0 0 Q (F0 m 0 ls []) by rw [eH, eL]]
  replace hP : va_P E.1 vwCl (M_writeBit_w E a_this a_packed x_row x_starts x_image x_readRow x_readStart x_readAt x_readMany x_piece x_pairBefore x_pairLast x_tokenLength x_tokenValue x_counts x_lengths x_fixed x_ranked x_weight x_weightBefore x_items x_lengthRow x_step x_stepMore x_codes x_symbolTree x_distanceTree x_smallTree x_readLengths x_source x_target v_packedBits c_packed v_plain v_closed v_rowSize v_pieces v_imageSize v_readSize v_readPieces v_tokens v_steps v_sourceFrom v_sourceBits v_readBits v_wrong v_made v_room) H := by rw [eH]; exact hP
  replace hS : va_S A s.heap H locs := by rw [eH, eL]; exact hS
  clear eH eL
  rw [M_writeBit] at hm
  have h_43 : ∀ (v_packedBits : Int32) (c_packed : Nat → Int32) (s1 : Int32) (s2 : Int32) (H : Heap) (locs : List Loc) (ls : Array Slot), (M_writeBit_43 F) v_packedBits c_packed s1 s2 = some res → va_P E.1 vwCl (M_writeBit_w E a_this a_packed x_row x_starts x_image x_readRow x_readStart x_readAt x_readMany x_piece x_pairBefore x_pairLast x_tokenLength x_tokenValue x_counts x_lengths x_fixed x_ranked x_weight x_weightBefore x_items x_lengthRow x_step x_stepMore x_codes x_symbolTree x_distanceTree x_smallTree x_readLengths x_source x_target v_packedBits c_packed v_plain v_closed v_rowSize v_pieces v_imageSize v_readSize v_readPieces v_tokens v_steps v_sourceFrom v_sourceBits v_readBits v_wrong v_made v_room) H → va_D A (M_writeBit_w E a_this a_packed x_row x_starts x_image x_readRow x_readStart x_readAt x_readMany x_piece x_pairBefore x_pairLast x_tokenLength x_tokenValue x_counts x_lengths x_fixed x_ranked x_weight x_weightBefore x_items x_lengthRow x_step x_stepMore x_codes x_symbolTree x_distanceTree x_smallTree x_readLengths x_source x_target v_packedBits c_packed v_plain v_closed v_rowSize v_pieces v_imageSize v_readSize v_readPieces v_tokens v_steps v_sourceFrom v_sourceBits v_readBits v_wrong v_made v_room) → va_S A s.heap H locs → lv_has ls 3 [(0, .ref a_this)] → W p l e M_writeBit_rm s m args below meth c H locs 0 0 Q (F0 m 43 ls [.int s2, .int s1, .ref a_packed]) := by
    intro v_packedBits c_packed s1 s2 H locs ls hm hP hD hS hl
    rw [M_writeBit_43] at hm
    refine lv_i2b hx hb d_M_writeBit_43 rfl ?_
    obtain ⟨hi44, hm⟩ := mG_e hm
    obtain ⟨c_1, ec_1⟩ : ∃ z : Nat → Int32, z = upd c_packed s1.toNatClampNeg (vp_nar .byte s2.toInt8.toInt32) := ⟨_, rfl⟩
    replace hm := mL_e hm c_1 ec_1
    refine va_bast hx hb hK hP hD hS 1 1 rfl rfl hi44 d_M_writeBit_44 (fun H locs hP hD hS => ?_)
    rw [← ec_1] at hP hD
    replace hP : va_P E.1 vwCl (M_writeBit_w E a_this a_packed x_row x_starts x_image x_readRow x_readStart x_readAt x_readMany x_piece x_pairBefore x_pairLast x_tokenLength x_tokenValue x_counts x_lengths x_fixed x_ranked x_weight x_weightBefore x_items x_lengthRow x_step x_stepMore x_codes x_symbolTree x_distanceTree x_smallTree x_readLengths x_source x_target v_packedBits c_1 v_plain v_closed v_rowSize v_pieces v_imageSize v_readSize v_readPieces v_tokens v_steps v_sourceFrom v_sourceBits v_readBits v_wrong v_made v_room) H := hP
    replace hD : va_D A (M_writeBit_w E a_this a_packed x_row x_starts x_image x_readRow x_readStart x_readAt x_readMany x_piece x_pairBefore x_pairLast x_tokenLength x_tokenValue x_counts x_lengths x_fixed x_ranked x_weight x_weightBefore x_items x_lengthRow x_step x_stepMore x_codes x_symbolTree x_distanceTree x_smallTree x_readLengths x_source x_target v_packedBits c_1 v_plain v_closed v_rowSize v_pieces v_imageSize v_readSize v_readPieces v_tokens v_steps v_sourceFrom v_sourceBits v_readBits v_wrong v_made v_room) := hD
    refine lv_aload_n hx hb d_M_writeBit_45 rfl (lv_at hl 0 rfl) ?_
    refine lv_dup hx hb d_M_writeBit_46 rfl ?_
    refine va_get (D := E.1) (ci := 12) (v := .int v_packedBits) (C := R_M) (T := F_M) (N := 46) hx hb hts i_M hown hK hP 0 rfl rfl 16 (by decide) (hts _ tw_811) (fun _ h9 => h9) rfl d_M_writeBit_47 ?_
    refine lv_iconst (v := 1) hx hb d_M_writeBit_50 (by decide) ?_
    refine lv_iadd hx hb d_M_writeBit_51 ?_
    refine lv_topi (fun v_2 ev_2 => ?_)
    replace hm := mL_e hm v_2 ev_2
    refine va_put (D := E.1) (ci := 12) (v := .int v_2) (ty := .int) (C := R_M) (T := F_M) (N := 46) hx hb hts i_M t_M t_M_ok n_M hown hK hP hD hS 0 rfl rfl 16 (by decide) (hts _ tw_811) (fun _ h9 => h9) rfl (by decide +kernel) rfl rfl (Nat.le_of_ble_eq_true rfl) d_M_writeBit_52 (fun H locs hP hD hS => ?_)
    replace hP : va_P E.1 vwCl (M_writeBit_w E a_this a_packed x_row x_starts x_image x_readRow x_readStart x_readAt x_readMany x_piece x_pairBefore x_pairLast x_tokenLength x_tokenValue x_counts x_lengths x_fixed x_ranked x_weight x_weightBefore x_items x_lengthRow x_step x_stepMore x_codes x_symbolTree x_distanceTree x_smallTree x_readLengths x_source x_target v_2 c_1 v_plain v_closed v_rowSize v_pieces v_imageSize v_readSize v_readPieces v_tokens v_steps v_sourceFrom v_sourceBits v_readBits v_wrong v_made v_room) H := hP
    replace hD : va_D A (M_writeBit_w E a_this a_packed x_row x_starts x_image x_readRow x_readStart x_readAt x_readMany x_piece x_pairBefore x_pairLast x_tokenLength x_tokenValue x_counts x_lengths x_fixed x_ranked x_weight x_weightBefore x_items x_lengthRow x_step x_stepMore x_codes x_symbolTree x_distanceTree x_smallTree x_readLengths x_source x_target v_2 c_1 v_plain v_closed v_rowSize v_pieces v_imageSize v_readSize v_readPieces v_tokens v_steps v_sourceFrom v_sourceBits v_readBits v_wrong v_made v_room) := hD
    replace hm := Option.some.inj hm
    subst hm
    exact hret d_M_writeBit_55 (u := (v_2, c_1)) rfl hP hD hS
  refine lv_aload_n hx hb d_M_writeBit_0 rfl (lv_at hl 0 rfl) ?_
  refine va_get (D := E.1) (ci := 12) (v := .int v_packedBits) (C := R_M) (T := F_M) (N := 46) hx hb hts i_M hown hK hP 0 rfl rfl 16 (by decide) (hts _ tw_811) (fun _ h9 => h9) rfl d_M_writeBit_1 ?_
  refine lv_bipush (v := 8) hx hb d_M_writeBit_4 (by decide) ?_
  refine lv_idiv hx hb d_M_writeBit_6 (by decide) ?_
  refine lv_topi (fun y2_3 ey2_3 => ?_)
  replace hm := mL_e hm y2_3 ey2_3
  refine lv_istore_n (lv' := [(2, .int y2_3), (0, .ref a_this), (1, .int x1)]) hx hb d_M_writeBit_7 rfl hl (by decide) rfl (fun ls hl => ?_)
  refine lv_aload_n hx hb d_M_writeBit_8 rfl (lv_at hl 1 rfl) ?_
  refine va_get (D := E.1) (ci := 12) (v := .ref a_packed) (C := R_M) (T := F_M) (N := 46) hx hb hts i_M hown hK hP 0 rfl rfl 15 (by decide) (hts _ tw_810) (fun _ h9 => h9) rfl d_M_writeBit_9 ?_
  refine lv_iload_n hx hb d_M_writeBit_12 rfl (lv_at hl 0 rfl) ?_
  refine lv_aload_n hx hb d_M_writeBit_13 rfl (lv_at hl 1 rfl) ?_
  refine va_get (D := E.1) (ci := 12) (v := .int v_packedBits) (C := R_M) (T := F_M) (N := 46) hx hb hts i_M hown hK hP 0 rfl rfl 16 (by decide) (hts _ tw_811) (fun _ h9 => h9) rfl d_M_writeBit_14 ?_
  refine lv_bipush (v := 8) hx hb d_M_writeBit_17 (by decide) ?_
  refine lv_irem hx hb d_M_writeBit_19 (by decide) ?_
  refine lv_if_ne (tgt := 27) hx hb d_M_writeBit_20 (by decide) (fun c20 => ?_) (fun c20 => ?_)
  · replace hm := mC_f hm c20
    refine lv_aload_n hx hb d_M_writeBit_27 rfl (lv_at hl 1 rfl) ?_
    refine va_get (D := E.1) (ci := 12) (v := .ref a_packed) (C := R_M) (T := F_M) (N := 46) hx hb hts i_M hown hK hP 0 rfl rfl 15 (by decide) (hts _ tw_810) (fun _ h9 => h9) rfl d_M_writeBit_28 ?_
    refine lv_iload_n hx hb d_M_writeBit_31 rfl (lv_at hl 0 rfl) ?_
    obtain ⟨hi32, hm⟩ := mG_e hm
    refine va_bald hx hb hK hP 1 1 rfl rfl hi32 d_M_writeBit_32 ?_
    refine lv_iload_n hx hb d_M_writeBit_33 rfl (lv_at hl 2 rfl) ?_
    refine lv_aload_n hx hb d_M_writeBit_34 rfl (lv_at hl 1 rfl) ?_
    refine va_get (D := E.1) (ci := 12) (v := .int v_packedBits) (C := R_M) (T := F_M) (N := 46) hx hb hts i_M hown hK hP 0 rfl rfl 16 (by decide) (hts _ tw_811) (fun _ h9 => h9) rfl d_M_writeBit_35 ?_
    refine lv_bipush (v := 8) hx hb d_M_writeBit_38 (by decide) ?_
    refine lv_irem hx hb d_M_writeBit_40 (by decide) ?_
    refine lv_ishl hx hb d_M_writeBit_41 ?_
    refine lv_ior hx hb d_M_writeBit_42 ?_
    exact h_43 _ _ _ _ H locs ls hm hP hD hS (lv_sub hl [1] rfl)
  · replace hm := mC_t hm c20
    refine lv_iload_n hx hb d_M_writeBit_23 rfl (lv_at hl 2 rfl) ?_
    refine lv_goto (tgt := 43) hx hb d_M_writeBit_24 (by decide) ?_
    exact h_43 _ _ _ _ H locs ls hm hP hD hS (lv_sub hl [1] rfl)
theorem d_M_writeNumber_0 : decode b_M_writeNumber 0 = .ok (.iconst 0, 1) := by decide +kernel
theorem d_M_writeNumber_1 : decode b_M_writeNumber 1 = .ok (.istore_n 3, 1) := by decide +kernel
theorem d_M_writeNumber_2 : decode b_M_writeNumber 2 = .ok (.iload_n 3, 1) := by decide +kernel
theorem d_M_writeNumber_3 : decode b_M_writeNumber 3 = .ok (.iload_n 2, 1) := by decide +kernel
theorem d_M_writeNumber_4 : decode b_M_writeNumber 4 = .ok (.if_icmp .ge 18, 3) := by decide +kernel
theorem d_M_writeNumber_7 : decode b_M_writeNumber 7 = .ok (.aload_n 0, 1) := by decide +kernel
theorem d_M_writeNumber_8 : decode b_M_writeNumber 8 = .ok (.iload_n 1, 1) := by decide +kernel
theorem d_M_writeNumber_9 : decode b_M_writeNumber 9 = .ok (.iload_n 3, 1) := by decide +kernel
theorem d_M_writeNumber_10 : decode b_M_writeNumber 10 = .ok (.ishr, 1) := by decide +kernel
theorem d_M_writeNumber_11 : decode b_M_writeNumber 11 = .ok (.iconst 1, 1) := by decide +kernel
theorem d_M_writeNumber_12 : decode b_M_writeNumber 12 = .ok (.iand, 1) := by decide +kernel
theorem d_M_writeNumber_13 : decode b_M_writeNumber 13 = .ok (.invokevirtual 118, 3) := by decide +kernel
theorem d_M_writeNumber_16 : decode b_M_writeNumber 16 = .ok (.iinc 3 1, 3) := by decide +kernel
theorem d_M_writeNumber_19 : decode b_M_writeNumber 19 = .ok (.goto (-17), 3) := by decide +kernel
theorem d_M_writeNumber_22 : decode b_M_writeNumber 22 = .ok (.return_, 1) := by decide +kernel
def M_writeNumber_2 (F : Nat) (x1 : Int32) (x2 : Int32) (k_2 : Int32 → (Nat → Int32) → Int32 → Option (Unit × Int32 × (Nat → Int32))) (v_packedBits : Int32) (c_packed : Nat → Int32) (x3 : Int32) : Option (Unit × Int32 × (Nat → Int32)) :=
  mC (x2 ≤ x3) (some ((), v_packedBits, c_packed)) (mL ((x1 >>> (x3 &&& 31)) &&& 1) fun t_1 => mR2 (M_writeBit F v_packedBits c_packed t_1) fun _ v_packedBits_2 c_packed_3 => mL (x3 + 1) fun y3_5 => k_2 v_packedBits_2 c_packed_3 y3_5)
abbrev M_writeNumber_w (E : xE) (a_this : Nat) (a_packed : Nat) (x_row : Value) (x_starts : Value) (x_image : Value) (x_readRow : Value) (x_readStart : Value) (x_readAt : Value) (x_readMany : Value) (x_piece : Value) (x_pairBefore : Value) (x_pairLast : Value) (x_tokenLength : Value) (x_tokenValue : Value) (x_counts : Value) (x_lengths : Value) (x_fixed : Value) (x_ranked : Value) (x_weight : Value) (x_weightBefore : Value) (x_items : Value) (x_lengthRow : Value) (x_step : Value) (x_stepMore : Value) (x_codes : Value) (x_symbolTree : Value) (x_distanceTree : Value) (x_smallTree : Value) (x_readLengths : Value) (x_source : Value) (x_target : Value) (v_packedBits : Int32) (c_packed : Nat → Int32) (v_plain : Int32) (v_closed : Int32) (v_rowSize : Int32) (v_pieces : Int32) (v_imageSize : Int32) (v_readSize : Int32) (v_readPieces : Int32) (v_tokens : Int32) (v_steps : Int32) (v_sourceFrom : Int32) (v_sourceBits : Int32) (v_readBits : Int32) (v_wrong : Int32) (v_made : Int32) (v_room : Int32) : va_W := [(a_this, .inr (12, [.int v_plain, .int v_closed, .int v_rowSize, x_row, .int v_pieces, x_starts, .int v_imageSize, x_image, .int v_readSize, x_readRow, .int v_readPieces, x_readStart, x_readAt, x_readMany, x_piece, .ref a_packed, .int v_packedBits, x_pairBefore, x_pairLast, .int v_tokens, x_tokenLength, x_tokenValue, x_counts, x_lengths, x_fixed, x_ranked, x_weight, x_weightBefore, x_items, x_lengthRow, .int v_steps, x_step, x_stepMore, x_codes, x_symbolTree, x_distanceTree, x_smallTree, x_readLengths, x_source, .int v_sourceFrom, .int v_sourceBits, .int v_readBits, .int v_wrong, x_target, .int v_made, .int v_room])), (a_packed, .inl (E.2.2.1, 66000, .inl c_packed))]
def M_writeNumber (F : Nat) (v_packedBits : Int32) (c_packed : Nat → Int32) (x1 : Int32) (x2 : Int32) : Option (Unit × Int32 × (Nat → Int32)) :=
  (mW3 (M_writeNumber_2 F x1 x2) F) v_packedBits c_packed 0
abbrev M_writeNumber_rm : Room := { frames := 1, cells := 0, slots := 0, locals := 22 }
set_option maxHeartbeats 4000000 in
set_option maxRecDepth 100000 in
theorem c_M_writeNumber (l : Launch) (E : xE) (F sz : Nat) (a_this : Nat) (a_packed : Nat) (x_row : Value) (x_starts : Value) (x_image : Value) (x_readRow : Value) (x_readStart : Value) (x_readAt : Value) (x_readMany : Value) (x_piece : Value) (x_pairBefore : Value) (x_pairLast : Value) (x_tokenLength : Value) (x_tokenValue : Value) (x_counts : Value) (x_lengths : Value) (x_fixed : Value) (x_ranked : Value) (x_weight : Value) (x_weightBefore : Value) (x_items : Value) (x_lengthRow : Value) (x_step : Value) (x_stepMore : Value) (x_codes : Value) (x_symbolTree : Value) (x_distanceTree : Value) (x_smallTree : Value) (x_readLengths : Value) (x_source : Value) (x_target : Value) (v_packedBits : Int32) (c_packed : Nat → Int32) (v_plain : Int32) (v_closed : Int32) (v_rowSize : Int32) (v_pieces : Int32) (v_imageSize : Int32) (v_readSize : Int32) (v_readPieces : Int32) (v_tokens : Int32) (v_steps : Int32) (v_sourceFrom : Int32) (v_sourceBits : Int32) (v_readBits : Int32) (v_wrong : Int32) (v_made : Int32) (v_room : Int32) (x1 : Int32) (x2 : Int32) (res : Unit × Int32 × (Nat → Int32)) (hm : M_writeNumber F v_packedBits c_packed x1 x2 = some res) : Met l y_M_writeNumber (Cond.code y_M_writeNumber b_M_writeNumber 4 none :: x_tb) M_writeNumber_rm (va_Pc [.ref a_this, .int x1, .int x2] (xPre E (M_writeNumber_w E a_this a_packed x_row x_starts x_image x_readRow x_readStart x_readAt x_readMany x_piece x_pairBefore x_pairLast x_tokenLength x_tokenValue x_counts x_lengths x_fixed x_ranked x_weight x_weightBefore x_items x_lengthRow x_step x_stepMore x_codes x_symbolTree x_distanceTree x_smallTree x_readLengths x_source x_target v_packedBits c_packed v_plain v_closed v_rowSize v_pieces v_imageSize v_readSize v_readPieces v_tokens v_steps v_sourceFrom v_sourceBits v_readBits v_wrong v_made v_room) sz)) (xQv E (fun (u : Int32 × (Nat → Int32)) => u = res.2) (fun (u : Int32 × (Nat → Int32)) => (M_writeNumber_w E a_this a_packed x_row x_starts x_image x_readRow x_readStart x_readAt x_readMany x_piece x_pairBefore x_pairLast x_tokenLength x_tokenValue x_counts x_lengths x_fixed x_ranked x_weight x_weightBefore x_items x_lengthRow x_step x_stepMore x_codes x_symbolTree x_distanceTree x_smallTree x_readLengths x_source x_target u.1 u.2 v_plain v_closed v_rowSize v_pieces v_imageSize v_readSize v_readPieces v_tokens v_steps v_sourceFrom v_sourceBits v_readBits v_wrong v_made v_room)) (va_A (M_writeNumber_w E a_this a_packed x_row x_starts x_image x_readRow x_readStart x_readAt x_readMany x_piece x_pairBefore x_pairLast x_tokenLength x_tokenValue x_counts x_lengths x_fixed x_ranked x_weight x_weightBefore x_items x_lengthRow x_step x_stepMore x_codes x_symbolTree x_distanceTree x_smallTree x_readLengths x_source x_target v_packedBits c_packed v_plain v_closed v_rowSize v_pieces v_imageSize v_readSize v_readPieces v_tokens v_steps v_sourceFrom v_sourceBits v_readBits v_wrong v_made v_room) sz)) 0 0 (va_A (M_writeNumber_w E a_this a_packed x_row x_starts x_image x_readRow x_readStart x_readAt x_readMany x_piece x_pairBefore x_pairLast x_tokenLength x_tokenValue x_counts x_lengths x_fixed x_ranked x_weight x_weightBefore x_items x_lengthRow x_step x_stepMore x_codes x_symbolTree x_distanceTree x_smallTree x_readLengths x_source x_target v_packedBits c_packed v_plain v_closed v_rowSize v_pieces v_imageSize v_readSize v_readPieces v_tokens v_steps v_sourceFrom v_sourceBits v_readBits v_wrong v_made v_room) sz) := by
  refine xEnV (by decide) (Nat.le_of_ble_eq_true rfl) ?_
  intro p e s m args below meth c A ls Q hx hb hnm hts hown hml hK hA hI hN hret hP hD hS hl
  replace hown : s.vm.findClass R_M = some m.cls := hown
  replace hl : lv_has ls 4 [(0, .ref a_this), (1, .int x1), (2, .int x2)] := hl
  obtain ⟨H, eH⟩ : ∃ z, z = s.heap := ⟨_, rfl⟩
  obtain ⟨locs, eL⟩ : ∃ z : List Loc, z = [] := ⟨_, rfl⟩
  rw [show W p l e M_writeNumber_rm s m args below meth c s.heap [] 0 0 Q (F0 m 0 ls []) = W p l e M_writeNumber_rm s m args below meth c H locs 0 0 Q (F0 m 0 ls []) by rw [eH, eL]]
  replace hP : va_P E.1 vwCl (M_writeNumber_w E a_this a_packed x_row x_starts x_image x_readRow x_readStart x_readAt x_readMany x_piece x_pairBefore x_pairLast x_tokenLength x_tokenValue x_counts x_lengths x_fixed x_ranked x_weight x_weightBefore x_items x_lengthRow x_step x_stepMore x_codes x_symbolTree x_distanceTree x_smallTree x_readLengths x_source x_target v_packedBits c_packed v_plain v_closed v_rowSize v_pieces v_imageSize v_readSize v_readPieces v_tokens v_steps v_sourceFrom v_sourceBits v_readBits v_wrong v_made v_room) H := by rw [eH]; exact hP
  replace hS : va_S A s.heap H locs := by rw [eH, eL]; exact hS
  clear eH eL
  rw [M_writeNumber] at hm
  have h_2 : ∀ (n_2 : Nat) (v_packedBits : Int32) (c_packed : Nat → Int32) (x3 : Int32) (H : Heap) (locs : List Loc) (ls : Array Slot), (mW3 (M_writeNumber_2 F x1 x2) n_2) v_packedBits c_packed x3 = some res → va_P E.1 vwCl (M_writeNumber_w E a_this a_packed x_row x_starts x_image x_readRow x_readStart x_readAt x_readMany x_piece x_pairBefore x_pairLast x_tokenLength x_tokenValue x_counts x_lengths x_fixed x_ranked x_weight x_weightBefore x_items x_lengthRow x_step x_stepMore x_codes x_symbolTree x_distanceTree x_smallTree x_readLengths x_source x_target v_packedBits c_packed v_plain v_closed v_rowSize v_pieces v_imageSize v_readSize v_readPieces v_tokens v_steps v_sourceFrom v_sourceBits v_readBits v_wrong v_made v_room) H → va_D A (M_writeNumber_w E a_this a_packed x_row x_starts x_image x_readRow x_readStart x_readAt x_readMany x_piece x_pairBefore x_pairLast x_tokenLength x_tokenValue x_counts x_lengths x_fixed x_ranked x_weight x_weightBefore x_items x_lengthRow x_step x_stepMore x_codes x_symbolTree x_distanceTree x_smallTree x_readLengths x_source x_target v_packedBits c_packed v_plain v_closed v_rowSize v_pieces v_imageSize v_readSize v_readPieces v_tokens v_steps v_sourceFrom v_sourceBits v_readBits v_wrong v_made v_room) → va_S A s.heap H locs → lv_has ls 4 [(0, .ref a_this), (1, .int x1), (2, .int x2), (3, .int x3)] → W p l e M_writeNumber_rm s m args below meth c H locs 0 0 Q (F0 m 2 ls []) := by
    intro n_2
    induction n_2 with
    | zero => exact fun _ _ _ _ _ _ hm _ _ _ _ => (mW3_z hm).elim
    | succ n_2 ih_2 =>
      intro v_packedBits c_packed x3 H locs ls hm hP hD hS hl
      replace hm := mW3_s hm
      rw [M_writeNumber_2] at hm
      refine lv_iload_n hx hb d_M_writeNumber_2 rfl (lv_at hl 3 rfl) ?_
      refine lv_iload_n hx hb d_M_writeNumber_3 rfl (lv_at hl 2 rfl) ?_
      refine lv_icmp_ge (tgt := 22) hx hb d_M_writeNumber_4 (by decide) (fun c4 => ?_) (fun c4 => ?_)
      · replace hm := mC_t hm c4
        replace hm := Option.some.inj hm
        subst hm
        exact hret d_M_writeNumber_22 (u := (v_packedBits, c_packed)) rfl hP hD hS
      · replace hm := mC_f hm c4
        refine lv_aload_n hx hb d_M_writeNumber_7 rfl (lv_at hl 0 rfl) ?_
        refine lv_iload_n hx hb d_M_writeNumber_8 rfl (lv_at hl 1 rfl) ?_
        refine lv_iload_n hx hb d_M_writeNumber_9 rfl (lv_at hl 3 rfl) ?_
        refine lv_ishr hx hb d_M_writeNumber_10 ?_
        refine lv_iconst (v := 1) hx hb d_M_writeNumber_11 (by decide) ?_
        refine lv_iand hx hb d_M_writeNumber_12 ?_
        obtain ⟨t_1, et_1⟩ : ∃ z : Int32, z = (x1 >>> (x3 &&& 31)) &&& 1 := ⟨_, rfl⟩
        rw [← et_1]
        replace hm := mL_e hm t_1 et_1
        obtain ⟨r_4, v_packedBits_2, c_packed_3, hc13, hm⟩ := mR2_e hm
        refine xmv (wc := (M_writeBit_w E a_this a_packed x_row x_starts x_image x_readRow x_readStart x_readAt x_readMany x_piece x_pairBefore x_pairLast x_tokenLength x_tokenValue x_counts x_lengths x_fixed x_ranked x_weight x_weightBefore x_items x_lengthRow x_step x_stepMore x_codes x_symbolTree x_distanceTree x_smallTree x_readLengths x_source x_target v_packedBits c_packed v_plain v_closed v_rowSize v_pieces v_imageSize v_readSize v_readPieces v_tokens v_steps v_sourceFrom v_sourceBits v_readBits v_wrong v_made v_room)) [true, true] [0, 1] [0, 1] hP hD hS hA rfl (by decide) (by decide) 2 (by decide) (fun _ => rfl) (fun hPc hDc hFc => va_runV (As := [.int t_1]) (rest := []) ⟨hx, hb, hml, hown, hts⟩ (c_M_writeBit l E F H.size a_this a_packed x_row x_starts x_image x_readRow x_readStart x_readAt x_readMany x_piece x_pairBefore x_pairLast x_tokenLength x_tokenValue x_counts x_lengths x_fixed x_ranked x_weight x_weightBefore x_items x_lengthRow x_step x_stepMore x_codes x_symbolTree x_distanceTree x_smallTree x_readLengths x_source x_target v_packedBits c_packed v_plain v_closed v_rowSize v_pieces v_imageSize v_readSize v_readPieces v_tokens v_steps v_sourceFrom v_sourceBits v_readBits v_wrong v_made v_room t_1 (r_4, v_packedBits_2, c_packed_3) hc13) (cwV 1 hts (x_gV tw_962 tw_964 tw_35 tw_79 tw_965) rfl rfl rfl (by decide +kernel) ⟨Nat.le_of_ble_eq_true rfl, Nat.le_of_ble_eq_true rfl⟩) (xPV 12 0 rfl rfl hPc hDc hFc hK hI hN hS) rfl rfl hl.1 rfl (lv_room (Nat.le_of_ble_eq_true rfl)) d_M_writeNumber_13 ⟨Nat.le_of_ble_eq_true rfl, Nat.le_of_ble_eq_true rfl⟩) (fun u9 H locs hw hP hD hS => ?_)
        have hw2 : (v_packedBits_2, c_packed_3) = u9 := hw.symm
        subst hw2
        replace hP : va_P E.1 vwCl (M_writeNumber_w E a_this a_packed x_row x_starts x_image x_readRow x_readStart x_readAt x_readMany x_piece x_pairBefore x_pairLast x_tokenLength x_tokenValue x_counts x_lengths x_fixed x_ranked x_weight x_weightBefore x_items x_lengthRow x_step x_stepMore x_codes x_symbolTree x_distanceTree x_smallTree x_readLengths x_source x_target v_packedBits_2 c_packed_3 v_plain v_closed v_rowSize v_pieces v_imageSize v_readSize v_readPieces v_tokens v_steps v_sourceFrom v_sourceBits v_readBits v_wrong v_made v_room) H := hP
        replace hD : va_D A (M_writeNumber_w E a_this a_packed x_row x_starts x_image x_readRow x_readStart x_readAt x_readMany x_piece x_pairBefore x_pairLast x_tokenLength x_tokenValue x_counts x_lengths x_fixed x_ranked x_weight x_weightBefore x_items x_lengthRow x_step x_stepMore x_codes x_symbolTree x_distanceTree x_smallTree x_readLengths x_source x_target v_packedBits_2 c_packed_3 v_plain v_closed v_rowSize v_pieces v_imageSize v_readSize v_readPieces v_tokens v_steps v_sourceFrom v_sourceBits v_readBits v_wrong v_made v_room) := hD
        obtain ⟨y3_5, ey3_5⟩ : ∃ y : Int32, y = x3 + 1 := ⟨_, rfl⟩
        replace hm := mL_e hm y3_5 ey3_5
        refine lv_iinc (v := y3_5) (lv' := [(3, .int y3_5), (0, .ref a_this), (1, .int x1), (2, .int x2)]) hx hb d_M_writeNumber_16 hl (k := 3) rfl (by rw [ey3_5]; rfl) (by decide) rfl (fun ls hl => ?_)
        refine lv_goto (tgt := 2) hx hb d_M_writeNumber_19 (by decide) ?_
        exact ih_2 _ _ _ H locs ls hm hP hD hS (lv_sub hl [1, 2, 3, 0] rfl)
  refine lv_iconst (v := 0) hx hb d_M_writeNumber_0 (by decide) ?_
  refine lv_istore_n (lv' := [(3, .int 0), (0, .ref a_this), (1, .int x1), (2, .int x2)]) hx hb d_M_writeNumber_1 rfl hl (by decide) rfl (fun ls hl => ?_)
  exact h_2 F _ _ _ H locs ls hm hP hD hS (lv_sub hl [1, 2, 3, 0] rfl)
theorem d_M_makeCodes_0 : decode b_M_makeCodes 0 = .ok (.iconst 0, 1) := by decide +kernel
theorem d_M_makeCodes_1 : decode b_M_makeCodes 1 = .ok (.istore 4, 2) := by decide +kernel
theorem d_M_makeCodes_3 : decode b_M_makeCodes 3 = .ok (.iload 4, 2) := by decide +kernel
theorem d_M_makeCodes_5 : decode b_M_makeCodes 5 = .ok (.iload_n 3, 1) := by decide +kernel
theorem d_M_makeCodes_6 : decode b_M_makeCodes 6 = .ok (.if_icmp .ge 39, 3) := by decide +kernel
theorem d_M_makeCodes_9 : decode b_M_makeCodes 9 = .ok (.aload_n 0, 1) := by decide +kernel
theorem d_M_makeCodes_10 : decode b_M_makeCodes 10 = .ok (.getfield 82, 3) := by decide +kernel
theorem d_M_makeCodes_13 : decode b_M_makeCodes 13 = .ok (.iload_n 2, 1) := by decide +kernel
theorem d_M_makeCodes_14 : decode b_M_makeCodes 14 = .ok (.iload 4, 2) := by decide +kernel
theorem d_M_makeCodes_16 : decode b_M_makeCodes 16 = .ok (.iadd, 1) := by decide +kernel
theorem d_M_makeCodes_17 : decode b_M_makeCodes 17 = .ok (.aload_n 1, 1) := by decide +kernel
theorem d_M_makeCodes_18 : decode b_M_makeCodes 18 = .ok (.iload_n 2, 1) := by decide +kernel
theorem d_M_makeCodes_19 : decode b_M_makeCodes 19 = .ok (.iload 4, 2) := by decide +kernel
theorem d_M_makeCodes_21 : decode b_M_makeCodes 21 = .ok (.iadd, 1) := by decide +kernel
theorem d_M_makeCodes_22 : decode b_M_makeCodes 22 = .ok (.iaload, 1) := by decide +kernel
theorem d_M_makeCodes_23 : decode b_M_makeCodes 23 = .ok (.ifCond .le 14, 3) := by decide +kernel
theorem d_M_makeCodes_26 : decode b_M_makeCodes 26 = .ok (.aload_n 1, 1) := by decide +kernel
theorem d_M_makeCodes_27 : decode b_M_makeCodes 27 = .ok (.iload_n 2, 1) := by decide +kernel
theorem d_M_makeCodes_28 : decode b_M_makeCodes 28 = .ok (.iload_n 3, 1) := by decide +kernel
theorem d_M_makeCodes_29 : decode b_M_makeCodes 29 = .ok (.iload 4, 2) := by decide +kernel
theorem d_M_makeCodes_31 : decode b_M_makeCodes 31 = .ok (.invokestatic 122, 3) := by decide +kernel
theorem d_M_makeCodes_34 : decode b_M_makeCodes 34 = .ok (.goto 4, 3) := by decide +kernel
theorem d_M_makeCodes_37 : decode b_M_makeCodes 37 = .ok (.iconst 0, 1) := by decide +kernel
theorem d_M_makeCodes_38 : decode b_M_makeCodes 38 = .ok (.iastore, 1) := by decide +kernel
theorem d_M_makeCodes_39 : decode b_M_makeCodes 39 = .ok (.iinc 4 1, 3) := by decide +kernel
theorem d_M_makeCodes_42 : decode b_M_makeCodes 42 = .ok (.goto (-39), 3) := by decide +kernel
theorem d_M_makeCodes_45 : decode b_M_makeCodes 45 = .ok (.return_, 1) := by decide +kernel
def M_makeCodes_38 (F : Nat) (k_3 : (Nat → Int32) → Int32 → Option (Unit × (Nat → Int32))) (c_codes : Nat → Int32) (x4 : Int32) (s1 : Int32) (s2 : Int32) : Option (Unit × (Nat → Int32)) :=
  mG s1 339 (mL (upd c_codes s1.toNatClampNeg s2) fun c_1 => mL (x4 + 1) fun y4_2 => k_3 c_1 y4_2)
def M_makeCodes_3 (F : Nat) (n_p1 : Nat) (c_p1 : Nat → Int32) (x2 : Int32) (x3 : Int32) (k_3 : (Nat → Int32) → Int32 → Option (Unit × (Nat → Int32))) (c_codes : Nat → Int32) (x4 : Int32) : Option (Unit × (Nat → Int32)) :=
  mC (x3 ≤ x4) (some ((), c_codes)) (mL (x2 + x4) fun i_3 => mG i_3 n_p1 (mC ((c_p1 i_3.toNatClampNeg) ≤ 0) ((M_makeCodes_38 F k_3) c_codes x4 (x2 + x4) 0) (mR0 (M_codeOf F n_p1 c_p1 x2 x3 x4) fun r_4 => (M_makeCodes_38 F k_3) c_codes x4 (x2 + x4) r_4)))
abbrev M_makeCodes_w (E : xE) (a_this : Nat) (a_p1 : Nat) (a_codes : Nat) (n_p1 : Nat) (x_row : Value) (x_starts : Value) (x_image : Value) (x_readRow : Value) (x_readStart : Value) (x_readAt : Value) (x_readMany : Value) (x_piece : Value) (x_packed : Value) (x_pairBefore : Value) (x_pairLast : Value) (x_tokenLength : Value) (x_tokenValue : Value) (x_counts : Value) (x_lengths : Value) (x_fixed : Value) (x_ranked : Value) (x_weight : Value) (x_weightBefore : Value) (x_items : Value) (x_lengthRow : Value) (x_step : Value) (x_stepMore : Value) (x_symbolTree : Value) (x_distanceTree : Value) (x_smallTree : Value) (x_readLengths : Value) (x_source : Value) (x_target : Value) (c_p1 : Nat → Int32) (c_codes : Nat → Int32) (v_plain : Int32) (v_closed : Int32) (v_rowSize : Int32) (v_pieces : Int32) (v_imageSize : Int32) (v_readSize : Int32) (v_readPieces : Int32) (v_packedBits : Int32) (v_tokens : Int32) (v_steps : Int32) (v_sourceFrom : Int32) (v_sourceBits : Int32) (v_readBits : Int32) (v_wrong : Int32) (v_made : Int32) (v_room : Int32) : va_W := [(a_this, .inr (12, [.int v_plain, .int v_closed, .int v_rowSize, x_row, .int v_pieces, x_starts, .int v_imageSize, x_image, .int v_readSize, x_readRow, .int v_readPieces, x_readStart, x_readAt, x_readMany, x_piece, x_packed, .int v_packedBits, x_pairBefore, x_pairLast, .int v_tokens, x_tokenLength, x_tokenValue, x_counts, x_lengths, x_fixed, x_ranked, x_weight, x_weightBefore, x_items, x_lengthRow, .int v_steps, x_step, x_stepMore, .ref a_codes, x_symbolTree, x_distanceTree, x_smallTree, x_readLengths, x_source, .int v_sourceFrom, .int v_sourceBits, .int v_readBits, .int v_wrong, x_target, .int v_made, .int v_room])), (a_p1, .inl (E.2.1, n_p1, .inl c_p1)), (a_codes, .inl (E.2.1, 339, .inl c_codes))]
def M_makeCodes (F : Nat) (n_p1 : Nat) (c_p1 : Nat → Int32) (c_codes : Nat → Int32) (x2 : Int32) (x3 : Int32) : Option (Unit × (Nat → Int32)) :=
  (mW2 (M_makeCodes_3 F n_p1 c_p1 x2 x3) F) c_codes 0
abbrev M_makeCodes_rm : Room := { frames := 1, cells := 0, slots := 0, locals := 27 }
set_option maxHeartbeats 4000000 in
set_option maxRecDepth 100000 in
theorem c_M_makeCodes (l : Launch) (E : xE) (F sz : Nat) (a_this : Nat) (a_p1 : Nat) (a_codes : Nat) (n_p1 : Nat) (x_row : Value) (x_starts : Value) (x_image : Value) (x_readRow : Value) (x_readStart : Value) (x_readAt : Value) (x_readMany : Value) (x_piece : Value) (x_packed : Value) (x_pairBefore : Value) (x_pairLast : Value) (x_tokenLength : Value) (x_tokenValue : Value) (x_counts : Value) (x_lengths : Value) (x_fixed : Value) (x_ranked : Value) (x_weight : Value) (x_weightBefore : Value) (x_items : Value) (x_lengthRow : Value) (x_step : Value) (x_stepMore : Value) (x_symbolTree : Value) (x_distanceTree : Value) (x_smallTree : Value) (x_readLengths : Value) (x_source : Value) (x_target : Value) (c_p1 : Nat → Int32) (c_codes : Nat → Int32) (v_plain : Int32) (v_closed : Int32) (v_rowSize : Int32) (v_pieces : Int32) (v_imageSize : Int32) (v_readSize : Int32) (v_readPieces : Int32) (v_packedBits : Int32) (v_tokens : Int32) (v_steps : Int32) (v_sourceFrom : Int32) (v_sourceBits : Int32) (v_readBits : Int32) (v_wrong : Int32) (v_made : Int32) (v_room : Int32) (x2 : Int32) (x3 : Int32) (res : Unit × (Nat → Int32)) (hm : M_makeCodes F n_p1 c_p1 c_codes x2 x3 = some res) : Met l y_M_makeCodes (Cond.code y_M_makeCodes b_M_makeCodes 5 none :: x_tb) M_makeCodes_rm (va_Pc [.ref a_this, .ref a_p1, .int x2, .int x3] (xPre E (M_makeCodes_w E a_this a_p1 a_codes n_p1 x_row x_starts x_image x_readRow x_readStart x_readAt x_readMany x_piece x_packed x_pairBefore x_pairLast x_tokenLength x_tokenValue x_counts x_lengths x_fixed x_ranked x_weight x_weightBefore x_items x_lengthRow x_step x_stepMore x_symbolTree x_distanceTree x_smallTree x_readLengths x_source x_target c_p1 c_codes v_plain v_closed v_rowSize v_pieces v_imageSize v_readSize v_readPieces v_packedBits v_tokens v_steps v_sourceFrom v_sourceBits v_readBits v_wrong v_made v_room) sz)) (xQv E (fun (u : (Nat → Int32)) => u = res.2) (fun (u : (Nat → Int32)) => (M_makeCodes_w E a_this a_p1 a_codes n_p1 x_row x_starts x_image x_readRow x_readStart x_readAt x_readMany x_piece x_packed x_pairBefore x_pairLast x_tokenLength x_tokenValue x_counts x_lengths x_fixed x_ranked x_weight x_weightBefore x_items x_lengthRow x_step x_stepMore x_symbolTree x_distanceTree x_smallTree x_readLengths x_source x_target c_p1 u v_plain v_closed v_rowSize v_pieces v_imageSize v_readSize v_readPieces v_packedBits v_tokens v_steps v_sourceFrom v_sourceBits v_readBits v_wrong v_made v_room)) (va_A (M_makeCodes_w E a_this a_p1 a_codes n_p1 x_row x_starts x_image x_readRow x_readStart x_readAt x_readMany x_piece x_packed x_pairBefore x_pairLast x_tokenLength x_tokenValue x_counts x_lengths x_fixed x_ranked x_weight x_weightBefore x_items x_lengthRow x_step x_stepMore x_symbolTree x_distanceTree x_smallTree x_readLengths x_source x_target c_p1 c_codes v_plain v_closed v_rowSize v_pieces v_imageSize v_readSize v_readPieces v_packedBits v_tokens v_steps v_sourceFrom v_sourceBits v_readBits v_wrong v_made v_room) sz)) 0 0 (va_A (M_makeCodes_w E a_this a_p1 a_codes n_p1 x_row x_starts x_image x_readRow x_readStart x_readAt x_readMany x_piece x_packed x_pairBefore x_pairLast x_tokenLength x_tokenValue x_counts x_lengths x_fixed x_ranked x_weight x_weightBefore x_items x_lengthRow x_step x_stepMore x_symbolTree x_distanceTree x_smallTree x_readLengths x_source x_target c_p1 c_codes v_plain v_closed v_rowSize v_pieces v_imageSize v_readSize v_readPieces v_packedBits v_tokens v_steps v_sourceFrom v_sourceBits v_readBits v_wrong v_made v_room) sz) := by
  refine xEnV (by decide) (Nat.le_of_ble_eq_true rfl) ?_
  intro p e s m args below meth c A ls Q hx hb hnm hts hown hml hK hA hI hN hret hP hD hS hl
  replace hown : s.vm.findClass R_M = some m.cls := hown
  replace hl : lv_has ls 5 [(0, .ref a_this), (1, .ref a_p1), (2, .int x2), (3, .int x3)] := hl
  obtain ⟨H, eH⟩ : ∃ z, z = s.heap := ⟨_, rfl⟩
  obtain ⟨locs, eL⟩ : ∃ z : List Loc, z = [] := ⟨_, rfl⟩
  rw [show W p l e M_makeCodes_rm s m args below meth c s.heap [] 0 0 Q (F0 m 0 ls []) = W p l e M_makeCodes_rm s m args below meth c H locs 0 0 Q (F0 m 0 ls []) by rw [eH, eL]]
  replace hP : va_P E.1 vwCl (M_makeCodes_w E a_this a_p1 a_codes n_p1 x_row x_starts x_image x_readRow x_readStart x_readAt x_readMany x_piece x_packed x_pairBefore x_pairLast x_tokenLength x_tokenValue x_counts x_lengths x_fixed x_ranked x_weight x_weightBefore x_items x_lengthRow x_step x_stepMore x_symbolTree x_distanceTree x_smallTree x_readLengths x_source x_target c_p1 c_codes v_plain v_closed v_rowSize v_pieces v_imageSize v_readSize v_readPieces v_packedBits v_tokens v_steps v_sourceFrom v_sourceBits v_readBits v_wrong v_made v_room) H := by rw [eH]; exact hP
  replace hS : va_S A s.heap H locs := by rw [eH, eL]; exact hS
  clear eH eL
  rw [M_makeCodes] at hm
  have h_3 : ∀ (n_3 : Nat) (c_codes : Nat → Int32) (x4 : Int32) (H : Heap) (locs : List Loc) (ls : Array Slot), (mW2 (M_makeCodes_3 F n_p1 c_p1 x2 x3) n_3) c_codes x4 = some res → va_P E.1 vwCl (M_makeCodes_w E a_this a_p1 a_codes n_p1 x_row x_starts x_image x_readRow x_readStart x_readAt x_readMany x_piece x_packed x_pairBefore x_pairLast x_tokenLength x_tokenValue x_counts x_lengths x_fixed x_ranked x_weight x_weightBefore x_items x_lengthRow x_step x_stepMore x_symbolTree x_distanceTree x_smallTree x_readLengths x_source x_target c_p1 c_codes v_plain v_closed v_rowSize v_pieces v_imageSize v_readSize v_readPieces v_packedBits v_tokens v_steps v_sourceFrom v_sourceBits v_readBits v_wrong v_made v_room) H → va_D A (M_makeCodes_w E a_this a_p1 a_codes n_p1 x_row x_starts x_image x_readRow x_readStart x_readAt x_readMany x_piece x_packed x_pairBefore x_pairLast x_tokenLength x_tokenValue x_counts x_lengths x_fixed x_ranked x_weight x_weightBefore x_items x_lengthRow x_step x_stepMore x_symbolTree x_distanceTree x_smallTree x_readLengths x_source x_target c_p1 c_codes v_plain v_closed v_rowSize v_pieces v_imageSize v_readSize v_readPieces v_packedBits v_tokens v_steps v_sourceFrom v_sourceBits v_readBits v_wrong v_made v_room) → va_S A s.heap H locs → lv_has ls 5 [(0, .ref a_this), (1, .ref a_p1), (2, .int x2), (3, .int x3), (4, .int x4)] → W p l e M_makeCodes_rm s m args below meth c H locs 0 0 Q (F0 m 3 ls []) := by
    intro n_3
    induction n_3 with
    | zero => exact fun _ _ _ _ _ hm _ _ _ _ => (mW2_z hm).elim
    | succ n_3 ih_3 =>
      intro c_codes x4 H locs ls hm hP hD hS hl
      replace hm := mW2_s hm
      rw [M_makeCodes_3] at hm
      refine lv_iload hx hb d_M_makeCodes_3 (lv_at hl 4 rfl) ?_
      refine lv_iload_n hx hb d_M_makeCodes_5 rfl (lv_at hl 3 rfl) ?_
      refine lv_icmp_ge (tgt := 45) hx hb d_M_makeCodes_6 (by decide) (fun c6 => ?_) (fun c6 => ?_)
      · replace hm := mC_t hm c6
        replace hm := Option.some.inj hm
        subst hm
        exact hret d_M_makeCodes_45 (u := c_codes) rfl hP hD hS
      · replace hm := mC_f hm c6
        have h_38 : ∀ (c_codes : Nat → Int32) (x4 : Int32) (s1 : Int32) (s2 : Int32) (H : Heap) (locs : List Loc) (ls : Array Slot), (M_makeCodes_38 F (mW2 (M_makeCodes_3 F n_p1 c_p1 x2 x3) n_3)) c_codes x4 s1 s2 = some res → va_P E.1 vwCl (M_makeCodes_w E a_this a_p1 a_codes n_p1 x_row x_starts x_image x_readRow x_readStart x_readAt x_readMany x_piece x_packed x_pairBefore x_pairLast x_tokenLength x_tokenValue x_counts x_lengths x_fixed x_ranked x_weight x_weightBefore x_items x_lengthRow x_step x_stepMore x_symbolTree x_distanceTree x_smallTree x_readLengths x_source x_target c_p1 c_codes v_plain v_closed v_rowSize v_pieces v_imageSize v_readSize v_readPieces v_packedBits v_tokens v_steps v_sourceFrom v_sourceBits v_readBits v_wrong v_made v_room) H → va_D A (M_makeCodes_w E a_this a_p1 a_codes n_p1 x_row x_starts x_image x_readRow x_readStart x_readAt x_readMany x_piece x_packed x_pairBefore x_pairLast x_tokenLength x_tokenValue x_counts x_lengths x_fixed x_ranked x_weight x_weightBefore x_items x_lengthRow x_step x_stepMore x_symbolTree x_distanceTree x_smallTree x_readLengths x_source x_target c_p1 c_codes v_plain v_closed v_rowSize v_pieces v_imageSize v_readSize v_readPieces v_packedBits v_tokens v_steps v_sourceFrom v_sourceBits v_readBits v_wrong v_made v_room) → va_S A s.heap H locs → lv_has ls 5 [(0, .ref a_this), (1, .ref a_p1), (2, .int x2), (3, .int x3), (4, .int x4)] → W p l e M_makeCodes_rm s m args below meth c H locs 0 0 Q (F0 m 38 ls [.int s2, .int s1, .ref a_codes]) := by
          intro c_codes x4 s1 s2 H locs ls hm hP hD hS hl
          rw [M_makeCodes_38] at hm
          obtain ⟨hi38, hm⟩ := mG_e hm
          obtain ⟨c_1, ec_1⟩ : ∃ z : Nat → Int32, z = upd c_codes s1.toNatClampNeg s2 := ⟨_, rfl⟩
          replace hm := mL_e hm c_1 ec_1
          refine va_iast hx hb hK hP hD hS 2 0 rfl rfl hi38 d_M_makeCodes_38 (fun H locs hP hD hS => ?_)
          rw [← ec_1] at hP hD
          replace hP : va_P E.1 vwCl (M_makeCodes_w E a_this a_p1 a_codes n_p1 x_row x_starts x_image x_readRow x_readStart x_readAt x_readMany x_piece x_packed x_pairBefore x_pairLast x_tokenLength x_tokenValue x_counts x_lengths x_fixed x_ranked x_weight x_weightBefore x_items x_lengthRow x_step x_stepMore x_symbolTree x_distanceTree x_smallTree x_readLengths x_source x_target c_p1 c_1 v_plain v_closed v_rowSize v_pieces v_imageSize v_readSize v_readPieces v_packedBits v_tokens v_steps v_sourceFrom v_sourceBits v_readBits v_wrong v_made v_room) H := hP
          replace hD : va_D A (M_makeCodes_w E a_this a_p1 a_codes n_p1 x_row x_starts x_image x_readRow x_readStart x_readAt x_readMany x_piece x_packed x_pairBefore x_pairLast x_tokenLength x_tokenValue x_counts x_lengths x_fixed x_ranked x_weight x_weightBefore x_items x_lengthRow x_step x_stepMore x_symbolTree x_distanceTree x_smallTree x_readLengths x_source x_target c_p1 c_1 v_plain v_closed v_rowSize v_pieces v_imageSize v_readSize v_readPieces v_packedBits v_tokens v_steps v_sourceFrom v_sourceBits v_readBits v_wrong v_made v_room) := hD
          obtain ⟨y4_2, ey4_2⟩ : ∃ y : Int32, y = x4 + 1 := ⟨_, rfl⟩
          replace hm := mL_e hm y4_2 ey4_2
          refine lv_iinc (v := y4_2) (lv' := [(4, .int y4_2), (0, .ref a_this), (1, .ref a_p1), (2, .int x2), (3, .int x3)]) hx hb d_M_makeCodes_39 hl (k := 4) rfl (by rw [ey4_2]; rfl) (by decide) rfl (fun ls hl => ?_)
          refine lv_goto (tgt := 3) hx hb d_M_makeCodes_42 (by decide) ?_
          exact ih_3 _ _ H locs ls hm hP hD hS (lv_sub hl [1, 2, 3, 4, 0] rfl)
        refine lv_aload_n hx hb d_M_makeCodes_9 rfl (lv_at hl 0 rfl) ?_
        refine va_get (D := E.1) (ci := 12) (v := .ref a_codes) (C := R_M) (T := F_M) (N := 46) hx hb hts i_M hown hK hP 0 rfl rfl 33 (by decide) (hts _ tw_828) (fun _ h9 => h9) rfl d_M_makeCodes_10 ?_
        refine lv_iload_n hx hb d_M_makeCodes_13 rfl (lv_at hl 2 rfl) ?_
        refine lv_iload hx hb d_M_makeCodes_14 (lv_at hl 4 rfl) ?_
        refine lv_iadd hx hb d_M_makeCodes_16 ?_
        refine lv_aload_n hx hb d_M_makeCodes_17 rfl (lv_at hl 1 rfl) ?_
        refine lv_iload_n hx hb d_M_makeCodes_18 rfl (lv_at hl 2 rfl) ?_
        refine lv_iload hx hb d_M_makeCodes_19 (lv_at hl 4 rfl) ?_
        refine lv_iadd hx hb d_M_makeCodes_21 ?_
        refine lv_topi (fun i_3 ei_3 => ?_)
        replace hm := mL_e hm i_3 ei_3
        obtain ⟨hi22, hm⟩ := mG_e hm
        refine va_iald hx hb hK hP 1 0 rfl rfl hi22 d_M_makeCodes_22 ?_
        refine lv_if_le (tgt := 37) hx hb d_M_makeCodes_23 (by decide) (fun c23 => ?_) (fun c23 => ?_)
        · replace hm := mC_t hm c23
          refine lv_iconst (v := 0) hx hb d_M_makeCodes_37 (by decide) ?_
          exact h_38 _ _ _ _ H locs ls hm hP hD hS hl
        · replace hm := mC_f hm c23
          refine lv_aload_n hx hb d_M_makeCodes_26 rfl (lv_at hl 1 rfl) ?_
          refine lv_iload_n hx hb d_M_makeCodes_27 rfl (lv_at hl 2 rfl) ?_
          refine lv_iload_n hx hb d_M_makeCodes_28 rfl (lv_at hl 3 rfl) ?_
          refine lv_iload hx hb d_M_makeCodes_29 (lv_at hl 4 rfl) ?_
          obtain ⟨r_4, hc31, hm⟩ := mR0_e hm
          refine xmi (wc := (M_codeOf_w E a_p1 n_p1 c_p1)) [false, true, false] [0] [0] hP hD hS hA rfl (by decide) (by decide) 1 (by decide) (fun _ => rfl) (fun hPc hDc hFc => va_runS (As := [.ref a_p1, .int x2, .int x3, .int x4]) (rest := [.int (x2 + x4), .ref a_codes]) ⟨hx, hb, hml, hown, hts⟩ (c_M_codeOf l E F H.size a_p1 n_p1 c_p1 x2 x3 x4 (r_4, ()) hc31) (va_cwS 4 hts (x_gS tw_1048 tw_1049 tw_79 tw_1050) rfl rfl rfl (by decide +kernel) ⟨Nat.le_of_ble_eq_true rfl, Nat.le_of_ble_eq_true rfl⟩) (xPS hPc hDc hFc hK hI hN hS) rfl rfl hl.1 rfl (lv_room (Nat.le_of_ble_eq_true rfl)) d_M_makeCodes_31 ⟨Nat.le_of_ble_eq_true rfl, Nat.le_of_ble_eq_true rfl⟩) (fun r9 u9 H locs hw hP hD hS => ?_)
          have hw1 : r_4 = r9 := hw.1.symm
          subst hw1
          replace hP : va_P E.1 vwCl (M_makeCodes_w E a_this a_p1 a_codes n_p1 x_row x_starts x_image x_readRow x_readStart x_readAt x_readMany x_piece x_packed x_pairBefore x_pairLast x_tokenLength x_tokenValue x_counts x_lengths x_fixed x_ranked x_weight x_weightBefore x_items x_lengthRow x_step x_stepMore x_symbolTree x_distanceTree x_smallTree x_readLengths x_source x_target c_p1 c_codes v_plain v_closed v_rowSize v_pieces v_imageSize v_readSize v_readPieces v_packedBits v_tokens v_steps v_sourceFrom v_sourceBits v_readBits v_wrong v_made v_room) H := hP
          replace hD : va_D A (M_makeCodes_w E a_this a_p1 a_codes n_p1 x_row x_starts x_image x_readRow x_readStart x_readAt x_readMany x_piece x_packed x_pairBefore x_pairLast x_tokenLength x_tokenValue x_counts x_lengths x_fixed x_ranked x_weight x_weightBefore x_items x_lengthRow x_step x_stepMore x_symbolTree x_distanceTree x_smallTree x_readLengths x_source x_target c_p1 c_codes v_plain v_closed v_rowSize v_pieces v_imageSize v_readSize v_readPieces v_packedBits v_tokens v_steps v_sourceFrom v_sourceBits v_readBits v_wrong v_made v_room) := hD
          refine lv_goto (tgt := 38) hx hb d_M_makeCodes_34 (by decide) ?_
          exact h_38 _ _ _ _ H locs ls hm hP hD hS hl
  refine lv_iconst (v := 0) hx hb d_M_makeCodes_0 (by decide) ?_
  refine lv_istore (lv' := [(4, .int 0), (0, .ref a_this), (1, .ref a_p1), (2, .int x2), (3, .int x3)]) hx hb d_M_makeCodes_1 hl (by decide) rfl (fun ls hl => ?_)
  exact h_3 F _ _ H locs ls hm hP hD hS (lv_sub hl [1, 2, 3, 4, 0] rfl)
theorem d_M_writeCode_0 : decode b_M_writeCode 0 = .ok (.aload_n 1, 1) := by decide +kernel
theorem d_M_writeCode_1 : decode b_M_writeCode 1 = .ok (.iload_n 2, 1) := by decide +kernel
theorem d_M_writeCode_2 : decode b_M_writeCode 2 = .ok (.iaload, 1) := by decide +kernel
theorem d_M_writeCode_3 : decode b_M_writeCode 3 = .ok (.iconst 1, 1) := by decide +kernel
theorem d_M_writeCode_4 : decode b_M_writeCode 4 = .ok (.isub, 1) := by decide +kernel
theorem d_M_writeCode_5 : decode b_M_writeCode 5 = .ok (.istore_n 3, 1) := by decide +kernel
theorem d_M_writeCode_6 : decode b_M_writeCode 6 = .ok (.iload_n 3, 1) := by decide +kernel
theorem d_M_writeCode_7 : decode b_M_writeCode 7 = .ok (.ifCond .lt 23, 3) := by decide +kernel
theorem d_M_writeCode_10 : decode b_M_writeCode 10 = .ok (.aload_n 0, 1) := by decide +kernel
theorem d_M_writeCode_11 : decode b_M_writeCode 11 = .ok (.aload_n 0, 1) := by decide +kernel
theorem d_M_writeCode_12 : decode b_M_writeCode 12 = .ok (.getfield 82, 3) := by decide +kernel
theorem d_M_writeCode_15 : decode b_M_writeCode 15 = .ok (.iload_n 2, 1) := by decide +kernel
theorem d_M_writeCode_16 : decode b_M_writeCode 16 = .ok (.iaload, 1) := by decide +kernel
theorem d_M_writeCode_17 : decode b_M_writeCode 17 = .ok (.iload_n 3, 1) := by decide +kernel
theorem d_M_writeCode_18 : decode b_M_writeCode 18 = .ok (.ishr, 1) := by decide +kernel
theorem d_M_writeCode_19 : decode b_M_writeCode 19 = .ok (.iconst 1, 1) := by decide +kernel
theorem d_M_writeCode_20 : decode b_M_writeCode 20 = .ok (.iand, 1) := by decide +kernel
theorem d_M_writeCode_21 : decode b_M_writeCode 21 = .ok (.invokevirtual 118, 3) := by decide +kernel
theorem d_M_writeCode_24 : decode b_M_writeCode 24 = .ok (.iinc 3 (-1), 3) := by decide +kernel
theorem d_M_writeCode_27 : decode b_M_writeCode 27 = .ok (.goto (-21), 3) := by decide +kernel
theorem d_M_writeCode_30 : decode b_M_writeCode 30 = .ok (.return_, 1) := by decide +kernel
def M_writeCode_6 (F : Nat) (c_codes : Nat → Int32) (x2 : Int32) (k_6 : Int32 → (Nat → Int32) → Int32 → Option (Unit × Int32 × (Nat → Int32))) (v_packedBits : Int32) (c_packed : Nat → Int32) (x3 : Int32) : Option (Unit × Int32 × (Nat → Int32)) :=
  mC (x3 < 0) (some ((), v_packedBits, c_packed)) (mG x2 339 (mL (((c_codes x2.toNatClampNeg) >>> (x3 &&& 31)) &&& 1) fun t_1 => mR2 (M_writeBit F v_packedBits c_packed t_1) fun _ v_packedBits_2 c_packed_3 => mL (x3 + (-1)) fun y3_5 => k_6 v_packedBits_2 c_packed_3 y3_5))
abbrev M_writeCode_w (E : xE) (a_p1 : Nat) (a_this : Nat) (a_codes : Nat) (a_packed : Nat) (n_p1 : Nat) (x_row : Value) (x_starts : Value) (x_image : Value) (x_readRow : Value) (x_readStart : Value) (x_readAt : Value) (x_readMany : Value) (x_piece : Value) (x_pairBefore : Value) (x_pairLast : Value) (x_tokenLength : Value) (x_tokenValue : Value) (x_counts : Value) (x_lengths : Value) (x_fixed : Value) (x_ranked : Value) (x_weight : Value) (x_weightBefore : Value) (x_items : Value) (x_lengthRow : Value) (x_step : Value) (x_stepMore : Value) (x_symbolTree : Value) (x_distanceTree : Value) (x_smallTree : Value) (x_readLengths : Value) (x_source : Value) (x_target : Value) (c_p1 : Nat → Int32) (c_codes : Nat → Int32) (v_packedBits : Int32) (c_packed : Nat → Int32) (v_plain : Int32) (v_closed : Int32) (v_rowSize : Int32) (v_pieces : Int32) (v_imageSize : Int32) (v_readSize : Int32) (v_readPieces : Int32) (v_tokens : Int32) (v_steps : Int32) (v_sourceFrom : Int32) (v_sourceBits : Int32) (v_readBits : Int32) (v_wrong : Int32) (v_made : Int32) (v_room : Int32) : va_W := [(a_p1, .inl (E.2.1, n_p1, .inl c_p1)), (a_this, .inr (12, [.int v_plain, .int v_closed, .int v_rowSize, x_row, .int v_pieces, x_starts, .int v_imageSize, x_image, .int v_readSize, x_readRow, .int v_readPieces, x_readStart, x_readAt, x_readMany, x_piece, .ref a_packed, .int v_packedBits, x_pairBefore, x_pairLast, .int v_tokens, x_tokenLength, x_tokenValue, x_counts, x_lengths, x_fixed, x_ranked, x_weight, x_weightBefore, x_items, x_lengthRow, .int v_steps, x_step, x_stepMore, .ref a_codes, x_symbolTree, x_distanceTree, x_smallTree, x_readLengths, x_source, .int v_sourceFrom, .int v_sourceBits, .int v_readBits, .int v_wrong, x_target, .int v_made, .int v_room])), (a_codes, .inl (E.2.1, 339, .inl c_codes)), (a_packed, .inl (E.2.2.1, 66000, .inl c_packed))]
def M_writeCode (F : Nat) (n_p1 : Nat) (c_p1 : Nat → Int32) (c_codes : Nat → Int32) (v_packedBits : Int32) (c_packed : Nat → Int32) (x2 : Int32) : Option (Unit × Int32 × (Nat → Int32)) :=
  mG x2 n_p1 (mL ((c_p1 x2.toNatClampNeg) - 1) fun y3_6 => (mW3 (M_writeCode_6 F c_codes x2) F) v_packedBits c_packed y3_6)
abbrev M_writeCode_rm : Room := { frames := 1, cells := 0, slots := 0, locals := 22 }
set_option maxHeartbeats 4000000 in
set_option maxRecDepth 100000 in
theorem c_M_writeCode (l : Launch) (E : xE) (F sz : Nat) (a_p1 : Nat) (a_this : Nat) (a_codes : Nat) (a_packed : Nat) (n_p1 : Nat) (x_row : Value) (x_starts : Value) (x_image : Value) (x_readRow : Value) (x_readStart : Value) (x_readAt : Value) (x_readMany : Value) (x_piece : Value) (x_pairBefore : Value) (x_pairLast : Value) (x_tokenLength : Value) (x_tokenValue : Value) (x_counts : Value) (x_lengths : Value) (x_fixed : Value) (x_ranked : Value) (x_weight : Value) (x_weightBefore : Value) (x_items : Value) (x_lengthRow : Value) (x_step : Value) (x_stepMore : Value) (x_symbolTree : Value) (x_distanceTree : Value) (x_smallTree : Value) (x_readLengths : Value) (x_source : Value) (x_target : Value) (c_p1 : Nat → Int32) (c_codes : Nat → Int32) (v_packedBits : Int32) (c_packed : Nat → Int32) (v_plain : Int32) (v_closed : Int32) (v_rowSize : Int32) (v_pieces : Int32) (v_imageSize : Int32) (v_readSize : Int32) (v_readPieces : Int32) (v_tokens : Int32) (v_steps : Int32) (v_sourceFrom : Int32) (v_sourceBits : Int32) (v_readBits : Int32) (v_wrong : Int32) (v_made : Int32) (v_room : Int32) (x2 : Int32) (res : Unit × Int32 × (Nat → Int32)) (hm : M_writeCode F n_p1 c_p1 c_codes v_packedBits c_packed x2 = some res) : Met l y_M_writeCode (Cond.code y_M_writeCode b_M_writeCode 4 none :: x_tb) M_writeCode_rm (va_Pc [.ref a_this, .ref a_p1, .int x2] (xPre E (M_writeCode_w E a_p1 a_this a_codes a_packed n_p1 x_row x_starts x_image x_readRow x_readStart x_readAt x_readMany x_piece x_pairBefore x_pairLast x_tokenLength x_tokenValue x_counts x_lengths x_fixed x_ranked x_weight x_weightBefore x_items x_lengthRow x_step x_stepMore x_symbolTree x_distanceTree x_smallTree x_readLengths x_source x_target c_p1 c_codes v_packedBits c_packed v_plain v_closed v_rowSize v_pieces v_imageSize v_readSize v_readPieces v_tokens v_steps v_sourceFrom v_sourceBits v_readBits v_wrong v_made v_room) sz)) (xQv E (fun (u : Int32 × (Nat → Int32)) => u = res.2) (fun (u : Int32 × (Nat → Int32)) => (M_writeCode_w E a_p1 a_this a_codes a_packed n_p1 x_row x_starts x_image x_readRow x_readStart x_readAt x_readMany x_piece x_pairBefore x_pairLast x_tokenLength x_tokenValue x_counts x_lengths x_fixed x_ranked x_weight x_weightBefore x_items x_lengthRow x_step x_stepMore x_symbolTree x_distanceTree x_smallTree x_readLengths x_source x_target c_p1 c_codes u.1 u.2 v_plain v_closed v_rowSize v_pieces v_imageSize v_readSize v_readPieces v_tokens v_steps v_sourceFrom v_sourceBits v_readBits v_wrong v_made v_room)) (va_A (M_writeCode_w E a_p1 a_this a_codes a_packed n_p1 x_row x_starts x_image x_readRow x_readStart x_readAt x_readMany x_piece x_pairBefore x_pairLast x_tokenLength x_tokenValue x_counts x_lengths x_fixed x_ranked x_weight x_weightBefore x_items x_lengthRow x_step x_stepMore x_symbolTree x_distanceTree x_smallTree x_readLengths x_source x_target c_p1 c_codes v_packedBits c_packed v_plain v_closed v_rowSize v_pieces v_imageSize v_readSize v_readPieces v_tokens v_steps v_sourceFrom v_sourceBits v_readBits v_wrong v_made v_room) sz)) 0 0 (va_A (M_writeCode_w E a_p1 a_this a_codes a_packed n_p1 x_row x_starts x_image x_readRow x_readStart x_readAt x_readMany x_piece x_pairBefore x_pairLast x_tokenLength x_tokenValue x_counts x_lengths x_fixed x_ranked x_weight x_weightBefore x_items x_lengthRow x_step x_stepMore x_symbolTree x_distanceTree x_smallTree x_readLengths x_source x_target c_p1 c_codes v_packedBits c_packed v_plain v_closed v_rowSize v_pieces v_imageSize v_readSize v_readPieces v_tokens v_steps v_sourceFrom v_sourceBits v_readBits v_wrong v_made v_room) sz) := by
  refine xEnV (by decide) (Nat.le_of_ble_eq_true rfl) ?_
  intro p e s m args below meth c A ls Q hx hb hnm hts hown hml hK hA hI hN hret hP hD hS hl
  replace hown : s.vm.findClass R_M = some m.cls := hown
  replace hl : lv_has ls 4 [(0, .ref a_this), (1, .ref a_p1), (2, .int x2)] := hl
  obtain ⟨H, eH⟩ : ∃ z, z = s.heap := ⟨_, rfl⟩
  obtain ⟨locs, eL⟩ : ∃ z : List Loc, z = [] := ⟨_, rfl⟩
  rw [show W p l e M_writeCode_rm s m args below meth c s.heap [] 0 0 Q (F0 m 0 ls []) = W p l e M_writeCode_rm s m args below meth c H locs 0 0 Q (F0 m 0 ls []) by rw [eH, eL]]
  replace hP : va_P E.1 vwCl (M_writeCode_w E a_p1 a_this a_codes a_packed n_p1 x_row x_starts x_image x_readRow x_readStart x_readAt x_readMany x_piece x_pairBefore x_pairLast x_tokenLength x_tokenValue x_counts x_lengths x_fixed x_ranked x_weight x_weightBefore x_items x_lengthRow x_step x_stepMore x_symbolTree x_distanceTree x_smallTree x_readLengths x_source x_target c_p1 c_codes v_packedBits c_packed v_plain v_closed v_rowSize v_pieces v_imageSize v_readSize v_readPieces v_tokens v_steps v_sourceFrom v_sourceBits v_readBits v_wrong v_made v_room) H := by rw [eH]; exact hP
  replace hS : va_S A s.heap H locs := by rw [eH, eL]; exact hS
  clear eH eL
  rw [M_writeCode] at hm
  have h_6 : ∀ (n_6 : Nat) (v_packedBits : Int32) (c_packed : Nat → Int32) (x3 : Int32) (H : Heap) (locs : List Loc) (ls : Array Slot), (mW3 (M_writeCode_6 F c_codes x2) n_6) v_packedBits c_packed x3 = some res → va_P E.1 vwCl (M_writeCode_w E a_p1 a_this a_codes a_packed n_p1 x_row x_starts x_image x_readRow x_readStart x_readAt x_readMany x_piece x_pairBefore x_pairLast x_tokenLength x_tokenValue x_counts x_lengths x_fixed x_ranked x_weight x_weightBefore x_items x_lengthRow x_step x_stepMore x_symbolTree x_distanceTree x_smallTree x_readLengths x_source x_target c_p1 c_codes v_packedBits c_packed v_plain v_closed v_rowSize v_pieces v_imageSize v_readSize v_readPieces v_tokens v_steps v_sourceFrom v_sourceBits v_readBits v_wrong v_made v_room) H → va_D A (M_writeCode_w E a_p1 a_this a_codes a_packed n_p1 x_row x_starts x_image x_readRow x_readStart x_readAt x_readMany x_piece x_pairBefore x_pairLast x_tokenLength x_tokenValue x_counts x_lengths x_fixed x_ranked x_weight x_weightBefore x_items x_lengthRow x_step x_stepMore x_symbolTree x_distanceTree x_smallTree x_readLengths x_source x_target c_p1 c_codes v_packedBits c_packed v_plain v_closed v_rowSize v_pieces v_imageSize v_readSize v_readPieces v_tokens v_steps v_sourceFrom v_sourceBits v_readBits v_wrong v_made v_room) → va_S A s.heap H locs → lv_has ls 4 [(0, .ref a_this), (2, .int x2), (3, .int x3)] → W p l e M_writeCode_rm s m args below meth c H locs 0 0 Q (F0 m 6 ls []) := by
    intro n_6
    induction n_6 with
    | zero => exact fun _ _ _ _ _ _ hm _ _ _ _ => (mW3_z hm).elim
    | succ n_6 ih_6 =>
      intro v_packedBits c_packed x3 H locs ls hm hP hD hS hl
      replace hm := mW3_s hm
      rw [M_writeCode_6] at hm
      refine lv_iload_n hx hb d_M_writeCode_6 rfl (lv_at hl 2 rfl) ?_
      refine lv_if_lt (tgt := 30) hx hb d_M_writeCode_7 (by decide) (fun c7 => ?_) (fun c7 => ?_)
      · replace hm := mC_t hm c7
        replace hm := Option.some.inj hm
        subst hm
        exact hret d_M_writeCode_30 (u := (v_packedBits, c_packed)) rfl hP hD hS
      · replace hm := mC_f hm c7
        refine lv_aload_n hx hb d_M_writeCode_10 rfl (lv_at hl 0 rfl) ?_
        refine lv_aload_n hx hb d_M_writeCode_11 rfl (lv_at hl 0 rfl) ?_
        refine va_get (D := E.1) (ci := 12) (v := .ref a_codes) (C := R_M) (T := F_M) (N := 46) hx hb hts i_M hown hK hP 1 rfl rfl 33 (by decide) (hts _ tw_828) (fun _ h9 => h9) rfl d_M_writeCode_12 ?_
        refine lv_iload_n hx hb d_M_writeCode_15 rfl (lv_at hl 1 rfl) ?_
        obtain ⟨hi16, hm⟩ := mG_e hm
        refine va_iald hx hb hK hP 2 0 rfl rfl hi16 d_M_writeCode_16 ?_
        refine lv_iload_n hx hb d_M_writeCode_17 rfl (lv_at hl 2 rfl) ?_
        refine lv_ishr hx hb d_M_writeCode_18 ?_
        refine lv_iconst (v := 1) hx hb d_M_writeCode_19 (by decide) ?_
        refine lv_iand hx hb d_M_writeCode_20 ?_
        obtain ⟨t_1, et_1⟩ : ∃ z : Int32, z = ((c_codes x2.toNatClampNeg) >>> (x3 &&& 31)) &&& 1 := ⟨_, rfl⟩
        rw [← et_1]
        replace hm := mL_e hm t_1 et_1
        obtain ⟨r_4, v_packedBits_2, c_packed_3, hc21, hm⟩ := mR2_e hm
        refine xmv (wc := (M_writeBit_w E a_this a_packed x_row x_starts x_image x_readRow x_readStart x_readAt x_readMany x_piece x_pairBefore x_pairLast x_tokenLength x_tokenValue x_counts x_lengths x_fixed x_ranked x_weight x_weightBefore x_items x_lengthRow x_step x_stepMore (.ref a_codes) x_symbolTree x_distanceTree x_smallTree x_readLengths x_source x_target v_packedBits c_packed v_plain v_closed v_rowSize v_pieces v_imageSize v_readSize v_readPieces v_tokens v_steps v_sourceFrom v_sourceBits v_readBits v_wrong v_made v_room)) [false, true, false, true] [0, 1] [0, 1] hP hD hS hA rfl (by decide) (by decide) 2 (by decide) (fun _ => rfl) (fun hPc hDc hFc => va_runV (As := [.int t_1]) (rest := []) ⟨hx, hb, hml, hown, hts⟩ (c_M_writeBit l E F H.size a_this a_packed x_row x_starts x_image x_readRow x_readStart x_readAt x_readMany x_piece x_pairBefore x_pairLast x_tokenLength x_tokenValue x_counts x_lengths x_fixed x_ranked x_weight x_weightBefore x_items x_lengthRow x_step x_stepMore (.ref a_codes) x_symbolTree x_distanceTree x_smallTree x_readLengths x_source x_target v_packedBits c_packed v_plain v_closed v_rowSize v_pieces v_imageSize v_readSize v_readPieces v_tokens v_steps v_sourceFrom v_sourceBits v_readBits v_wrong v_made v_room t_1 (r_4, v_packedBits_2, c_packed_3) hc21) (cwV 1 hts (x_gV tw_962 tw_964 tw_35 tw_79 tw_965) rfl rfl rfl (by decide +kernel) ⟨Nat.le_of_ble_eq_true rfl, Nat.le_of_ble_eq_true rfl⟩) (xPV 12 0 rfl rfl hPc hDc hFc hK hI hN hS) rfl rfl hl.1 rfl (lv_room (Nat.le_of_ble_eq_true rfl)) d_M_writeCode_21 ⟨Nat.le_of_ble_eq_true rfl, Nat.le_of_ble_eq_true rfl⟩) (fun u9 H locs hw hP hD hS => ?_)
        have hw2 : (v_packedBits_2, c_packed_3) = u9 := hw.symm
        subst hw2
        replace hP : va_P E.1 vwCl (M_writeCode_w E a_p1 a_this a_codes a_packed n_p1 x_row x_starts x_image x_readRow x_readStart x_readAt x_readMany x_piece x_pairBefore x_pairLast x_tokenLength x_tokenValue x_counts x_lengths x_fixed x_ranked x_weight x_weightBefore x_items x_lengthRow x_step x_stepMore x_symbolTree x_distanceTree x_smallTree x_readLengths x_source x_target c_p1 c_codes v_packedBits_2 c_packed_3 v_plain v_closed v_rowSize v_pieces v_imageSize v_readSize v_readPieces v_tokens v_steps v_sourceFrom v_sourceBits v_readBits v_wrong v_made v_room) H := hP
        replace hD : va_D A (M_writeCode_w E a_p1 a_this a_codes a_packed n_p1 x_row x_starts x_image x_readRow x_readStart x_readAt x_readMany x_piece x_pairBefore x_pairLast x_tokenLength x_tokenValue x_counts x_lengths x_fixed x_ranked x_weight x_weightBefore x_items x_lengthRow x_step x_stepMore x_symbolTree x_distanceTree x_smallTree x_readLengths x_source x_target c_p1 c_codes v_packedBits_2 c_packed_3 v_plain v_closed v_rowSize v_pieces v_imageSize v_readSize v_readPieces v_tokens v_steps v_sourceFrom v_sourceBits v_readBits v_wrong v_made v_room) := hD
        obtain ⟨y3_5, ey3_5⟩ : ∃ y : Int32, y = x3 + (-1) := ⟨_, rfl⟩
        replace hm := mL_e hm y3_5 ey3_5
        refine lv_iinc (v := y3_5) (lv' := [(3, .int y3_5), (0, .ref a_this), (2, .int x2)]) hx hb d_M_writeCode_24 hl (k := 2) rfl (by rw [ey3_5]; rfl) (by decide) rfl (fun ls hl => ?_)
        refine lv_goto (tgt := 6) hx hb d_M_writeCode_27 (by decide) ?_
        exact ih_6 _ _ _ H locs ls hm hP hD hS (lv_sub hl [1, 2, 0] rfl)
  refine lv_aload_n hx hb d_M_writeCode_0 rfl (lv_at hl 1 rfl) ?_
  refine lv_iload_n hx hb d_M_writeCode_1 rfl (lv_at hl 2 rfl) ?_
  obtain ⟨hi2, hm⟩ := mG_e hm
  refine va_iald hx hb hK hP 0 0 rfl rfl hi2 d_M_writeCode_2 ?_
  refine lv_iconst (v := 1) hx hb d_M_writeCode_3 (by decide) ?_
  refine lv_isub hx hb d_M_writeCode_4 ?_
  refine lv_topi (fun y3_6 ey3_6 => ?_)
  replace hm := mL_e hm y3_6 ey3_6
  refine lv_istore_n (lv' := [(3, .int y3_6), (0, .ref a_this), (1, .ref a_p1), (2, .int x2)]) hx hb d_M_writeCode_5 rfl hl (by decide) rfl (fun ls hl => ?_)
  exact h_6 F _ _ _ H locs ls hm hP hD hS (lv_sub hl [1, 3, 0] rfl)
theorem d_M_endByte_0 : decode b_M_endByte 0 = .ok (.aload_n 0, 1) := by decide +kernel
theorem d_M_endByte_1 : decode b_M_endByte 1 = .ok (.getfield 114, 3) := by decide +kernel
theorem d_M_endByte_4 : decode b_M_endByte 4 = .ok (.bipush 8, 2) := by decide +kernel
theorem d_M_endByte_6 : decode b_M_endByte 6 = .ok (.irem, 1) := by decide +kernel
theorem d_M_endByte_7 : decode b_M_endByte 7 = .ok (.ifCond .eq 11, 3) := by decide +kernel
theorem d_M_endByte_10 : decode b_M_endByte 10 = .ok (.aload_n 0, 1) := by decide +kernel
theorem d_M_endByte_11 : decode b_M_endByte 11 = .ok (.iconst 0, 1) := by decide +kernel
theorem d_M_endByte_12 : decode b_M_endByte 12 = .ok (.invokevirtual 118, 3) := by decide +kernel
theorem d_M_endByte_15 : decode b_M_endByte 15 = .ok (.goto (-15), 3) := by decide +kernel
theorem d_M_endByte_18 : decode b_M_endByte 18 = .ok (.return_, 1) := by decide +kernel
def M_endByte_0 (F : Nat) (k_0 : Int32 → (Nat → Int32) → Option (Unit × Int32 × (Nat → Int32))) (v_packedBits : Int32) (c_packed : Nat → Int32) : Option (Unit × Int32 × (Nat → Int32)) :=
  mC ((v_packedBits - v_packedBits / 8 * 8) = 0) (some ((), v_packedBits, c_packed)) (mR2 (M_writeBit F v_packedBits c_packed 0) fun _ v_packedBits_1 c_packed_2 => k_0 v_packedBits_1 c_packed_2)
abbrev M_endByte_w (E : xE) (a_this : Nat) (a_packed : Nat) (x_row : Value) (x_starts : Value) (x_image : Value) (x_readRow : Value) (x_readStart : Value) (x_readAt : Value) (x_readMany : Value) (x_piece : Value) (x_pairBefore : Value) (x_pairLast : Value) (x_tokenLength : Value) (x_tokenValue : Value) (x_counts : Value) (x_lengths : Value) (x_fixed : Value) (x_ranked : Value) (x_weight : Value) (x_weightBefore : Value) (x_items : Value) (x_lengthRow : Value) (x_step : Value) (x_stepMore : Value) (x_codes : Value) (x_symbolTree : Value) (x_distanceTree : Value) (x_smallTree : Value) (x_readLengths : Value) (x_source : Value) (x_target : Value) (v_packedBits : Int32) (c_packed : Nat → Int32) (v_plain : Int32) (v_closed : Int32) (v_rowSize : Int32) (v_pieces : Int32) (v_imageSize : Int32) (v_readSize : Int32) (v_readPieces : Int32) (v_tokens : Int32) (v_steps : Int32) (v_sourceFrom : Int32) (v_sourceBits : Int32) (v_readBits : Int32) (v_wrong : Int32) (v_made : Int32) (v_room : Int32) : va_W := [(a_this, .inr (12, [.int v_plain, .int v_closed, .int v_rowSize, x_row, .int v_pieces, x_starts, .int v_imageSize, x_image, .int v_readSize, x_readRow, .int v_readPieces, x_readStart, x_readAt, x_readMany, x_piece, .ref a_packed, .int v_packedBits, x_pairBefore, x_pairLast, .int v_tokens, x_tokenLength, x_tokenValue, x_counts, x_lengths, x_fixed, x_ranked, x_weight, x_weightBefore, x_items, x_lengthRow, .int v_steps, x_step, x_stepMore, x_codes, x_symbolTree, x_distanceTree, x_smallTree, x_readLengths, x_source, .int v_sourceFrom, .int v_sourceBits, .int v_readBits, .int v_wrong, x_target, .int v_made, .int v_room])), (a_packed, .inl (E.2.2.1, 66000, .inl c_packed))]
def M_endByte (F : Nat) (v_packedBits : Int32) (c_packed : Nat → Int32) : Option (Unit × Int32 × (Nat → Int32)) :=
  (mW2 (M_endByte_0 F) F) v_packedBits c_packed
abbrev M_endByte_rm : Room := { frames := 1, cells := 0, slots := 0, locals := 22 }
set_option maxHeartbeats 4000000 in
set_option maxRecDepth 100000 in
theorem c_M_endByte (l : Launch) (E : xE) (F sz : Nat) (a_this : Nat) (a_packed : Nat) (x_row : Value) (x_starts : Value) (x_image : Value) (x_readRow : Value) (x_readStart : Value) (x_readAt : Value) (x_readMany : Value) (x_piece : Value) (x_pairBefore : Value) (x_pairLast : Value) (x_tokenLength : Value) (x_tokenValue : Value) (x_counts : Value) (x_lengths : Value) (x_fixed : Value) (x_ranked : Value) (x_weight : Value) (x_weightBefore : Value) (x_items : Value) (x_lengthRow : Value) (x_step : Value) (x_stepMore : Value) (x_codes : Value) (x_symbolTree : Value) (x_distanceTree : Value) (x_smallTree : Value) (x_readLengths : Value) (x_source : Value) (x_target : Value) (v_packedBits : Int32) (c_packed : Nat → Int32) (v_plain : Int32) (v_closed : Int32) (v_rowSize : Int32) (v_pieces : Int32) (v_imageSize : Int32) (v_readSize : Int32) (v_readPieces : Int32) (v_tokens : Int32) (v_steps : Int32) (v_sourceFrom : Int32) (v_sourceBits : Int32) (v_readBits : Int32) (v_wrong : Int32) (v_made : Int32) (v_room : Int32) (res : Unit × Int32 × (Nat → Int32)) (hm : M_endByte F v_packedBits c_packed = some res) : Met l y_M_endByte (Cond.code y_M_endByte b_M_endByte 1 none :: x_tb) M_endByte_rm (va_Pc [.ref a_this] (xPre E (M_endByte_w E a_this a_packed x_row x_starts x_image x_readRow x_readStart x_readAt x_readMany x_piece x_pairBefore x_pairLast x_tokenLength x_tokenValue x_counts x_lengths x_fixed x_ranked x_weight x_weightBefore x_items x_lengthRow x_step x_stepMore x_codes x_symbolTree x_distanceTree x_smallTree x_readLengths x_source x_target v_packedBits c_packed v_plain v_closed v_rowSize v_pieces v_imageSize v_readSize v_readPieces v_tokens v_steps v_sourceFrom v_sourceBits v_readBits v_wrong v_made v_room) sz)) (xQv E (fun (u : Int32 × (Nat → Int32)) => u = res.2) (fun (u : Int32 × (Nat → Int32)) => (M_endByte_w E a_this a_packed x_row x_starts x_image x_readRow x_readStart x_readAt x_readMany x_piece x_pairBefore x_pairLast x_tokenLength x_tokenValue x_counts x_lengths x_fixed x_ranked x_weight x_weightBefore x_items x_lengthRow x_step x_stepMore x_codes x_symbolTree x_distanceTree x_smallTree x_readLengths x_source x_target u.1 u.2 v_plain v_closed v_rowSize v_pieces v_imageSize v_readSize v_readPieces v_tokens v_steps v_sourceFrom v_sourceBits v_readBits v_wrong v_made v_room)) (va_A (M_endByte_w E a_this a_packed x_row x_starts x_image x_readRow x_readStart x_readAt x_readMany x_piece x_pairBefore x_pairLast x_tokenLength x_tokenValue x_counts x_lengths x_fixed x_ranked x_weight x_weightBefore x_items x_lengthRow x_step x_stepMore x_codes x_symbolTree x_distanceTree x_smallTree x_readLengths x_source x_target v_packedBits c_packed v_plain v_closed v_rowSize v_pieces v_imageSize v_readSize v_readPieces v_tokens v_steps v_sourceFrom v_sourceBits v_readBits v_wrong v_made v_room) sz)) 0 0 (va_A (M_endByte_w E a_this a_packed x_row x_starts x_image x_readRow x_readStart x_readAt x_readMany x_piece x_pairBefore x_pairLast x_tokenLength x_tokenValue x_counts x_lengths x_fixed x_ranked x_weight x_weightBefore x_items x_lengthRow x_step x_stepMore x_codes x_symbolTree x_distanceTree x_smallTree x_readLengths x_source x_target v_packedBits c_packed v_plain v_closed v_rowSize v_pieces v_imageSize v_readSize v_readPieces v_tokens v_steps v_sourceFrom v_sourceBits v_readBits v_wrong v_made v_room) sz) := by
  refine xEnV (by decide) (Nat.le_of_ble_eq_true rfl) ?_
  intro p e s m args below meth c A ls Q hx hb hnm hts hown hml hK hA hI hN hret hP hD hS hl
  replace hown : s.vm.findClass R_M = some m.cls := hown
  replace hl : lv_has ls 1 [(0, .ref a_this)] := hl
  obtain ⟨H, eH⟩ : ∃ z, z = s.heap := ⟨_, rfl⟩
  obtain ⟨locs, eL⟩ : ∃ z : List Loc, z = [] := ⟨_, rfl⟩
  rw [show W p l e M_endByte_rm s m args below meth c s.heap [] 0 0 Q (F0 m 0 ls []) = W p l e M_endByte_rm s m args below meth c H locs 0 0 Q (F0 m 0 ls []) by rw [eH, eL]]
  replace hP : va_P E.1 vwCl (M_endByte_w E a_this a_packed x_row x_starts x_image x_readRow x_readStart x_readAt x_readMany x_piece x_pairBefore x_pairLast x_tokenLength x_tokenValue x_counts x_lengths x_fixed x_ranked x_weight x_weightBefore x_items x_lengthRow x_step x_stepMore x_codes x_symbolTree x_distanceTree x_smallTree x_readLengths x_source x_target v_packedBits c_packed v_plain v_closed v_rowSize v_pieces v_imageSize v_readSize v_readPieces v_tokens v_steps v_sourceFrom v_sourceBits v_readBits v_wrong v_made v_room) H := by rw [eH]; exact hP
  replace hS : va_S A s.heap H locs := by rw [eH, eL]; exact hS
  clear eH eL
  rw [M_endByte] at hm
  have h_0 : ∀ (n_0 : Nat) (v_packedBits : Int32) (c_packed : Nat → Int32) (H : Heap) (locs : List Loc) (ls : Array Slot), (mW2 (M_endByte_0 F) n_0) v_packedBits c_packed = some res → va_P E.1 vwCl (M_endByte_w E a_this a_packed x_row x_starts x_image x_readRow x_readStart x_readAt x_readMany x_piece x_pairBefore x_pairLast x_tokenLength x_tokenValue x_counts x_lengths x_fixed x_ranked x_weight x_weightBefore x_items x_lengthRow x_step x_stepMore x_codes x_symbolTree x_distanceTree x_smallTree x_readLengths x_source x_target v_packedBits c_packed v_plain v_closed v_rowSize v_pieces v_imageSize v_readSize v_readPieces v_tokens v_steps v_sourceFrom v_sourceBits v_readBits v_wrong v_made v_room) H → va_D A (M_endByte_w E a_this a_packed x_row x_starts x_image x_readRow x_readStart x_readAt x_readMany x_piece x_pairBefore x_pairLast x_tokenLength x_tokenValue x_counts x_lengths x_fixed x_ranked x_weight x_weightBefore x_items x_lengthRow x_step x_stepMore x_codes x_symbolTree x_distanceTree x_smallTree x_readLengths x_source x_target v_packedBits c_packed v_plain v_closed v_rowSize v_pieces v_imageSize v_readSize v_readPieces v_tokens v_steps v_sourceFrom v_sourceBits v_readBits v_wrong v_made v_room) → va_S A s.heap H locs → lv_has ls 1 [(0, .ref a_this)] → W p l e M_endByte_rm s m args below meth c H locs 0 0 Q (F0 m 0 ls []) := by
    intro n_0
    induction n_0 with
    | zero => exact fun _ _ _ _ _ hm _ _ _ _ => (mW2_z hm).elim
    | succ n_0 ih_0 =>
      intro v_packedBits c_packed H locs ls hm hP hD hS hl
      replace hm := mW2_s hm
      rw [M_endByte_0] at hm
      refine lv_aload_n hx hb d_M_endByte_0 rfl (lv_at hl 0 rfl) ?_
      refine va_get (D := E.1) (ci := 12) (v := .int v_packedBits) (C := R_M) (T := F_M) (N := 46) hx hb hts i_M hown hK hP 0 rfl rfl 16 (by decide) (hts _ tw_811) (fun _ h9 => h9) rfl d_M_endByte_1 ?_
      refine lv_bipush (v := 8) hx hb d_M_endByte_4 (by decide) ?_
      refine lv_irem hx hb d_M_endByte_6 (by decide) ?_
      refine lv_if_eq (tgt := 18) hx hb d_M_endByte_7 (by decide) (fun c7 => ?_) (fun c7 => ?_)
      · replace hm := mC_t hm c7
        replace hm := Option.some.inj hm
        subst hm
        exact hret d_M_endByte_18 (u := (v_packedBits, c_packed)) rfl hP hD hS
      · replace hm := mC_f hm c7
        refine lv_aload_n hx hb d_M_endByte_10 rfl (lv_at hl 0 rfl) ?_
        refine lv_iconst (v := 0) hx hb d_M_endByte_11 (by decide) ?_
        obtain ⟨r_3, v_packedBits_1, c_packed_2, hc12, hm⟩ := mR2_e hm
        refine xmv (wc := (M_writeBit_w E a_this a_packed x_row x_starts x_image x_readRow x_readStart x_readAt x_readMany x_piece x_pairBefore x_pairLast x_tokenLength x_tokenValue x_counts x_lengths x_fixed x_ranked x_weight x_weightBefore x_items x_lengthRow x_step x_stepMore x_codes x_symbolTree x_distanceTree x_smallTree x_readLengths x_source x_target v_packedBits c_packed v_plain v_closed v_rowSize v_pieces v_imageSize v_readSize v_readPieces v_tokens v_steps v_sourceFrom v_sourceBits v_readBits v_wrong v_made v_room)) [true, true] [0, 1] [0, 1] hP hD hS hA rfl (by decide) (by decide) 2 (by decide) (fun _ => rfl) (fun hPc hDc hFc => va_runV (As := [.int 0]) (rest := []) ⟨hx, hb, hml, hown, hts⟩ (c_M_writeBit l E F H.size a_this a_packed x_row x_starts x_image x_readRow x_readStart x_readAt x_readMany x_piece x_pairBefore x_pairLast x_tokenLength x_tokenValue x_counts x_lengths x_fixed x_ranked x_weight x_weightBefore x_items x_lengthRow x_step x_stepMore x_codes x_symbolTree x_distanceTree x_smallTree x_readLengths x_source x_target v_packedBits c_packed v_plain v_closed v_rowSize v_pieces v_imageSize v_readSize v_readPieces v_tokens v_steps v_sourceFrom v_sourceBits v_readBits v_wrong v_made v_room 0 (r_3, v_packedBits_1, c_packed_2) hc12) (cwV 1 hts (x_gV tw_962 tw_964 tw_35 tw_79 tw_965) rfl rfl rfl (by decide +kernel) ⟨Nat.le_of_ble_eq_true rfl, Nat.le_of_ble_eq_true rfl⟩) (xPV 12 0 rfl rfl hPc hDc hFc hK hI hN hS) rfl rfl hl.1 rfl (lv_room (Nat.le_of_ble_eq_true rfl)) d_M_endByte_12 ⟨Nat.le_of_ble_eq_true rfl, Nat.le_of_ble_eq_true rfl⟩) (fun u9 H locs hw hP hD hS => ?_)
        have hw2 : (v_packedBits_1, c_packed_2) = u9 := hw.symm
        subst hw2
        replace hP : va_P E.1 vwCl (M_endByte_w E a_this a_packed x_row x_starts x_image x_readRow x_readStart x_readAt x_readMany x_piece x_pairBefore x_pairLast x_tokenLength x_tokenValue x_counts x_lengths x_fixed x_ranked x_weight x_weightBefore x_items x_lengthRow x_step x_stepMore x_codes x_symbolTree x_distanceTree x_smallTree x_readLengths x_source x_target v_packedBits_1 c_packed_2 v_plain v_closed v_rowSize v_pieces v_imageSize v_readSize v_readPieces v_tokens v_steps v_sourceFrom v_sourceBits v_readBits v_wrong v_made v_room) H := hP
        replace hD : va_D A (M_endByte_w E a_this a_packed x_row x_starts x_image x_readRow x_readStart x_readAt x_readMany x_piece x_pairBefore x_pairLast x_tokenLength x_tokenValue x_counts x_lengths x_fixed x_ranked x_weight x_weightBefore x_items x_lengthRow x_step x_stepMore x_codes x_symbolTree x_distanceTree x_smallTree x_readLengths x_source x_target v_packedBits_1 c_packed_2 v_plain v_closed v_rowSize v_pieces v_imageSize v_readSize v_readPieces v_tokens v_steps v_sourceFrom v_sourceBits v_readBits v_wrong v_made v_room) := hD
        refine lv_goto (tgt := 0) hx hb d_M_endByte_15 (by decide) ?_
        exact ih_0 _ _ H locs ls hm hP hD hS hl
  exact h_0 F _ _ H locs ls hm hP hD hS hl
