theorem d_M_tell_0 : decode b_M_tell 0 = .ok (.aload_n 0, 1) := by decide +kernel
theorem d_M_tell_1 : decode b_M_tell 1 = .ok (.getfield 76, 3) := by decide +kernel
theorem d_M_tell_4 : decode b_M_tell 4 = .ok (.aload_n 0, 1) := by decide +kernel
theorem d_M_tell_5 : decode b_M_tell 5 = .ok (.getfield 144, 3) := by decide +kernel
theorem d_M_tell_8 : decode b_M_tell 8 = .ok (.iload_n 1, 1) := by decide +kernel
theorem d_M_tell_9 : decode b_M_tell 9 = .ok (.iastore, 1) := by decide +kernel
theorem d_M_tell_10 : decode b_M_tell 10 = .ok (.aload_n 0, 1) := by decide +kernel
theorem d_M_tell_11 : decode b_M_tell 11 = .ok (.getfield 79, 3) := by decide +kernel
theorem d_M_tell_14 : decode b_M_tell 14 = .ok (.aload_n 0, 1) := by decide +kernel
theorem d_M_tell_15 : decode b_M_tell 15 = .ok (.getfield 144, 3) := by decide +kernel
theorem d_M_tell_18 : decode b_M_tell 18 = .ok (.iload_n 2, 1) := by decide +kernel
theorem d_M_tell_19 : decode b_M_tell 19 = .ok (.iastore, 1) := by decide +kernel
theorem d_M_tell_20 : decode b_M_tell 20 = .ok (.aload_n 0, 1) := by decide +kernel
theorem d_M_tell_21 : decode b_M_tell 21 = .ok (.dup, 1) := by decide +kernel
theorem d_M_tell_22 : decode b_M_tell 22 = .ok (.getfield 144, 3) := by decide +kernel
theorem d_M_tell_25 : decode b_M_tell 25 = .ok (.iconst 1, 1) := by decide +kernel
theorem d_M_tell_26 : decode b_M_tell 26 = .ok (.iadd, 1) := by decide +kernel
theorem d_M_tell_27 : decode b_M_tell 27 = .ok (.putfield 144, 3) := by decide +kernel
theorem d_M_tell_30 : decode b_M_tell 30 = .ok (.aload_n 0, 1) := by decide +kernel
theorem d_M_tell_31 : decode b_M_tell 31 = .ok (.getfield 52, 3) := by decide +kernel
theorem d_M_tell_34 : decode b_M_tell 34 = .ok (.sipush 320, 3) := by decide +kernel
theorem d_M_tell_37 : decode b_M_tell 37 = .ok (.iload_n 1, 1) := by decide +kernel
theorem d_M_tell_38 : decode b_M_tell 38 = .ok (.iadd, 1) := by decide +kernel
theorem d_M_tell_39 : decode b_M_tell 39 = .ok (.dup2, 1) := by decide +kernel
theorem d_M_tell_40 : decode b_M_tell 40 = .ok (.iaload, 1) := by decide +kernel
theorem d_M_tell_41 : decode b_M_tell 41 = .ok (.iconst 1, 1) := by decide +kernel
theorem d_M_tell_42 : decode b_M_tell 42 = .ok (.iadd, 1) := by decide +kernel
theorem d_M_tell_43 : decode b_M_tell 43 = .ok (.iastore, 1) := by decide +kernel
theorem d_M_tell_44 : decode b_M_tell 44 = .ok (.return_, 1) := by decide +kernel
abbrev M_tell_w (E : xE) (a_this : Nat) (a_step : Nat) (a_stepMore : Nat) (a_counts : Nat) (x_row : Value) (x_starts : Value) (x_image : Value) (x_readRow : Value) (x_readStart : Value) (x_readAt : Value) (x_readMany : Value) (x_piece : Value) (x_packed : Value) (x_pairBefore : Value) (x_pairLast : Value) (x_tokenLength : Value) (x_tokenValue : Value) (x_lengths : Value) (x_fixed : Value) (x_ranked : Value) (x_weight : Value) (x_weightBefore : Value) (x_items : Value) (x_lengthRow : Value) (x_codes : Value) (x_symbolTree : Value) (x_distanceTree : Value) (x_smallTree : Value) (x_readLengths : Value) (x_source : Value) (x_target : Value) (v_steps : Int32) (c_step : Nat → Int32) (c_stepMore : Nat → Int32) (c_counts : Nat → Int32) (v_plain : Int32) (v_closed : Int32) (v_rowSize : Int32) (v_pieces : Int32) (v_imageSize : Int32) (v_readSize : Int32) (v_readPieces : Int32) (v_packedBits : Int32) (v_tokens : Int32) (v_sourceFrom : Int32) (v_sourceBits : Int32) (v_readBits : Int32) (v_wrong : Int32) (v_made : Int32) (v_room : Int32) : va_W := [(a_this, .inr (12, [.int v_plain, .int v_closed, .int v_rowSize, x_row, .int v_pieces, x_starts, .int v_imageSize, x_image, .int v_readSize, x_readRow, .int v_readPieces, x_readStart, x_readAt, x_readMany, x_piece, x_packed, .int v_packedBits, x_pairBefore, x_pairLast, .int v_tokens, x_tokenLength, x_tokenValue, .ref a_counts, x_lengths, x_fixed, x_ranked, x_weight, x_weightBefore, x_items, x_lengthRow, .int v_steps, .ref a_step, .ref a_stepMore, x_codes, x_symbolTree, x_distanceTree, x_smallTree, x_readLengths, x_source, .int v_sourceFrom, .int v_sourceBits, .int v_readBits, .int v_wrong, x_target, .int v_made, .int v_room])), (a_step, .inl (E.2.1, 320, .inl c_step)), (a_stepMore, .inl (E.2.1, 320, .inl c_stepMore)), (a_counts, .inl (E.2.1, 339, .inl c_counts))]
def M_tell (F : Nat) (v_steps : Int32) (c_step : Nat → Int32) (c_stepMore : Nat → Int32) (c_counts : Nat → Int32) (x1 : Int32) (x2 : Int32) : Option (Unit × Int32 × (Nat → Int32) × (Nat → Int32) × (Nat → Int32)) :=
  mG v_steps 320 (mL (upd c_step v_steps.toNatClampNeg x1) fun c_1 => mG v_steps 320 (mL (upd c_stepMore v_steps.toNatClampNeg x2) fun c_2 => mL (v_steps + 1) fun v_3 => mL (320 + x1) fun t_4 => mG t_4 339 (mL ((c_counts t_4.toNatClampNeg) + 1) fun v_5 => mG t_4 339 (mL (upd c_counts t_4.toNatClampNeg v_5) fun c_6 => some ((), v_3, c_1, c_2, c_6)))))
abbrev M_tell_rm : Room := { frames := 0, cells := 0, slots := 0, locals := 0 }
set_option maxHeartbeats 4000000 in
set_option maxRecDepth 100000 in
theorem c_M_tell (l : Launch) (E : xE) (F sz : Nat) (a_this : Nat) (a_step : Nat) (a_stepMore : Nat) (a_counts : Nat) (x_row : Value) (x_starts : Value) (x_image : Value) (x_readRow : Value) (x_readStart : Value) (x_readAt : Value) (x_readMany : Value) (x_piece : Value) (x_packed : Value) (x_pairBefore : Value) (x_pairLast : Value) (x_tokenLength : Value) (x_tokenValue : Value) (x_lengths : Value) (x_fixed : Value) (x_ranked : Value) (x_weight : Value) (x_weightBefore : Value) (x_items : Value) (x_lengthRow : Value) (x_codes : Value) (x_symbolTree : Value) (x_distanceTree : Value) (x_smallTree : Value) (x_readLengths : Value) (x_source : Value) (x_target : Value) (v_steps : Int32) (c_step : Nat → Int32) (c_stepMore : Nat → Int32) (c_counts : Nat → Int32) (v_plain : Int32) (v_closed : Int32) (v_rowSize : Int32) (v_pieces : Int32) (v_imageSize : Int32) (v_readSize : Int32) (v_readPieces : Int32) (v_packedBits : Int32) (v_tokens : Int32) (v_sourceFrom : Int32) (v_sourceBits : Int32) (v_readBits : Int32) (v_wrong : Int32) (v_made : Int32) (v_room : Int32) (x1 : Int32) (x2 : Int32) (res : Unit × Int32 × (Nat → Int32) × (Nat → Int32) × (Nat → Int32)) (hm : M_tell F v_steps c_step c_stepMore c_counts x1 x2 = some res) : Met l y_M_tell (Cond.code y_M_tell b_M_tell 3 none :: x_tb) M_tell_rm (va_Pc [.ref a_this, .int x1, .int x2] (xPre E (M_tell_w E a_this a_step a_stepMore a_counts x_row x_starts x_image x_readRow x_readStart x_readAt x_readMany x_piece x_packed x_pairBefore x_pairLast x_tokenLength x_tokenValue x_lengths x_fixed x_ranked x_weight x_weightBefore x_items x_lengthRow x_codes x_symbolTree x_distanceTree x_smallTree x_readLengths x_source x_target v_steps c_step c_stepMore c_counts v_plain v_closed v_rowSize v_pieces v_imageSize v_readSize v_readPieces v_packedBits v_tokens v_sourceFrom v_sourceBits v_readBits v_wrong v_made v_room) sz)) (xQv E (fun (u : Int32 × (Nat → Int32) × (Nat → Int32) × (Nat → Int32)) => u = res.2) (fun (u : Int32 × (Nat → Int32) × (Nat → Int32) × (Nat → Int32)) => (M_tell_w E a_this a_step a_stepMore a_counts x_row x_starts x_image x_readRow x_readStart x_readAt x_readMany x_piece x_packed x_pairBefore x_pairLast x_tokenLength x_tokenValue x_lengths x_fixed x_ranked x_weight x_weightBefore x_items x_lengthRow x_codes x_symbolTree x_distanceTree x_smallTree x_readLengths x_source x_target u.1 u.2.1 u.2.2.1 u.2.2.2 v_plain v_closed v_rowSize v_pieces v_imageSize v_readSize v_readPieces v_packedBits v_tokens v_sourceFrom v_sourceBits v_readBits v_wrong v_made v_room)) (va_A (M_tell_w E a_this a_step a_stepMore a_counts x_row x_starts x_image x_readRow x_readStart x_readAt x_readMany x_piece x_packed x_pairBefore x_pairLast x_tokenLength x_tokenValue x_lengths x_fixed x_ranked x_weight x_weightBefore x_items x_lengthRow x_codes x_symbolTree x_distanceTree x_smallTree x_readLengths x_source x_target v_steps c_step c_stepMore c_counts v_plain v_closed v_rowSize v_pieces v_imageSize v_readSize v_readPieces v_packedBits v_tokens v_sourceFrom v_sourceBits v_readBits v_wrong v_made v_room) sz)) 0 0 (va_A (M_tell_w E a_this a_step a_stepMore a_counts x_row x_starts x_image x_readRow x_readStart x_readAt x_readMany x_piece x_packed x_pairBefore x_pairLast x_tokenLength x_tokenValue x_lengths x_fixed x_ranked x_weight x_weightBefore x_items x_lengthRow x_codes x_symbolTree x_distanceTree x_smallTree x_readLengths x_source x_target v_steps c_step c_stepMore c_counts v_plain v_closed v_rowSize v_pieces v_imageSize v_readSize v_readPieces v_packedBits v_tokens v_sourceFrom v_sourceBits v_readBits v_wrong v_made v_room) sz) := by
  refine xEnV (by decide) (Nat.le_of_ble_eq_true rfl) ?_
  intro p e s m args below meth c A ls Q hx hb hnm hts hown hml hK hA hI hN hret hP hD hS hl
  replace hown : s.vm.findClass R_M = some m.cls := hown
  replace hl : lv_has ls 3 [(0, .ref a_this), (1, .int x1), (2, .int x2)] := hl
  obtain ⟨H, eH⟩ : ∃ z, z = s.heap := ⟨_, rfl⟩
  obtain ⟨locs, eL⟩ : ∃ z : List Loc, z = [] := ⟨_, rfl⟩
  rw [show W p l e M_tell_rm s m args below meth c s.heap [] 0 0 Q (F0 m 0 ls []) = W p l e M_tell_rm s m args below meth c H locs 0 0 Q (F0 m 0 ls []) by rw [eH, eL]]
  replace hP : va_P E.1 vwCl (M_tell_w E a_this a_step a_stepMore a_counts x_row x_starts x_image x_readRow x_readStart x_readAt x_readMany x_piece x_packed x_pairBefore x_pairLast x_tokenLength x_tokenValue x_lengths x_fixed x_ranked x_weight x_weightBefore x_items x_lengthRow x_codes x_symbolTree x_distanceTree x_smallTree x_readLengths x_source x_target v_steps c_step c_stepMore c_counts v_plain v_closed v_rowSize v_pieces v_imageSize v_readSize v_readPieces v_packedBits v_tokens v_sourceFrom v_sourceBits v_readBits v_wrong v_made v_room) H := by rw [eH]; exact hP
  replace hS : va_S A s.heap H locs := by rw [eH, eL]; exact hS
  clear eH eL
  rw [M_tell] at hm
  refine lv_aload_n hx hb d_M_tell_0 rfl (lv_at hl 0 rfl) ?_
  refine va_get (D := E.1) (ci := 12) (v := .ref a_step) (C := R_M) (T := F_M) (N := 46) hx hb hts i_M hown hK hP 0 rfl rfl 31 (by decide) (hts _ tw_826) (fun _ h9 => h9) rfl d_M_tell_1 ?_
  refine lv_aload_n hx hb d_M_tell_4 rfl (lv_at hl 0 rfl) ?_
  refine va_get (D := E.1) (ci := 12) (v := .int v_steps) (C := R_M) (T := F_M) (N := 46) hx hb hts i_M hown hK hP 0 rfl rfl 30 (by decide) (hts _ tw_825) (fun _ h9 => h9) rfl d_M_tell_5 ?_
  refine lv_iload_n hx hb d_M_tell_8 rfl (lv_at hl 1 rfl) ?_
  obtain ⟨hi9, hm⟩ := mG_e hm
  obtain ⟨c_1, ec_1⟩ : ∃ z : Nat → Int32, z = upd c_step v_steps.toNatClampNeg x1 := ⟨_, rfl⟩
  replace hm := mL_e hm c_1 ec_1
  refine va_iast hx hb hK hP hD hS 1 0 rfl rfl hi9 d_M_tell_9 (fun H locs hP hD hS => ?_)
  rw [← ec_1] at hP hD
  replace hP : va_P E.1 vwCl (M_tell_w E a_this a_step a_stepMore a_counts x_row x_starts x_image x_readRow x_readStart x_readAt x_readMany x_piece x_packed x_pairBefore x_pairLast x_tokenLength x_tokenValue x_lengths x_fixed x_ranked x_weight x_weightBefore x_items x_lengthRow x_codes x_symbolTree x_distanceTree x_smallTree x_readLengths x_source x_target v_steps c_1 c_stepMore c_counts v_plain v_closed v_rowSize v_pieces v_imageSize v_readSize v_readPieces v_packedBits v_tokens v_sourceFrom v_sourceBits v_readBits v_wrong v_made v_room) H := hP
  replace hD : va_D A (M_tell_w E a_this a_step a_stepMore a_counts x_row x_starts x_image x_readRow x_readStart x_readAt x_readMany x_piece x_packed x_pairBefore x_pairLast x_tokenLength x_tokenValue x_lengths x_fixed x_ranked x_weight x_weightBefore x_items x_lengthRow x_codes x_symbolTree x_distanceTree x_smallTree x_readLengths x_source x_target v_steps c_1 c_stepMore c_counts v_plain v_closed v_rowSize v_pieces v_imageSize v_readSize v_readPieces v_packedBits v_tokens v_sourceFrom v_sourceBits v_readBits v_wrong v_made v_room) := hD
  refine lv_aload_n hx hb d_M_tell_10 rfl (lv_at hl 0 rfl) ?_
  refine va_get (D := E.1) (ci := 12) (v := .ref a_stepMore) (C := R_M) (T := F_M) (N := 46) hx hb hts i_M hown hK hP 0 rfl rfl 32 (by decide) (hts _ tw_827) (fun _ h9 => h9) rfl d_M_tell_11 ?_
  refine lv_aload_n hx hb d_M_tell_14 rfl (lv_at hl 0 rfl) ?_
  refine va_get (D := E.1) (ci := 12) (v := .int v_steps) (C := R_M) (T := F_M) (N := 46) hx hb hts i_M hown hK hP 0 rfl rfl 30 (by decide) (hts _ tw_825) (fun _ h9 => h9) rfl d_M_tell_15 ?_
  refine lv_iload_n hx hb d_M_tell_18 rfl (lv_at hl 2 rfl) ?_
  obtain ⟨hi19, hm⟩ := mG_e hm
  obtain ⟨c_2, ec_2⟩ : ∃ z : Nat → Int32, z = upd c_stepMore v_steps.toNatClampNeg x2 := ⟨_, rfl⟩
  replace hm := mL_e hm c_2 ec_2
  refine va_iast hx hb hK hP hD hS 2 0 rfl rfl hi19 d_M_tell_19 (fun H locs hP hD hS => ?_)
  rw [← ec_2] at hP hD
  replace hP : va_P E.1 vwCl (M_tell_w E a_this a_step a_stepMore a_counts x_row x_starts x_image x_readRow x_readStart x_readAt x_readMany x_piece x_packed x_pairBefore x_pairLast x_tokenLength x_tokenValue x_lengths x_fixed x_ranked x_weight x_weightBefore x_items x_lengthRow x_codes x_symbolTree x_distanceTree x_smallTree x_readLengths x_source x_target v_steps c_1 c_2 c_counts v_plain v_closed v_rowSize v_pieces v_imageSize v_readSize v_readPieces v_packedBits v_tokens v_sourceFrom v_sourceBits v_readBits v_wrong v_made v_room) H := hP
  replace hD : va_D A (M_tell_w E a_this a_step a_stepMore a_counts x_row x_starts x_image x_readRow x_readStart x_readAt x_readMany x_piece x_packed x_pairBefore x_pairLast x_tokenLength x_tokenValue x_lengths x_fixed x_ranked x_weight x_weightBefore x_items x_lengthRow x_codes x_symbolTree x_distanceTree x_smallTree x_readLengths x_source x_target v_steps c_1 c_2 c_counts v_plain v_closed v_rowSize v_pieces v_imageSize v_readSize v_readPieces v_packedBits v_tokens v_sourceFrom v_sourceBits v_readBits v_wrong v_made v_room) := hD
  refine lv_aload_n hx hb d_M_tell_20 rfl (lv_at hl 0 rfl) ?_
  refine lv_dup hx hb d_M_tell_21 rfl ?_
  refine va_get (D := E.1) (ci := 12) (v := .int v_steps) (C := R_M) (T := F_M) (N := 46) hx hb hts i_M hown hK hP 0 rfl rfl 30 (by decide) (hts _ tw_825) (fun _ h9 => h9) rfl d_M_tell_22 ?_
  refine lv_iconst (v := 1) hx hb d_M_tell_25 (by decide) ?_
  refine lv_iadd hx hb d_M_tell_26 ?_
  refine lv_topi (fun v_3 ev_3 => ?_)
  replace hm := mL_e hm v_3 ev_3
  refine va_put (D := E.1) (ci := 12) (v := .int v_3) (ty := .int) (C := R_M) (T := F_M) (N := 46) hx hb hts i_M t_M t_M_ok n_M hown hK hP hD hS 0 rfl rfl 30 (by decide) (hts _ tw_825) (fun _ h9 => h9) rfl (by decide +kernel) rfl rfl (Nat.le_of_ble_eq_true rfl) d_M_tell_27 (fun H locs hP hD hS => ?_)
  replace hP : va_P E.1 vwCl (M_tell_w E a_this a_step a_stepMore a_counts x_row x_starts x_image x_readRow x_readStart x_readAt x_readMany x_piece x_packed x_pairBefore x_pairLast x_tokenLength x_tokenValue x_lengths x_fixed x_ranked x_weight x_weightBefore x_items x_lengthRow x_codes x_symbolTree x_distanceTree x_smallTree x_readLengths x_source x_target v_3 c_1 c_2 c_counts v_plain v_closed v_rowSize v_pieces v_imageSize v_readSize v_readPieces v_packedBits v_tokens v_sourceFrom v_sourceBits v_readBits v_wrong v_made v_room) H := hP
  replace hD : va_D A (M_tell_w E a_this a_step a_stepMore a_counts x_row x_starts x_image x_readRow x_readStart x_readAt x_readMany x_piece x_packed x_pairBefore x_pairLast x_tokenLength x_tokenValue x_lengths x_fixed x_ranked x_weight x_weightBefore x_items x_lengthRow x_codes x_symbolTree x_distanceTree x_smallTree x_readLengths x_source x_target v_3 c_1 c_2 c_counts v_plain v_closed v_rowSize v_pieces v_imageSize v_readSize v_readPieces v_packedBits v_tokens v_sourceFrom v_sourceBits v_readBits v_wrong v_made v_room) := hD
  refine lv_aload_n hx hb d_M_tell_30 rfl (lv_at hl 0 rfl) ?_
  refine va_get (D := E.1) (ci := 12) (v := .ref a_counts) (C := R_M) (T := F_M) (N := 46) hx hb hts i_M hown hK hP 0 rfl rfl 22 (by decide) (hts _ tw_817) (fun _ h9 => h9) rfl d_M_tell_31 ?_
  refine lv_sipush (v := 320) hx hb d_M_tell_34 (by decide) ?_
  refine lv_iload_n hx hb d_M_tell_37 rfl (lv_at hl 1 rfl) ?_
  refine lv_iadd hx hb d_M_tell_38 ?_
  refine lv_topi (fun t_4 et_4 => ?_)
  replace hm := mL_e hm t_4 et_4
  refine lv_dup2_11 hx hb d_M_tell_39 rfl rfl ?_
  obtain ⟨hi40, hm⟩ := mG_e hm
  refine va_iald hx hb hK hP 3 0 rfl rfl hi40 d_M_tell_40 ?_
  refine lv_iconst (v := 1) hx hb d_M_tell_41 (by decide) ?_
  refine lv_iadd hx hb d_M_tell_42 ?_
  refine lv_topi (fun v_5 ev_5 => ?_)
  replace hm := mL_e hm v_5 ev_5
  obtain ⟨hi43, hm⟩ := mG_e hm
  obtain ⟨c_6, ec_6⟩ : ∃ z : Nat → Int32, z = upd c_counts t_4.toNatClampNeg v_5 := ⟨_, rfl⟩
  replace hm := mL_e hm c_6 ec_6
  refine va_iast hx hb hK hP hD hS 3 0 rfl rfl hi43 d_M_tell_43 (fun H locs hP hD hS => ?_)
  rw [← ec_6] at hP hD
  replace hP : va_P E.1 vwCl (M_tell_w E a_this a_step a_stepMore a_counts x_row x_starts x_image x_readRow x_readStart x_readAt x_readMany x_piece x_packed x_pairBefore x_pairLast x_tokenLength x_tokenValue x_lengths x_fixed x_ranked x_weight x_weightBefore x_items x_lengthRow x_codes x_symbolTree x_distanceTree x_smallTree x_readLengths x_source x_target v_3 c_1 c_2 c_6 v_plain v_closed v_rowSize v_pieces v_imageSize v_readSize v_readPieces v_packedBits v_tokens v_sourceFrom v_sourceBits v_readBits v_wrong v_made v_room) H := hP
  replace hD : va_D A (M_tell_w E a_this a_step a_stepMore a_counts x_row x_starts x_image x_readRow x_readStart x_readAt x_readMany x_piece x_packed x_pairBefore x_pairLast x_tokenLength x_tokenValue x_lengths x_fixed x_ranked x_weight x_weightBefore x_items x_lengthRow x_codes x_symbolTree x_distanceTree x_smallTree x_readLengths x_source x_target v_3 c_1 c_2 c_6 v_plain v_closed v_rowSize v_pieces v_imageSize v_readSize v_readPieces v_packedBits v_tokens v_sourceFrom v_sourceBits v_readBits v_wrong v_made v_room) := hD
  replace hm := Option.some.inj hm
  subst hm
  exact hret d_M_tell_44 (u := (v_3, c_1, c_2, c_6)) rfl hP hD hS
theorem d_M_tellRow_0 : decode b_M_tellRow 0 = .ok (.aload_n 0, 1) := by decide +kernel
theorem d_M_tellRow_1 : decode b_M_tellRow 1 = .ok (.iconst 0, 1) := by decide +kernel
theorem d_M_tellRow_2 : decode b_M_tellRow 2 = .ok (.putfield 144, 3) := by decide +kernel
theorem d_M_tellRow_5 : decode b_M_tellRow 5 = .ok (.iconst 0, 1) := by decide +kernel
theorem d_M_tellRow_6 : decode b_M_tellRow 6 = .ok (.istore_n 2, 1) := by decide +kernel
theorem d_M_tellRow_7 : decode b_M_tellRow 7 = .ok (.iload_n 2, 1) := by decide +kernel
theorem d_M_tellRow_8 : decode b_M_tellRow 8 = .ok (.iload_n 1, 1) := by decide +kernel
theorem d_M_tellRow_9 : decode b_M_tellRow 9 = .ok (.if_icmp .ge 184, 3) := by decide +kernel
theorem d_M_tellRow_12 : decode b_M_tellRow 12 = .ok (.aload_n 0, 1) := by decide +kernel
theorem d_M_tellRow_13 : decode b_M_tellRow 13 = .ok (.getfield 73, 3) := by decide +kernel
theorem d_M_tellRow_16 : decode b_M_tellRow 16 = .ok (.iload_n 2, 1) := by decide +kernel
theorem d_M_tellRow_17 : decode b_M_tellRow 17 = .ok (.iaload, 1) := by decide +kernel
theorem d_M_tellRow_18 : decode b_M_tellRow 18 = .ok (.istore_n 3, 1) := by decide +kernel
theorem d_M_tellRow_19 : decode b_M_tellRow 19 = .ok (.iconst 0, 1) := by decide +kernel
theorem d_M_tellRow_20 : decode b_M_tellRow 20 = .ok (.istore 4, 2) := by decide +kernel
theorem d_M_tellRow_22 : decode b_M_tellRow 22 = .ok (.iload_n 2, 1) := by decide +kernel
theorem d_M_tellRow_23 : decode b_M_tellRow 23 = .ok (.iload 4, 2) := by decide +kernel
theorem d_M_tellRow_25 : decode b_M_tellRow 25 = .ok (.iadd, 1) := by decide +kernel
theorem d_M_tellRow_26 : decode b_M_tellRow 26 = .ok (.iload_n 1, 1) := by decide +kernel
theorem d_M_tellRow_27 : decode b_M_tellRow 27 = .ok (.if_icmp .ge 22, 3) := by decide +kernel
theorem d_M_tellRow_30 : decode b_M_tellRow 30 = .ok (.aload_n 0, 1) := by decide +kernel
theorem d_M_tellRow_31 : decode b_M_tellRow 31 = .ok (.getfield 73, 3) := by decide +kernel
theorem d_M_tellRow_34 : decode b_M_tellRow 34 = .ok (.iload_n 2, 1) := by decide +kernel
theorem d_M_tellRow_35 : decode b_M_tellRow 35 = .ok (.iload 4, 2) := by decide +kernel
theorem d_M_tellRow_37 : decode b_M_tellRow 37 = .ok (.iadd, 1) := by decide +kernel
theorem d_M_tellRow_38 : decode b_M_tellRow 38 = .ok (.iaload, 1) := by decide +kernel
theorem d_M_tellRow_39 : decode b_M_tellRow 39 = .ok (.iload_n 3, 1) := by decide +kernel
theorem d_M_tellRow_40 : decode b_M_tellRow 40 = .ok (.if_icmp .ne 9, 3) := by decide +kernel
theorem d_M_tellRow_43 : decode b_M_tellRow 43 = .ok (.iinc 4 1, 3) := by decide +kernel
theorem d_M_tellRow_46 : decode b_M_tellRow 46 = .ok (.goto (-24), 3) := by decide +kernel
theorem d_M_tellRow_49 : decode b_M_tellRow 49 = .ok (.iload_n 2, 1) := by decide +kernel
theorem d_M_tellRow_50 : decode b_M_tellRow 50 = .ok (.iload 4, 2) := by decide +kernel
theorem d_M_tellRow_52 : decode b_M_tellRow 52 = .ok (.iadd, 1) := by decide +kernel
theorem d_M_tellRow_53 : decode b_M_tellRow 53 = .ok (.istore_n 2, 1) := by decide +kernel
theorem d_M_tellRow_54 : decode b_M_tellRow 54 = .ok (.iload_n 3, 1) := by decide +kernel
theorem d_M_tellRow_55 : decode b_M_tellRow 55 = .ok (.ifCond .le 12, 3) := by decide +kernel
theorem d_M_tellRow_58 : decode b_M_tellRow 58 = .ok (.aload_n 0, 1) := by decide +kernel
theorem d_M_tellRow_59 : decode b_M_tellRow 59 = .ok (.iload_n 3, 1) := by decide +kernel
theorem d_M_tellRow_60 : decode b_M_tellRow 60 = .ok (.iconst 0, 1) := by decide +kernel
theorem d_M_tellRow_61 : decode b_M_tellRow 61 = .ok (.invokevirtual 147, 3) := by decide +kernel
theorem d_M_tellRow_64 : decode b_M_tellRow 64 = .ok (.iinc 4 (-1), 3) := by decide +kernel
theorem d_M_tellRow_67 : decode b_M_tellRow 67 = .ok (.iload 4, 2) := by decide +kernel
theorem d_M_tellRow_69 : decode b_M_tellRow 69 = .ok (.iload_n 3, 1) := by decide +kernel
theorem d_M_tellRow_70 : decode b_M_tellRow 70 = .ok (.ifCond .le 7, 3) := by decide +kernel
theorem d_M_tellRow_73 : decode b_M_tellRow 73 = .ok (.iconst 3, 1) := by decide +kernel
theorem d_M_tellRow_74 : decode b_M_tellRow 74 = .ok (.goto 5, 3) := by decide +kernel
theorem d_M_tellRow_77 : decode b_M_tellRow 77 = .ok (.bipush 11, 2) := by decide +kernel
theorem d_M_tellRow_79 : decode b_M_tellRow 79 = .ok (.if_icmp .lt 71, 3) := by decide +kernel
theorem d_M_tellRow_82 : decode b_M_tellRow 82 = .ok (.iload_n 3, 1) := by decide +kernel
theorem d_M_tellRow_83 : decode b_M_tellRow 83 = .ok (.ifCond .le 8, 3) := by decide +kernel
theorem d_M_tellRow_86 : decode b_M_tellRow 86 = .ok (.bipush 6, 2) := by decide +kernel
theorem d_M_tellRow_88 : decode b_M_tellRow 88 = .ok (.goto 6, 3) := by decide +kernel
theorem d_M_tellRow_91 : decode b_M_tellRow 91 = .ok (.sipush 138, 3) := by decide +kernel
theorem d_M_tellRow_94 : decode b_M_tellRow 94 = .ok (.istore 5, 2) := by decide +kernel
theorem d_M_tellRow_96 : decode b_M_tellRow 96 = .ok (.iload 4, 2) := by decide +kernel
theorem d_M_tellRow_98 : decode b_M_tellRow 98 = .ok (.iload 5, 2) := by decide +kernel
theorem d_M_tellRow_100 : decode b_M_tellRow 100 = .ok (.if_icmp .ge 8, 3) := by decide +kernel
theorem d_M_tellRow_103 : decode b_M_tellRow 103 = .ok (.iload 4, 2) := by decide +kernel
theorem d_M_tellRow_105 : decode b_M_tellRow 105 = .ok (.goto 5, 3) := by decide +kernel
theorem d_M_tellRow_108 : decode b_M_tellRow 108 = .ok (.iload 5, 2) := by decide +kernel
theorem d_M_tellRow_110 : decode b_M_tellRow 110 = .ok (.istore 6, 2) := by decide +kernel
theorem d_M_tellRow_112 : decode b_M_tellRow 112 = .ok (.aload_n 0, 1) := by decide +kernel
theorem d_M_tellRow_113 : decode b_M_tellRow 113 = .ok (.iload_n 3, 1) := by decide +kernel
theorem d_M_tellRow_114 : decode b_M_tellRow 114 = .ok (.ifCond .le 8, 3) := by decide +kernel
theorem d_M_tellRow_117 : decode b_M_tellRow 117 = .ok (.bipush 16, 2) := by decide +kernel
theorem d_M_tellRow_119 : decode b_M_tellRow 119 = .ok (.goto 5, 3) := by decide +kernel
theorem d_M_tellRow_122 : decode b_M_tellRow 122 = .ok (.bipush 18, 2) := by decide +kernel
theorem d_M_tellRow_124 : decode b_M_tellRow 124 = .ok (.iload 6, 2) := by decide +kernel
theorem d_M_tellRow_126 : decode b_M_tellRow 126 = .ok (.iload_n 3, 1) := by decide +kernel
theorem d_M_tellRow_127 : decode b_M_tellRow 127 = .ok (.ifCond .le 7, 3) := by decide +kernel
theorem d_M_tellRow_130 : decode b_M_tellRow 130 = .ok (.iconst 3, 1) := by decide +kernel
theorem d_M_tellRow_131 : decode b_M_tellRow 131 = .ok (.goto 5, 3) := by decide +kernel
theorem d_M_tellRow_134 : decode b_M_tellRow 134 = .ok (.bipush 11, 2) := by decide +kernel
theorem d_M_tellRow_136 : decode b_M_tellRow 136 = .ok (.isub, 1) := by decide +kernel
theorem d_M_tellRow_137 : decode b_M_tellRow 137 = .ok (.invokevirtual 147, 3) := by decide +kernel
theorem d_M_tellRow_140 : decode b_M_tellRow 140 = .ok (.iload 4, 2) := by decide +kernel
theorem d_M_tellRow_142 : decode b_M_tellRow 142 = .ok (.iload 6, 2) := by decide +kernel
theorem d_M_tellRow_144 : decode b_M_tellRow 144 = .ok (.isub, 1) := by decide +kernel
theorem d_M_tellRow_145 : decode b_M_tellRow 145 = .ok (.istore 4, 2) := by decide +kernel
theorem d_M_tellRow_147 : decode b_M_tellRow 147 = .ok (.goto (-80), 3) := by decide +kernel
theorem d_M_tellRow_150 : decode b_M_tellRow 150 = .ok (.iload_n 3, 1) := by decide +kernel
theorem d_M_tellRow_151 : decode b_M_tellRow 151 = .ok (.ifCond .ne 22, 3) := by decide +kernel
theorem d_M_tellRow_154 : decode b_M_tellRow 154 = .ok (.iload 4, 2) := by decide +kernel
theorem d_M_tellRow_156 : decode b_M_tellRow 156 = .ok (.iconst 3, 1) := by decide +kernel
theorem d_M_tellRow_157 : decode b_M_tellRow 157 = .ok (.if_icmp .lt 16, 3) := by decide +kernel
theorem d_M_tellRow_160 : decode b_M_tellRow 160 = .ok (.aload_n 0, 1) := by decide +kernel
theorem d_M_tellRow_161 : decode b_M_tellRow 161 = .ok (.bipush 17, 2) := by decide +kernel
theorem d_M_tellRow_163 : decode b_M_tellRow 163 = .ok (.iload 4, 2) := by decide +kernel
theorem d_M_tellRow_165 : decode b_M_tellRow 165 = .ok (.iconst 3, 1) := by decide +kernel
theorem d_M_tellRow_166 : decode b_M_tellRow 166 = .ok (.isub, 1) := by decide +kernel
theorem d_M_tellRow_167 : decode b_M_tellRow 167 = .ok (.invokevirtual 147, 3) := by decide +kernel
theorem d_M_tellRow_170 : decode b_M_tellRow 170 = .ok (.iconst 0, 1) := by decide +kernel
theorem d_M_tellRow_171 : decode b_M_tellRow 171 = .ok (.istore 4, 2) := by decide +kernel
theorem d_M_tellRow_173 : decode b_M_tellRow 173 = .ok (.iload 4, 2) := by decide +kernel
theorem d_M_tellRow_175 : decode b_M_tellRow 175 = .ok (.ifCond .le 15, 3) := by decide +kernel
theorem d_M_tellRow_178 : decode b_M_tellRow 178 = .ok (.aload_n 0, 1) := by decide +kernel
theorem d_M_tellRow_179 : decode b_M_tellRow 179 = .ok (.iload_n 3, 1) := by decide +kernel
theorem d_M_tellRow_180 : decode b_M_tellRow 180 = .ok (.iconst 0, 1) := by decide +kernel
theorem d_M_tellRow_181 : decode b_M_tellRow 181 = .ok (.invokevirtual 147, 3) := by decide +kernel
theorem d_M_tellRow_184 : decode b_M_tellRow 184 = .ok (.iinc 4 (-1), 3) := by decide +kernel
theorem d_M_tellRow_187 : decode b_M_tellRow 187 = .ok (.goto (-14), 3) := by decide +kernel
theorem d_M_tellRow_190 : decode b_M_tellRow 190 = .ok (.goto (-183), 3) := by decide +kernel
theorem d_M_tellRow_193 : decode b_M_tellRow 193 = .ok (.return_, 1) := by decide +kernel
def M_tellRow_190 (F : Nat) (k_7 : Int32 → (Nat → Int32) → (Nat → Int32) → (Nat → Int32) → Int32 → Option (Unit × Int32 × (Nat → Int32) × (Nat → Int32) × (Nat → Int32))) (v_steps : Int32) (c_step : Nat → Int32) (c_stepMore : Nat → Int32) (c_counts : Nat → Int32) (x2 : Int32) : Option (Unit × Int32 × (Nat → Int32) × (Nat → Int32) × (Nat → Int32)) :=
  k_7 v_steps c_step c_stepMore c_counts x2
def M_tellRow_173 (F : Nat) (k_190 : Int32 → (Nat → Int32) → (Nat → Int32) → (Nat → Int32) → Int32 → Option (Unit × Int32 × (Nat → Int32) × (Nat → Int32) × (Nat → Int32))) (k_173 : Int32 → (Nat → Int32) → (Nat → Int32) → (Nat → Int32) → Int32 → Int32 → Int32 → Option (Unit × Int32 × (Nat → Int32) × (Nat → Int32) × (Nat → Int32))) (v_steps : Int32) (c_step : Nat → Int32) (c_stepMore : Nat → Int32) (c_counts : Nat → Int32) (x2 : Int32) (x3 : Int32) (x4 : Int32) : Option (Unit × Int32 × (Nat → Int32) × (Nat → Int32) × (Nat → Int32)) :=
  mC (x4 ≤ 0) (k_190 v_steps c_step c_stepMore c_counts x2) (mR4 (M_tell F v_steps c_step c_stepMore c_counts x3 0) fun _ v_steps_1 c_step_2 c_stepMore_3 c_counts_4 => mL (x4 + (-1)) fun y4_6 => k_173 v_steps_1 c_step_2 c_stepMore_3 c_counts_4 x2 x3 y4_6)
def M_tellRow_150 (F : Nat) (k_7 : Int32 → (Nat → Int32) → (Nat → Int32) → (Nat → Int32) → Int32 → Option (Unit × Int32 × (Nat → Int32) × (Nat → Int32) × (Nat → Int32))) (v_steps : Int32) (c_step : Nat → Int32) (c_stepMore : Nat → Int32) (c_counts : Nat → Int32) (x2 : Int32) (x3 : Int32) (x4 : Int32) : Option (Unit × Int32 × (Nat → Int32) × (Nat → Int32) × (Nat → Int32)) :=
  mC (x3 = 0) (mC (x4 < 3) ((mW7 (M_tellRow_173 F (M_tellRow_190 F k_7)) F) v_steps c_step c_stepMore c_counts x2 x3 x4) (mL (x4 - 3) fun t_7 => mR4 (M_tell F v_steps c_step c_stepMore c_counts 17 t_7) fun _ v_steps_8 c_step_9 c_stepMore_10 c_counts_11 => (mW7 (M_tellRow_173 F (M_tellRow_190 F k_7)) F) v_steps_8 c_step_9 c_stepMore_10 c_counts_11 x2 x3 0)) ((mW7 (M_tellRow_173 F (M_tellRow_190 F k_7)) F) v_steps c_step c_stepMore c_counts x2 x3 x4)
def M_tellRow_136 (F : Nat) (k_67 : Int32 → (Nat → Int32) → (Nat → Int32) → (Nat → Int32) → Int32 → Int32 → Int32 → Option (Unit × Int32 × (Nat → Int32) × (Nat → Int32) × (Nat → Int32))) (v_steps : Int32) (c_step : Nat → Int32) (c_stepMore : Nat → Int32) (c_counts : Nat → Int32) (x2 : Int32) (x3 : Int32) (x4 : Int32) (x6 : Int32) (s1 : Int32) (s2 : Int32) (s3 : Int32) : Option (Unit × Int32 × (Nat → Int32) × (Nat → Int32) × (Nat → Int32)) :=
  mL (s2 - s3) fun t_13 => mR4 (M_tell F v_steps c_step c_stepMore c_counts s1 t_13) fun _ v_steps_14 c_step_15 c_stepMore_16 c_counts_17 => mL (x4 - x6) fun y4_19 => k_67 v_steps_14 c_step_15 c_stepMore_16 c_counts_17 x2 x3 y4_19
def M_tellRow_124 (F : Nat) (k_67 : Int32 → (Nat → Int32) → (Nat → Int32) → (Nat → Int32) → Int32 → Int32 → Int32 → Option (Unit × Int32 × (Nat → Int32) × (Nat → Int32) × (Nat → Int32))) (v_steps : Int32) (c_step : Nat → Int32) (c_stepMore : Nat → Int32) (c_counts : Nat → Int32) (x2 : Int32) (x3 : Int32) (x4 : Int32) (x6 : Int32) (s1 : Int32) : Option (Unit × Int32 × (Nat → Int32) × (Nat → Int32) × (Nat → Int32)) :=
  mC (x3 ≤ 0) ((M_tellRow_136 F k_67) v_steps c_step c_stepMore c_counts x2 x3 x4 x6 s1 x6 11) ((M_tellRow_136 F k_67) v_steps c_step c_stepMore c_counts x2 x3 x4 x6 s1 x6 3)
def M_tellRow_110 (F : Nat) (k_67 : Int32 → (Nat → Int32) → (Nat → Int32) → (Nat → Int32) → Int32 → Int32 → Int32 → Option (Unit × Int32 × (Nat → Int32) × (Nat → Int32) × (Nat → Int32))) (v_steps : Int32) (c_step : Nat → Int32) (c_stepMore : Nat → Int32) (c_counts : Nat → Int32) (x2 : Int32) (x3 : Int32) (x4 : Int32) (s0 : Int32) : Option (Unit × Int32 × (Nat → Int32) × (Nat → Int32) × (Nat → Int32)) :=
  mC (x3 ≤ 0) ((M_tellRow_124 F k_67) v_steps c_step c_stepMore c_counts x2 x3 x4 s0 18) ((M_tellRow_124 F k_67) v_steps c_step c_stepMore c_counts x2 x3 x4 s0 16)
def M_tellRow_94 (F : Nat) (k_67 : Int32 → (Nat → Int32) → (Nat → Int32) → (Nat → Int32) → Int32 → Int32 → Int32 → Option (Unit × Int32 × (Nat → Int32) × (Nat → Int32) × (Nat → Int32))) (v_steps : Int32) (c_step : Nat → Int32) (c_stepMore : Nat → Int32) (c_counts : Nat → Int32) (x2 : Int32) (x3 : Int32) (x4 : Int32) (s0 : Int32) : Option (Unit × Int32 × (Nat → Int32) × (Nat → Int32) × (Nat → Int32)) :=
  mC (s0 ≤ x4) ((M_tellRow_110 F k_67) v_steps c_step c_stepMore c_counts x2 x3 x4 s0) ((M_tellRow_110 F k_67) v_steps c_step c_stepMore c_counts x2 x3 x4 x4)
def M_tellRow_79 (F : Nat) (k_67 : Int32 → (Nat → Int32) → (Nat → Int32) → (Nat → Int32) → Int32 → Int32 → Int32 → Option (Unit × Int32 × (Nat → Int32) × (Nat → Int32) × (Nat → Int32))) (k_150 : Int32 → (Nat → Int32) → (Nat → Int32) → (Nat → Int32) → Int32 → Int32 → Int32 → Option (Unit × Int32 × (Nat → Int32) × (Nat → Int32) × (Nat → Int32))) (v_steps : Int32) (c_step : Nat → Int32) (c_stepMore : Nat → Int32) (c_counts : Nat → Int32) (x2 : Int32) (x3 : Int32) (x4 : Int32) (s0 : Int32) (s1 : Int32) : Option (Unit × Int32 × (Nat → Int32) × (Nat → Int32) × (Nat → Int32)) :=
  mC (s0 < s1) (k_150 v_steps c_step c_stepMore c_counts x2 x3 x4) (mC (x3 ≤ 0) ((M_tellRow_94 F k_67) v_steps c_step c_stepMore c_counts x2 x3 x4 138) ((M_tellRow_94 F k_67) v_steps c_step c_stepMore c_counts x2 x3 x4 6))
def M_tellRow_67 (F : Nat) (k_150 : Int32 → (Nat → Int32) → (Nat → Int32) → (Nat → Int32) → Int32 → Int32 → Int32 → Option (Unit × Int32 × (Nat → Int32) × (Nat → Int32) × (Nat → Int32))) (k_67 : Int32 → (Nat → Int32) → (Nat → Int32) → (Nat → Int32) → Int32 → Int32 → Int32 → Option (Unit × Int32 × (Nat → Int32) × (Nat → Int32) × (Nat → Int32))) (v_steps : Int32) (c_step : Nat → Int32) (c_stepMore : Nat → Int32) (c_counts : Nat → Int32) (x2 : Int32) (x3 : Int32) (x4 : Int32) : Option (Unit × Int32 × (Nat → Int32) × (Nat → Int32) × (Nat → Int32)) :=
  mC (x3 ≤ 0) ((M_tellRow_79 F k_67 k_150) v_steps c_step c_stepMore c_counts x2 x3 x4 x4 11) ((M_tellRow_79 F k_67 k_150) v_steps c_step c_stepMore c_counts x2 x3 x4 x4 3)
def M_tellRow_49 (F : Nat) (k_7 : Int32 → (Nat → Int32) → (Nat → Int32) → (Nat → Int32) → Int32 → Option (Unit × Int32 × (Nat → Int32) × (Nat → Int32) × (Nat → Int32))) (v_steps : Int32) (c_step : Nat → Int32) (c_stepMore : Nat → Int32) (c_counts : Nat → Int32) (x2 : Int32) (x3 : Int32) (x4 : Int32) : Option (Unit × Int32 × (Nat → Int32) × (Nat → Int32) × (Nat → Int32)) :=
  mL (x2 + x4) fun y2_20 => mC (x3 ≤ 0) ((mW7 (M_tellRow_67 F (M_tellRow_150 F k_7)) F) v_steps c_step c_stepMore c_counts y2_20 x3 x4) (mR4 (M_tell F v_steps c_step c_stepMore c_counts x3 0) fun _ v_steps_21 c_step_22 c_stepMore_23 c_counts_24 => mL (x4 + (-1)) fun y4_26 => (mW7 (M_tellRow_67 F (M_tellRow_150 F k_7)) F) v_steps_21 c_step_22 c_stepMore_23 c_counts_24 y2_20 x3 y4_26)
def M_tellRow_22 (F : Nat) (c_lengthRow : Nat → Int32) (x1 : Int32) (k_49 : Int32 → (Nat → Int32) → (Nat → Int32) → (Nat → Int32) → Int32 → Int32 → Int32 → Option (Unit × Int32 × (Nat → Int32) × (Nat → Int32) × (Nat → Int32))) (k_22 : Int32 → (Nat → Int32) → (Nat → Int32) → (Nat → Int32) → Int32 → Int32 → Int32 → Option (Unit × Int32 × (Nat → Int32) × (Nat → Int32) × (Nat → Int32))) (v_steps : Int32) (c_step : Nat → Int32) (c_stepMore : Nat → Int32) (c_counts : Nat → Int32) (x2 : Int32) (x3 : Int32) (x4 : Int32) : Option (Unit × Int32 × (Nat → Int32) × (Nat → Int32) × (Nat → Int32)) :=
  mC (x1 ≤ (x2 + x4)) (k_49 v_steps c_step c_stepMore c_counts x2 x3 x4) (mL (x2 + x4) fun i_27 => mG i_27 320 (mC ((c_lengthRow i_27.toNatClampNeg) = x3) (mL (x4 + 1) fun y4_28 => k_22 v_steps c_step c_stepMore c_counts x2 x3 y4_28) (k_49 v_steps c_step c_stepMore c_counts x2 x3 x4)))
def M_tellRow_7 (F : Nat) (c_lengthRow : Nat → Int32) (x1 : Int32) (k_7 : Int32 → (Nat → Int32) → (Nat → Int32) → (Nat → Int32) → Int32 → Option (Unit × Int32 × (Nat → Int32) × (Nat → Int32) × (Nat → Int32))) (v_steps : Int32) (c_step : Nat → Int32) (c_stepMore : Nat → Int32) (c_counts : Nat → Int32) (x2 : Int32) : Option (Unit × Int32 × (Nat → Int32) × (Nat → Int32) × (Nat → Int32)) :=
  mC (x1 ≤ x2) (some ((), v_steps, c_step, c_stepMore, c_counts)) (mG x2 320 (mL (c_lengthRow x2.toNatClampNeg) fun y3_29 => (mW7 (M_tellRow_22 F c_lengthRow x1 (M_tellRow_49 F k_7)) F) v_steps c_step c_stepMore c_counts x2 y3_29 0))
abbrev M_tellRow_w (E : xE) (a_this : Nat) (a_lengthRow : Nat) (a_step : Nat) (a_stepMore : Nat) (a_counts : Nat) (x_row : Value) (x_starts : Value) (x_image : Value) (x_readRow : Value) (x_readStart : Value) (x_readAt : Value) (x_readMany : Value) (x_piece : Value) (x_packed : Value) (x_pairBefore : Value) (x_pairLast : Value) (x_tokenLength : Value) (x_tokenValue : Value) (x_lengths : Value) (x_fixed : Value) (x_ranked : Value) (x_weight : Value) (x_weightBefore : Value) (x_items : Value) (x_codes : Value) (x_symbolTree : Value) (x_distanceTree : Value) (x_smallTree : Value) (x_readLengths : Value) (x_source : Value) (x_target : Value) (c_lengthRow : Nat → Int32) (v_steps : Int32) (c_step : Nat → Int32) (c_stepMore : Nat → Int32) (c_counts : Nat → Int32) (v_plain : Int32) (v_closed : Int32) (v_rowSize : Int32) (v_pieces : Int32) (v_imageSize : Int32) (v_readSize : Int32) (v_readPieces : Int32) (v_packedBits : Int32) (v_tokens : Int32) (v_sourceFrom : Int32) (v_sourceBits : Int32) (v_readBits : Int32) (v_wrong : Int32) (v_made : Int32) (v_room : Int32) : va_W := [(a_this, .inr (12, [.int v_plain, .int v_closed, .int v_rowSize, x_row, .int v_pieces, x_starts, .int v_imageSize, x_image, .int v_readSize, x_readRow, .int v_readPieces, x_readStart, x_readAt, x_readMany, x_piece, x_packed, .int v_packedBits, x_pairBefore, x_pairLast, .int v_tokens, x_tokenLength, x_tokenValue, .ref a_counts, x_lengths, x_fixed, x_ranked, x_weight, x_weightBefore, x_items, .ref a_lengthRow, .int v_steps, .ref a_step, .ref a_stepMore, x_codes, x_symbolTree, x_distanceTree, x_smallTree, x_readLengths, x_source, .int v_sourceFrom, .int v_sourceBits, .int v_readBits, .int v_wrong, x_target, .int v_made, .int v_room])), (a_lengthRow, .inl (E.2.1, 320, .inl c_lengthRow)), (a_step, .inl (E.2.1, 320, .inl c_step)), (a_stepMore, .inl (E.2.1, 320, .inl c_stepMore)), (a_counts, .inl (E.2.1, 339, .inl c_counts))]
def M_tellRow (F : Nat) (c_lengthRow : Nat → Int32) (v_steps : Int32) (c_step : Nat → Int32) (c_stepMore : Nat → Int32) (c_counts : Nat → Int32) (x1 : Int32) : Option (Unit × Int32 × (Nat → Int32) × (Nat → Int32) × (Nat → Int32)) :=
  (mW5 (M_tellRow_7 F c_lengthRow x1) F) 0 c_step c_stepMore c_counts 0
abbrev M_tellRow_rm : Room := { frames := 1, cells := 0, slots := 0, locals := 22 }
set_option maxHeartbeats 4000000 in
set_option maxRecDepth 100000 in
theorem c_M_tellRow (l : Launch) (E : xE) (F sz : Nat) (a_this : Nat) (a_lengthRow : Nat) (a_step : Nat) (a_stepMore : Nat) (a_counts : Nat) (x_row : Value) (x_starts : Value) (x_image : Value) (x_readRow : Value) (x_readStart : Value) (x_readAt : Value) (x_readMany : Value) (x_piece : Value) (x_packed : Value) (x_pairBefore : Value) (x_pairLast : Value) (x_tokenLength : Value) (x_tokenValue : Value) (x_lengths : Value) (x_fixed : Value) (x_ranked : Value) (x_weight : Value) (x_weightBefore : Value) (x_items : Value) (x_codes : Value) (x_symbolTree : Value) (x_distanceTree : Value) (x_smallTree : Value) (x_readLengths : Value) (x_source : Value) (x_target : Value) (c_lengthRow : Nat → Int32) (v_steps : Int32) (c_step : Nat → Int32) (c_stepMore : Nat → Int32) (c_counts : Nat → Int32) (v_plain : Int32) (v_closed : Int32) (v_rowSize : Int32) (v_pieces : Int32) (v_imageSize : Int32) (v_readSize : Int32) (v_readPieces : Int32) (v_packedBits : Int32) (v_tokens : Int32) (v_sourceFrom : Int32) (v_sourceBits : Int32) (v_readBits : Int32) (v_wrong : Int32) (v_made : Int32) (v_room : Int32) (x1 : Int32) (res : Unit × Int32 × (Nat → Int32) × (Nat → Int32) × (Nat → Int32)) (hm : M_tellRow F c_lengthRow v_steps c_step c_stepMore c_counts x1 = some res) : Met l y_M_tellRow (Cond.code y_M_tellRow b_M_tellRow 7 none :: x_tb) M_tellRow_rm (va_Pc [.ref a_this, .int x1] (xPre E (M_tellRow_w E a_this a_lengthRow a_step a_stepMore a_counts x_row x_starts x_image x_readRow x_readStart x_readAt x_readMany x_piece x_packed x_pairBefore x_pairLast x_tokenLength x_tokenValue x_lengths x_fixed x_ranked x_weight x_weightBefore x_items x_codes x_symbolTree x_distanceTree x_smallTree x_readLengths x_source x_target c_lengthRow v_steps c_step c_stepMore c_counts v_plain v_closed v_rowSize v_pieces v_imageSize v_readSize v_readPieces v_packedBits v_tokens v_sourceFrom v_sourceBits v_readBits v_wrong v_made v_room) sz)) (xQv E (fun (u : Int32 × (Nat → Int32) × (Nat → Int32) × (Nat → Int32)) => u = res.2) (fun (u : Int32 × (Nat → Int32) × (Nat → Int32) × (Nat → Int32)) => (M_tellRow_w E a_this a_lengthRow a_step a_stepMore a_counts x_row x_starts x_image x_readRow x_readStart x_readAt x_readMany x_piece x_packed x_pairBefore x_pairLast x_tokenLength x_tokenValue x_lengths x_fixed x_ranked x_weight x_weightBefore x_items x_codes x_symbolTree x_distanceTree x_smallTree x_readLengths x_source x_target c_lengthRow u.1 u.2.1 u.2.2.1 u.2.2.2 v_plain v_closed v_rowSize v_pieces v_imageSize v_readSize v_readPieces v_packedBits v_tokens v_sourceFrom v_sourceBits v_readBits v_wrong v_made v_room)) (va_A (M_tellRow_w E a_this a_lengthRow a_step a_stepMore a_counts x_row x_starts x_image x_readRow x_readStart x_readAt x_readMany x_piece x_packed x_pairBefore x_pairLast x_tokenLength x_tokenValue x_lengths x_fixed x_ranked x_weight x_weightBefore x_items x_codes x_symbolTree x_distanceTree x_smallTree x_readLengths x_source x_target c_lengthRow v_steps c_step c_stepMore c_counts v_plain v_closed v_rowSize v_pieces v_imageSize v_readSize v_readPieces v_packedBits v_tokens v_sourceFrom v_sourceBits v_readBits v_wrong v_made v_room) sz)) 0 0 (va_A (M_tellRow_w E a_this a_lengthRow a_step a_stepMore a_counts x_row x_starts x_image x_readRow x_readStart x_readAt x_readMany x_piece x_packed x_pairBefore x_pairLast x_tokenLength x_tokenValue x_lengths x_fixed x_ranked x_weight x_weightBefore x_items x_codes x_symbolTree x_distanceTree x_smallTree x_readLengths x_source x_target c_lengthRow v_steps c_step c_stepMore c_counts v_plain v_closed v_rowSize v_pieces v_imageSize v_readSize v_readPieces v_packedBits v_tokens v_sourceFrom v_sourceBits v_readBits v_wrong v_made v_room) sz) := by
  refine xEnV (by decide) (Nat.le_of_ble_eq_true rfl) ?_
  intro p e s m args below meth c A ls Q hx hb hnm hts hown hml hK hA hI hN hret hP hD hS hl
  replace hown : s.vm.findClass R_M = some m.cls := hown
  replace hl : lv_has ls 7 [(0, .ref a_this), (1, .int x1)] := hl
  obtain ⟨H, eH⟩ : ∃ z, z = s.heap := ⟨_, rfl⟩
  obtain ⟨locs, eL⟩ : ∃ z : List Loc, z = [] := ⟨_, rfl⟩
  rw [show W p l e M_tellRow_rm s m args below meth c s.heap [] 0 0 Q (F0 m 0 ls []) = W p l e M_tellRow_rm s m args below meth c H locs 0 0 Q (F0 m 0 ls []) by rw [eH, eL]]
  replace hP : va_P E.1 vwCl (M_tellRow_w E a_this a_lengthRow a_step a_stepMore a_counts x_row x_starts x_image x_readRow x_readStart x_readAt x_readMany x_piece x_packed x_pairBefore x_pairLast x_tokenLength x_tokenValue x_lengths x_fixed x_ranked x_weight x_weightBefore x_items x_codes x_symbolTree x_distanceTree x_smallTree x_readLengths x_source x_target c_lengthRow v_steps c_step c_stepMore c_counts v_plain v_closed v_rowSize v_pieces v_imageSize v_readSize v_readPieces v_packedBits v_tokens v_sourceFrom v_sourceBits v_readBits v_wrong v_made v_room) H := by rw [eH]; exact hP
  replace hS : va_S A s.heap H locs := by rw [eH, eL]; exact hS
  clear eH eL
  rw [M_tellRow] at hm
  have h_7 : ∀ (n_7 : Nat) (v_steps : Int32) (c_step : Nat → Int32) (c_stepMore : Nat → Int32) (c_counts : Nat → Int32) (x2 : Int32) (H : Heap) (locs : List Loc) (ls : Array Slot), (mW5 (M_tellRow_7 F c_lengthRow x1) n_7) v_steps c_step c_stepMore c_counts x2 = some res → va_P E.1 vwCl (M_tellRow_w E a_this a_lengthRow a_step a_stepMore a_counts x_row x_starts x_image x_readRow x_readStart x_readAt x_readMany x_piece x_packed x_pairBefore x_pairLast x_tokenLength x_tokenValue x_lengths x_fixed x_ranked x_weight x_weightBefore x_items x_codes x_symbolTree x_distanceTree x_smallTree x_readLengths x_source x_target c_lengthRow v_steps c_step c_stepMore c_counts v_plain v_closed v_rowSize v_pieces v_imageSize v_readSize v_readPieces v_packedBits v_tokens v_sourceFrom v_sourceBits v_readBits v_wrong v_made v_room) H → va_D A (M_tellRow_w E a_this a_lengthRow a_step a_stepMore a_counts x_row x_starts x_image x_readRow x_readStart x_readAt x_readMany x_piece x_packed x_pairBefore x_pairLast x_tokenLength x_tokenValue x_lengths x_fixed x_ranked x_weight x_weightBefore x_items x_codes x_symbolTree x_distanceTree x_smallTree x_readLengths x_source x_target c_lengthRow v_steps c_step c_stepMore c_counts v_plain v_closed v_rowSize v_pieces v_imageSize v_readSize v_readPieces v_packedBits v_tokens v_sourceFrom v_sourceBits v_readBits v_wrong v_made v_room) → va_S A s.heap H locs → lv_has ls 7 [(0, .ref a_this), (1, .int x1), (2, .int x2)] → W p l e M_tellRow_rm s m args below meth c H locs 0 0 Q (F0 m 7 ls []) := by
    intro n_7
    induction n_7 with
    | zero => exact fun _ _ _ _ _ _ _ _ hm _ _ _ _ => (mW5_z hm).elim
    | succ n_7 ih_7 =>
      intro v_steps c_step c_stepMore c_counts x2 H locs ls hm hP hD hS hl
      replace hm := mW5_s hm
      rw [M_tellRow_7] at hm
      refine lv_iload_n hx hb d_M_tellRow_7 rfl (lv_at hl 2 rfl) ?_
      refine lv_iload_n hx hb d_M_tellRow_8 rfl (lv_at hl 1 rfl) ?_
      refine lv_icmp_ge (tgt := 193) hx hb d_M_tellRow_9 (by decide) (fun c9 => ?_) (fun c9 => ?_)
      · replace hm := mC_t hm c9
        replace hm := Option.some.inj hm
        subst hm
        exact hret d_M_tellRow_193 (u := (v_steps, c_step, c_stepMore, c_counts)) rfl hP hD hS
      · replace hm := mC_f hm c9
        have h_49 : ∀ (v_steps : Int32) (c_step : Nat → Int32) (c_stepMore : Nat → Int32) (c_counts : Nat → Int32) (x2 : Int32) (x3 : Int32) (x4 : Int32) (H : Heap) (locs : List Loc) (ls : Array Slot), (M_tellRow_49 F (mW5 (M_tellRow_7 F c_lengthRow x1) n_7)) v_steps c_step c_stepMore c_counts x2 x3 x4 = some res → va_P E.1 vwCl (M_tellRow_w E a_this a_lengthRow a_step a_stepMore a_counts x_row x_starts x_image x_readRow x_readStart x_readAt x_readMany x_piece x_packed x_pairBefore x_pairLast x_tokenLength x_tokenValue x_lengths x_fixed x_ranked x_weight x_weightBefore x_items x_codes x_symbolTree x_distanceTree x_smallTree x_readLengths x_source x_target c_lengthRow v_steps c_step c_stepMore c_counts v_plain v_closed v_rowSize v_pieces v_imageSize v_readSize v_readPieces v_packedBits v_tokens v_sourceFrom v_sourceBits v_readBits v_wrong v_made v_room) H → va_D A (M_tellRow_w E a_this a_lengthRow a_step a_stepMore a_counts x_row x_starts x_image x_readRow x_readStart x_readAt x_readMany x_piece x_packed x_pairBefore x_pairLast x_tokenLength x_tokenValue x_lengths x_fixed x_ranked x_weight x_weightBefore x_items x_codes x_symbolTree x_distanceTree x_smallTree x_readLengths x_source x_target c_lengthRow v_steps c_step c_stepMore c_counts v_plain v_closed v_rowSize v_pieces v_imageSize v_readSize v_readPieces v_packedBits v_tokens v_sourceFrom v_sourceBits v_readBits v_wrong v_made v_room) → va_S A s.heap H locs → lv_has ls 7 [(0, .ref a_this), (1, .int x1), (2, .int x2), (3, .int x3), (4, .int x4)] → W p l e M_tellRow_rm s m args below meth c H locs 0 0 Q (F0 m 49 ls []) := by
          intro v_steps c_step c_stepMore c_counts x2 x3 x4 H locs ls hm hP hD hS hl
          rw [M_tellRow_49] at hm
          have h_150 : ∀ (v_steps : Int32) (c_step : Nat → Int32) (c_stepMore : Nat → Int32) (c_counts : Nat → Int32) (x2 : Int32) (x3 : Int32) (x4 : Int32) (H : Heap) (locs : List Loc) (ls : Array Slot), (M_tellRow_150 F (mW5 (M_tellRow_7 F c_lengthRow x1) n_7)) v_steps c_step c_stepMore c_counts x2 x3 x4 = some res → va_P E.1 vwCl (M_tellRow_w E a_this a_lengthRow a_step a_stepMore a_counts x_row x_starts x_image x_readRow x_readStart x_readAt x_readMany x_piece x_packed x_pairBefore x_pairLast x_tokenLength x_tokenValue x_lengths x_fixed x_ranked x_weight x_weightBefore x_items x_codes x_symbolTree x_distanceTree x_smallTree x_readLengths x_source x_target c_lengthRow v_steps c_step c_stepMore c_counts v_plain v_closed v_rowSize v_pieces v_imageSize v_readSize v_readPieces v_packedBits v_tokens v_sourceFrom v_sourceBits v_readBits v_wrong v_made v_room) H → va_D A (M_tellRow_w E a_this a_lengthRow a_step a_stepMore a_counts x_row x_starts x_image x_readRow x_readStart x_readAt x_readMany x_piece x_packed x_pairBefore x_pairLast x_tokenLength x_tokenValue x_lengths x_fixed x_ranked x_weight x_weightBefore x_items x_codes x_symbolTree x_distanceTree x_smallTree x_readLengths x_source x_target c_lengthRow v_steps c_step c_stepMore c_counts v_plain v_closed v_rowSize v_pieces v_imageSize v_readSize v_readPieces v_packedBits v_tokens v_sourceFrom v_sourceBits v_readBits v_wrong v_made v_room) → va_S A s.heap H locs → lv_has ls 7 [(0, .ref a_this), (1, .int x1), (2, .int x2), (3, .int x3), (4, .int x4)] → W p l e M_tellRow_rm s m args below meth c H locs 0 0 Q (F0 m 150 ls []) := by
            intro v_steps c_step c_stepMore c_counts x2 x3 x4 H locs ls hm hP hD hS hl
            rw [M_tellRow_150] at hm
            have h_190 : ∀ (v_steps : Int32) (c_step : Nat → Int32) (c_stepMore : Nat → Int32) (c_counts : Nat → Int32) (x2 : Int32) (H : Heap) (locs : List Loc) (ls : Array Slot), (M_tellRow_190 F (mW5 (M_tellRow_7 F c_lengthRow x1) n_7)) v_steps c_step c_stepMore c_counts x2 = some res → va_P E.1 vwCl (M_tellRow_w E a_this a_lengthRow a_step a_stepMore a_counts x_row x_starts x_image x_readRow x_readStart x_readAt x_readMany x_piece x_packed x_pairBefore x_pairLast x_tokenLength x_tokenValue x_lengths x_fixed x_ranked x_weight x_weightBefore x_items x_codes x_symbolTree x_distanceTree x_smallTree x_readLengths x_source x_target c_lengthRow v_steps c_step c_stepMore c_counts v_plain v_closed v_rowSize v_pieces v_imageSize v_readSize v_readPieces v_packedBits v_tokens v_sourceFrom v_sourceBits v_readBits v_wrong v_made v_room) H → va_D A (M_tellRow_w E a_this a_lengthRow a_step a_stepMore a_counts x_row x_starts x_image x_readRow x_readStart x_readAt x_readMany x_piece x_packed x_pairBefore x_pairLast x_tokenLength x_tokenValue x_lengths x_fixed x_ranked x_weight x_weightBefore x_items x_codes x_symbolTree x_distanceTree x_smallTree x_readLengths x_source x_target c_lengthRow v_steps c_step c_stepMore c_counts v_plain v_closed v_rowSize v_pieces v_imageSize v_readSize v_readPieces v_packedBits v_tokens v_sourceFrom v_sourceBits v_readBits v_wrong v_made v_room) → va_S A s.heap H locs → lv_has ls 7 [(0, .ref a_this), (1, .int x1), (2, .int x2)] → W p l e M_tellRow_rm s m args below meth c H locs 0 0 Q (F0 m 190 ls []) := by
              intro v_steps c_step c_stepMore c_counts x2 H locs ls hm hP hD hS hl
              rw [M_tellRow_190] at hm
              refine lv_goto (tgt := 7) hx hb d_M_tellRow_190 (by decide) ?_
              exact ih_7 _ _ _ _ _ H locs ls hm hP hD hS hl
            have h_173 : ∀ (n_173 : Nat) (v_steps : Int32) (c_step : Nat → Int32) (c_stepMore : Nat → Int32) (c_counts : Nat → Int32) (x2 : Int32) (x3 : Int32) (x4 : Int32) (H : Heap) (locs : List Loc) (ls : Array Slot), (mW7 (M_tellRow_173 F (M_tellRow_190 F (mW5 (M_tellRow_7 F c_lengthRow x1) n_7))) n_173) v_steps c_step c_stepMore c_counts x2 x3 x4 = some res → va_P E.1 vwCl (M_tellRow_w E a_this a_lengthRow a_step a_stepMore a_counts x_row x_starts x_image x_readRow x_readStart x_readAt x_readMany x_piece x_packed x_pairBefore x_pairLast x_tokenLength x_tokenValue x_lengths x_fixed x_ranked x_weight x_weightBefore x_items x_codes x_symbolTree x_distanceTree x_smallTree x_readLengths x_source x_target c_lengthRow v_steps c_step c_stepMore c_counts v_plain v_closed v_rowSize v_pieces v_imageSize v_readSize v_readPieces v_packedBits v_tokens v_sourceFrom v_sourceBits v_readBits v_wrong v_made v_room) H → va_D A (M_tellRow_w E a_this a_lengthRow a_step a_stepMore a_counts x_row x_starts x_image x_readRow x_readStart x_readAt x_readMany x_piece x_packed x_pairBefore x_pairLast x_tokenLength x_tokenValue x_lengths x_fixed x_ranked x_weight x_weightBefore x_items x_codes x_symbolTree x_distanceTree x_smallTree x_readLengths x_source x_target c_lengthRow v_steps c_step c_stepMore c_counts v_plain v_closed v_rowSize v_pieces v_imageSize v_readSize v_readPieces v_packedBits v_tokens v_sourceFrom v_sourceBits v_readBits v_wrong v_made v_room) → va_S A s.heap H locs → lv_has ls 7 [(0, .ref a_this), (1, .int x1), (2, .int x2), (3, .int x3), (4, .int x4)] → W p l e M_tellRow_rm s m args below meth c H locs 0 0 Q (F0 m 173 ls []) := by
              intro n_173
              induction n_173 with
              | zero => exact fun _ _ _ _ _ _ _ _ _ _ hm _ _ _ _ => (mW7_z hm).elim
              | succ n_173 ih_173 =>
                intro v_steps c_step c_stepMore c_counts x2 x3 x4 H locs ls hm hP hD hS hl
                replace hm := mW7_s hm
                rw [M_tellRow_173] at hm
                refine lv_iload hx hb d_M_tellRow_173 (lv_at hl 4 rfl) ?_
                refine lv_if_le (tgt := 190) hx hb d_M_tellRow_175 (by decide) (fun c175 => ?_) (fun c175 => ?_)
                · replace hm := mC_t hm c175
                  exact h_190 _ _ _ _ _ H locs ls hm hP hD hS (lv_sub hl [0, 1, 2] rfl)
                · replace hm := mC_f hm c175
                  refine lv_aload_n hx hb d_M_tellRow_178 rfl (lv_at hl 0 rfl) ?_
                  refine lv_iload_n hx hb d_M_tellRow_179 rfl (lv_at hl 3 rfl) ?_
                  refine lv_iconst (v := 0) hx hb d_M_tellRow_180 (by decide) ?_
                  obtain ⟨r_5, v_steps_1, c_step_2, c_stepMore_3, c_counts_4, hc181, hm⟩ := mR4_e hm
                  refine xmv (wc := (M_tell_w E a_this a_step a_stepMore a_counts x_row x_starts x_image x_readRow x_readStart x_readAt x_readMany x_piece x_packed x_pairBefore x_pairLast x_tokenLength x_tokenValue x_lengths x_fixed x_ranked x_weight x_weightBefore x_items (.ref a_lengthRow) x_codes x_symbolTree x_distanceTree x_smallTree x_readLengths x_source x_target v_steps c_step c_stepMore c_counts v_plain v_closed v_rowSize v_pieces v_imageSize v_readSize v_readPieces v_packedBits v_tokens v_sourceFrom v_sourceBits v_readBits v_wrong v_made v_room)) [true, false, true, true, true] [0, 1, 2, 3] [0, 1, 2, 3] hP hD hS hA rfl (by decide) (by decide) 4 (by decide) (fun _ => rfl) (fun hPc hDc hFc => va_runV (As := [.int x3, .int 0]) (rest := []) ⟨hx, hb, hml, hown, hts⟩ (c_M_tell l E F H.size a_this a_step a_stepMore a_counts x_row x_starts x_image x_readRow x_readStart x_readAt x_readMany x_piece x_packed x_pairBefore x_pairLast x_tokenLength x_tokenValue x_lengths x_fixed x_ranked x_weight x_weightBefore x_items (.ref a_lengthRow) x_codes x_symbolTree x_distanceTree x_smallTree x_readLengths x_source x_target v_steps c_step c_stepMore c_counts v_plain v_closed v_rowSize v_pieces v_imageSize v_readSize v_readPieces v_packedBits v_tokens v_sourceFrom v_sourceBits v_readBits v_wrong v_made v_room x3 0 (r_5, v_steps_1, c_step_2, c_stepMore_3, c_counts_4) hc181) (cwV 2 hts (x_gV tw_1017 tw_1019 tw_44 tw_79 tw_1020) rfl rfl rfl (by decide +kernel) ⟨Nat.le_of_ble_eq_true rfl, Nat.le_of_ble_eq_true rfl⟩) (xPV 12 0 rfl rfl hPc hDc hFc hK hI hN hS) rfl rfl hl.1 rfl (lv_room (Nat.le_of_ble_eq_true rfl)) d_M_tellRow_181 ⟨Nat.le_of_ble_eq_true rfl, Nat.le_of_ble_eq_true rfl⟩) (fun u9 H locs hw hP hD hS => ?_)
                  have hw2 : (v_steps_1, c_step_2, c_stepMore_3, c_counts_4) = u9 := hw.symm
                  subst hw2
                  replace hP : va_P E.1 vwCl (M_tellRow_w E a_this a_lengthRow a_step a_stepMore a_counts x_row x_starts x_image x_readRow x_readStart x_readAt x_readMany x_piece x_packed x_pairBefore x_pairLast x_tokenLength x_tokenValue x_lengths x_fixed x_ranked x_weight x_weightBefore x_items x_codes x_symbolTree x_distanceTree x_smallTree x_readLengths x_source x_target c_lengthRow v_steps_1 c_step_2 c_stepMore_3 c_counts_4 v_plain v_closed v_rowSize v_pieces v_imageSize v_readSize v_readPieces v_packedBits v_tokens v_sourceFrom v_sourceBits v_readBits v_wrong v_made v_room) H := hP
                  replace hD : va_D A (M_tellRow_w E a_this a_lengthRow a_step a_stepMore a_counts x_row x_starts x_image x_readRow x_readStart x_readAt x_readMany x_piece x_packed x_pairBefore x_pairLast x_tokenLength x_tokenValue x_lengths x_fixed x_ranked x_weight x_weightBefore x_items x_codes x_symbolTree x_distanceTree x_smallTree x_readLengths x_source x_target c_lengthRow v_steps_1 c_step_2 c_stepMore_3 c_counts_4 v_plain v_closed v_rowSize v_pieces v_imageSize v_readSize v_readPieces v_packedBits v_tokens v_sourceFrom v_sourceBits v_readBits v_wrong v_made v_room) := hD
                  obtain ⟨y4_6, ey4_6⟩ : ∃ y : Int32, y = x4 + (-1) := ⟨_, rfl⟩
                  replace hm := mL_e hm y4_6 ey4_6
                  refine lv_iinc (v := y4_6) (lv' := [(4, .int y4_6), (0, .ref a_this), (1, .int x1), (2, .int x2), (3, .int x3)]) hx hb d_M_tellRow_184 hl (k := 4) rfl (by rw [ey4_6]; rfl) (by decide) rfl (fun ls hl => ?_)
                  refine lv_goto (tgt := 173) hx hb d_M_tellRow_187 (by decide) ?_
                  exact ih_173 _ _ _ _ _ _ _ H locs ls hm hP hD hS (lv_sub hl [1, 2, 3, 4, 0] rfl)
            refine lv_iload_n hx hb d_M_tellRow_150 rfl (lv_at hl 3 rfl) ?_
            refine lv_if_ne (tgt := 173) hx hb d_M_tellRow_151 (by decide) (fun c151 => ?_) (fun c151 => ?_)
            · replace hm := mC_f hm c151
              exact h_173 F _ _ _ _ _ _ _ H locs ls hm hP hD hS hl
            · replace hm := mC_t hm c151
              refine lv_iload hx hb d_M_tellRow_154 (lv_at hl 4 rfl) ?_
              refine lv_iconst (v := 3) hx hb d_M_tellRow_156 (by decide) ?_
              refine lv_icmp_lt (tgt := 173) hx hb d_M_tellRow_157 (by decide) (fun c157 => ?_) (fun c157 => ?_)
              · replace hm := mC_t hm c157
                exact h_173 F _ _ _ _ _ _ _ H locs ls hm hP hD hS hl
              · replace hm := mC_f hm c157
                refine lv_aload_n hx hb d_M_tellRow_160 rfl (lv_at hl 0 rfl) ?_
                refine lv_bipush (v := 17) hx hb d_M_tellRow_161 (by decide) ?_
                refine lv_iload hx hb d_M_tellRow_163 (lv_at hl 4 rfl) ?_
                refine lv_iconst (v := 3) hx hb d_M_tellRow_165 (by decide) ?_
                refine lv_isub hx hb d_M_tellRow_166 ?_
                obtain ⟨t_7, et_7⟩ : ∃ z : Int32, z = x4 - 3 := ⟨_, rfl⟩
                rw [← et_7]
                replace hm := mL_e hm t_7 et_7
                obtain ⟨r_12, v_steps_8, c_step_9, c_stepMore_10, c_counts_11, hc167, hm⟩ := mR4_e hm
                refine xmv (wc := (M_tell_w E a_this a_step a_stepMore a_counts x_row x_starts x_image x_readRow x_readStart x_readAt x_readMany x_piece x_packed x_pairBefore x_pairLast x_tokenLength x_tokenValue x_lengths x_fixed x_ranked x_weight x_weightBefore x_items (.ref a_lengthRow) x_codes x_symbolTree x_distanceTree x_smallTree x_readLengths x_source x_target v_steps c_step c_stepMore c_counts v_plain v_closed v_rowSize v_pieces v_imageSize v_readSize v_readPieces v_packedBits v_tokens v_sourceFrom v_sourceBits v_readBits v_wrong v_made v_room)) [true, false, true, true, true] [0, 1, 2, 3] [0, 1, 2, 3] hP hD hS hA rfl (by decide) (by decide) 4 (by decide) (fun _ => rfl) (fun hPc hDc hFc => va_runV (As := [.int 17, .int t_7]) (rest := []) ⟨hx, hb, hml, hown, hts⟩ (c_M_tell l E F H.size a_this a_step a_stepMore a_counts x_row x_starts x_image x_readRow x_readStart x_readAt x_readMany x_piece x_packed x_pairBefore x_pairLast x_tokenLength x_tokenValue x_lengths x_fixed x_ranked x_weight x_weightBefore x_items (.ref a_lengthRow) x_codes x_symbolTree x_distanceTree x_smallTree x_readLengths x_source x_target v_steps c_step c_stepMore c_counts v_plain v_closed v_rowSize v_pieces v_imageSize v_readSize v_readPieces v_packedBits v_tokens v_sourceFrom v_sourceBits v_readBits v_wrong v_made v_room 17 t_7 (r_12, v_steps_8, c_step_9, c_stepMore_10, c_counts_11) hc167) (cwV 2 hts (x_gV tw_1017 tw_1019 tw_44 tw_79 tw_1020) rfl rfl rfl (by decide +kernel) ⟨Nat.le_of_ble_eq_true rfl, Nat.le_of_ble_eq_true rfl⟩) (xPV 12 0 rfl rfl hPc hDc hFc hK hI hN hS) rfl rfl hl.1 rfl (lv_room (Nat.le_of_ble_eq_true rfl)) d_M_tellRow_167 ⟨Nat.le_of_ble_eq_true rfl, Nat.le_of_ble_eq_true rfl⟩) (fun u9 H locs hw hP hD hS => ?_)
                have hw2 : (v_steps_8, c_step_9, c_stepMore_10, c_counts_11) = u9 := hw.symm
                subst hw2
                replace hP : va_P E.1 vwCl (M_tellRow_w E a_this a_lengthRow a_step a_stepMore a_counts x_row x_starts x_image x_readRow x_readStart x_readAt x_readMany x_piece x_packed x_pairBefore x_pairLast x_tokenLength x_tokenValue x_lengths x_fixed x_ranked x_weight x_weightBefore x_items x_codes x_symbolTree x_distanceTree x_smallTree x_readLengths x_source x_target c_lengthRow v_steps_8 c_step_9 c_stepMore_10 c_counts_11 v_plain v_closed v_rowSize v_pieces v_imageSize v_readSize v_readPieces v_packedBits v_tokens v_sourceFrom v_sourceBits v_readBits v_wrong v_made v_room) H := hP
                replace hD : va_D A (M_tellRow_w E a_this a_lengthRow a_step a_stepMore a_counts x_row x_starts x_image x_readRow x_readStart x_readAt x_readMany x_piece x_packed x_pairBefore x_pairLast x_tokenLength x_tokenValue x_lengths x_fixed x_ranked x_weight x_weightBefore x_items x_codes x_symbolTree x_distanceTree x_smallTree x_readLengths x_source x_target c_lengthRow v_steps_8 c_step_9 c_stepMore_10 c_counts_11 v_plain v_closed v_rowSize v_pieces v_imageSize v_readSize v_readPieces v_packedBits v_tokens v_sourceFrom v_sourceBits v_readBits v_wrong v_made v_room) := hD
                refine lv_iconst (v := 0) hx hb d_M_tellRow_170 (by decide) ?_
                refine lv_istore (lv' := [(4, .int 0), (0, .ref a_this), (1, .int x1), (2, .int x2), (3, .int x3)]) hx hb d_M_tellRow_171 hl (by decide) rfl (fun ls hl => ?_)
                exact h_173 F _ _ _ _ _ _ _ H locs ls hm hP hD hS (lv_sub hl [1, 2, 3, 4, 0] rfl)
          have h_67 : ∀ (n_67 : Nat) (v_steps : Int32) (c_step : Nat → Int32) (c_stepMore : Nat → Int32) (c_counts : Nat → Int32) (x2 : Int32) (x3 : Int32) (x4 : Int32) (H : Heap) (locs : List Loc) (ls : Array Slot), (mW7 (M_tellRow_67 F (M_tellRow_150 F (mW5 (M_tellRow_7 F c_lengthRow x1) n_7))) n_67) v_steps c_step c_stepMore c_counts x2 x3 x4 = some res → va_P E.1 vwCl (M_tellRow_w E a_this a_lengthRow a_step a_stepMore a_counts x_row x_starts x_image x_readRow x_readStart x_readAt x_readMany x_piece x_packed x_pairBefore x_pairLast x_tokenLength x_tokenValue x_lengths x_fixed x_ranked x_weight x_weightBefore x_items x_codes x_symbolTree x_distanceTree x_smallTree x_readLengths x_source x_target c_lengthRow v_steps c_step c_stepMore c_counts v_plain v_closed v_rowSize v_pieces v_imageSize v_readSize v_readPieces v_packedBits v_tokens v_sourceFrom v_sourceBits v_readBits v_wrong v_made v_room) H → va_D A (M_tellRow_w E a_this a_lengthRow a_step a_stepMore a_counts x_row x_starts x_image x_readRow x_readStart x_readAt x_readMany x_piece x_packed x_pairBefore x_pairLast x_tokenLength x_tokenValue x_lengths x_fixed x_ranked x_weight x_weightBefore x_items x_codes x_symbolTree x_distanceTree x_smallTree x_readLengths x_source x_target c_lengthRow v_steps c_step c_stepMore c_counts v_plain v_closed v_rowSize v_pieces v_imageSize v_readSize v_readPieces v_packedBits v_tokens v_sourceFrom v_sourceBits v_readBits v_wrong v_made v_room) → va_S A s.heap H locs → lv_has ls 7 [(0, .ref a_this), (1, .int x1), (2, .int x2), (3, .int x3), (4, .int x4)] → W p l e M_tellRow_rm s m args below meth c H locs 0 0 Q (F0 m 67 ls []) := by
            intro n_67
            induction n_67 with
            | zero => exact fun _ _ _ _ _ _ _ _ _ _ hm _ _ _ _ => (mW7_z hm).elim
            | succ n_67 ih_67 =>
              intro v_steps c_step c_stepMore c_counts x2 x3 x4 H locs ls hm hP hD hS hl
              replace hm := mW7_s hm
              rw [M_tellRow_67] at hm
              have h_79 : ∀ (v_steps : Int32) (c_step : Nat → Int32) (c_stepMore : Nat → Int32) (c_counts : Nat → Int32) (x2 : Int32) (x3 : Int32) (x4 : Int32) (s0 : Int32) (s1 : Int32) (H : Heap) (locs : List Loc) (ls : Array Slot), (M_tellRow_79 F (mW7 (M_tellRow_67 F (M_tellRow_150 F (mW5 (M_tellRow_7 F c_lengthRow x1) n_7))) n_67) (M_tellRow_150 F (mW5 (M_tellRow_7 F c_lengthRow x1) n_7))) v_steps c_step c_stepMore c_counts x2 x3 x4 s0 s1 = some res → va_P E.1 vwCl (M_tellRow_w E a_this a_lengthRow a_step a_stepMore a_counts x_row x_starts x_image x_readRow x_readStart x_readAt x_readMany x_piece x_packed x_pairBefore x_pairLast x_tokenLength x_tokenValue x_lengths x_fixed x_ranked x_weight x_weightBefore x_items x_codes x_symbolTree x_distanceTree x_smallTree x_readLengths x_source x_target c_lengthRow v_steps c_step c_stepMore c_counts v_plain v_closed v_rowSize v_pieces v_imageSize v_readSize v_readPieces v_packedBits v_tokens v_sourceFrom v_sourceBits v_readBits v_wrong v_made v_room) H → va_D A (M_tellRow_w E a_this a_lengthRow a_step a_stepMore a_counts x_row x_starts x_image x_readRow x_readStart x_readAt x_readMany x_piece x_packed x_pairBefore x_pairLast x_tokenLength x_tokenValue x_lengths x_fixed x_ranked x_weight x_weightBefore x_items x_codes x_symbolTree x_distanceTree x_smallTree x_readLengths x_source x_target c_lengthRow v_steps c_step c_stepMore c_counts v_plain v_closed v_rowSize v_pieces v_imageSize v_readSize v_readPieces v_packedBits v_tokens v_sourceFrom v_sourceBits v_readBits v_wrong v_made v_room) → va_S A s.heap H locs → lv_has ls 7 [(0, .ref a_this), (1, .int x1), (2, .int x2), (3, .int x3), (4, .int x4)] → W p l e M_tellRow_rm s m args below meth c H locs 0 0 Q (F0 m 79 ls [.int s1, .int s0]) := by
                intro v_steps c_step c_stepMore c_counts x2 x3 x4 s0 s1 H locs ls hm hP hD hS hl
                rw [M_tellRow_79] at hm
                refine lv_icmp_lt (tgt := 150) hx hb d_M_tellRow_79 (by decide) (fun c79 => ?_) (fun c79 => ?_)
                · replace hm := mC_t hm c79
                  exact h_150 _ _ _ _ _ _ _ H locs ls hm hP hD hS hl
                · replace hm := mC_f hm c79
                  have h_94 : ∀ (v_steps : Int32) (c_step : Nat → Int32) (c_stepMore : Nat → Int32) (c_counts : Nat → Int32) (x2 : Int32) (x3 : Int32) (x4 : Int32) (s0 : Int32) (H : Heap) (locs : List Loc) (ls : Array Slot), (M_tellRow_94 F (mW7 (M_tellRow_67 F (M_tellRow_150 F (mW5 (M_tellRow_7 F c_lengthRow x1) n_7))) n_67)) v_steps c_step c_stepMore c_counts x2 x3 x4 s0 = some res → va_P E.1 vwCl (M_tellRow_w E a_this a_lengthRow a_step a_stepMore a_counts x_row x_starts x_image x_readRow x_readStart x_readAt x_readMany x_piece x_packed x_pairBefore x_pairLast x_tokenLength x_tokenValue x_lengths x_fixed x_ranked x_weight x_weightBefore x_items x_codes x_symbolTree x_distanceTree x_smallTree x_readLengths x_source x_target c_lengthRow v_steps c_step c_stepMore c_counts v_plain v_closed v_rowSize v_pieces v_imageSize v_readSize v_readPieces v_packedBits v_tokens v_sourceFrom v_sourceBits v_readBits v_wrong v_made v_room) H → va_D A (M_tellRow_w E a_this a_lengthRow a_step a_stepMore a_counts x_row x_starts x_image x_readRow x_readStart x_readAt x_readMany x_piece x_packed x_pairBefore x_pairLast x_tokenLength x_tokenValue x_lengths x_fixed x_ranked x_weight x_weightBefore x_items x_codes x_symbolTree x_distanceTree x_smallTree x_readLengths x_source x_target c_lengthRow v_steps c_step c_stepMore c_counts v_plain v_closed v_rowSize v_pieces v_imageSize v_readSize v_readPieces v_packedBits v_tokens v_sourceFrom v_sourceBits v_readBits v_wrong v_made v_room) → va_S A s.heap H locs → lv_has ls 7 [(0, .ref a_this), (1, .int x1), (2, .int x2), (3, .int x3), (4, .int x4)] → W p l e M_tellRow_rm s m args below meth c H locs 0 0 Q (F0 m 94 ls [.int s0]) := by
                    intro v_steps c_step c_stepMore c_counts x2 x3 x4 s0 H locs ls hm hP hD hS hl
                    rw [M_tellRow_94] at hm
                    have h_110 : ∀ (v_steps : Int32) (c_step : Nat → Int32) (c_stepMore : Nat → Int32) (c_counts : Nat → Int32) (x2 : Int32) (x3 : Int32) (x4 : Int32) (s0 : Int32) (H : Heap) (locs : List Loc) (ls : Array Slot), (M_tellRow_110 F (mW7 (M_tellRow_67 F (M_tellRow_150 F (mW5 (M_tellRow_7 F c_lengthRow x1) n_7))) n_67)) v_steps c_step c_stepMore c_counts x2 x3 x4 s0 = some res → va_P E.1 vwCl (M_tellRow_w E a_this a_lengthRow a_step a_stepMore a_counts x_row x_starts x_image x_readRow x_readStart x_readAt x_readMany x_piece x_packed x_pairBefore x_pairLast x_tokenLength x_tokenValue x_lengths x_fixed x_ranked x_weight x_weightBefore x_items x_codes x_symbolTree x_distanceTree x_smallTree x_readLengths x_source x_target c_lengthRow v_steps c_step c_stepMore c_counts v_plain v_closed v_rowSize v_pieces v_imageSize v_readSize v_readPieces v_packedBits v_tokens v_sourceFrom v_sourceBits v_readBits v_wrong v_made v_room) H → va_D A (M_tellRow_w E a_this a_lengthRow a_step a_stepMore a_counts x_row x_starts x_image x_readRow x_readStart x_readAt x_readMany x_piece x_packed x_pairBefore x_pairLast x_tokenLength x_tokenValue x_lengths x_fixed x_ranked x_weight x_weightBefore x_items x_codes x_symbolTree x_distanceTree x_smallTree x_readLengths x_source x_target c_lengthRow v_steps c_step c_stepMore c_counts v_plain v_closed v_rowSize v_pieces v_imageSize v_readSize v_readPieces v_packedBits v_tokens v_sourceFrom v_sourceBits v_readBits v_wrong v_made v_room) → va_S A s.heap H locs → lv_has ls 7 [(0, .ref a_this), (1, .int x1), (2, .int x2), (3, .int x3), (4, .int x4)] → W p l e M_tellRow_rm s m args below meth c H locs 0 0 Q (F0 m 110 ls [.int s0]) := by
                      intro v_steps c_step c_stepMore c_counts x2 x3 x4 s0 H locs ls hm hP hD hS hl
                      rw [M_tellRow_110] at hm
                      have h_124 : ∀ (v_steps : Int32) (c_step : Nat → Int32) (c_stepMore : Nat → Int32) (c_counts : Nat → Int32) (x2 : Int32) (x3 : Int32) (x4 : Int32) (x6 : Int32) (s1 : Int32) (H : Heap) (locs : List Loc) (ls : Array Slot), (M_tellRow_124 F (mW7 (M_tellRow_67 F (M_tellRow_150 F (mW5 (M_tellRow_7 F c_lengthRow x1) n_7))) n_67)) v_steps c_step c_stepMore c_counts x2 x3 x4 x6 s1 = some res → va_P E.1 vwCl (M_tellRow_w E a_this a_lengthRow a_step a_stepMore a_counts x_row x_starts x_image x_readRow x_readStart x_readAt x_readMany x_piece x_packed x_pairBefore x_pairLast x_tokenLength x_tokenValue x_lengths x_fixed x_ranked x_weight x_weightBefore x_items x_codes x_symbolTree x_distanceTree x_smallTree x_readLengths x_source x_target c_lengthRow v_steps c_step c_stepMore c_counts v_plain v_closed v_rowSize v_pieces v_imageSize v_readSize v_readPieces v_packedBits v_tokens v_sourceFrom v_sourceBits v_readBits v_wrong v_made v_room) H → va_D A (M_tellRow_w E a_this a_lengthRow a_step a_stepMore a_counts x_row x_starts x_image x_readRow x_readStart x_readAt x_readMany x_piece x_packed x_pairBefore x_pairLast x_tokenLength x_tokenValue x_lengths x_fixed x_ranked x_weight x_weightBefore x_items x_codes x_symbolTree x_distanceTree x_smallTree x_readLengths x_source x_target c_lengthRow v_steps c_step c_stepMore c_counts v_plain v_closed v_rowSize v_pieces v_imageSize v_readSize v_readPieces v_packedBits v_tokens v_sourceFrom v_sourceBits v_readBits v_wrong v_made v_room) → va_S A s.heap H locs → lv_has ls 7 [(0, .ref a_this), (1, .int x1), (2, .int x2), (3, .int x3), (4, .int x4), (6, .int x6)] → W p l e M_tellRow_rm s m args below meth c H locs 0 0 Q (F0 m 124 ls [.int s1, .ref a_this]) := by
                        intro v_steps c_step c_stepMore c_counts x2 x3 x4 x6 s1 H locs ls hm hP hD hS hl
                        rw [M_tellRow_124] at hm
                        have h_136 : ∀ (v_steps : Int32) (c_step : Nat → Int32) (c_stepMore : Nat → Int32) (c_counts : Nat → Int32) (x2 : Int32) (x3 : Int32) (x4 : Int32) (x6 : Int32) (s1 : Int32) (s2 : Int32) (s3 : Int32) (H : Heap) (locs : List Loc) (ls : Array Slot), (M_tellRow_136 F (mW7 (M_tellRow_67 F (M_tellRow_150 F (mW5 (M_tellRow_7 F c_lengthRow x1) n_7))) n_67)) v_steps c_step c_stepMore c_counts x2 x3 x4 x6 s1 s2 s3 = some res → va_P E.1 vwCl (M_tellRow_w E a_this a_lengthRow a_step a_stepMore a_counts x_row x_starts x_image x_readRow x_readStart x_readAt x_readMany x_piece x_packed x_pairBefore x_pairLast x_tokenLength x_tokenValue x_lengths x_fixed x_ranked x_weight x_weightBefore x_items x_codes x_symbolTree x_distanceTree x_smallTree x_readLengths x_source x_target c_lengthRow v_steps c_step c_stepMore c_counts v_plain v_closed v_rowSize v_pieces v_imageSize v_readSize v_readPieces v_packedBits v_tokens v_sourceFrom v_sourceBits v_readBits v_wrong v_made v_room) H → va_D A (M_tellRow_w E a_this a_lengthRow a_step a_stepMore a_counts x_row x_starts x_image x_readRow x_readStart x_readAt x_readMany x_piece x_packed x_pairBefore x_pairLast x_tokenLength x_tokenValue x_lengths x_fixed x_ranked x_weight x_weightBefore x_items x_codes x_symbolTree x_distanceTree x_smallTree x_readLengths x_source x_target c_lengthRow v_steps c_step c_stepMore c_counts v_plain v_closed v_rowSize v_pieces v_imageSize v_readSize v_readPieces v_packedBits v_tokens v_sourceFrom v_sourceBits v_readBits v_wrong v_made v_room) → va_S A s.heap H locs → lv_has ls 7 [(0, .ref a_this), (1, .int x1), (2, .int x2), (3, .int x3), (4, .int x4), (6, .int x6)] → W p l e M_tellRow_rm s m args below meth c H locs 0 0 Q (F0 m 136 ls [.int s3, .int s2, .int s1, .ref a_this]) := by
                          intro v_steps c_step c_stepMore c_counts x2 x3 x4 x6 s1 s2 s3 H locs ls hm hP hD hS hl
                          rw [M_tellRow_136] at hm
                          refine lv_isub hx hb d_M_tellRow_136 ?_
                          obtain ⟨t_13, et_13⟩ : ∃ z : Int32, z = s2 - s3 := ⟨_, rfl⟩
                          rw [← et_13]
                          replace hm := mL_e hm t_13 et_13
                          obtain ⟨r_18, v_steps_14, c_step_15, c_stepMore_16, c_counts_17, hc137, hm⟩ := mR4_e hm
                          refine xmv (wc := (M_tell_w E a_this a_step a_stepMore a_counts x_row x_starts x_image x_readRow x_readStart x_readAt x_readMany x_piece x_packed x_pairBefore x_pairLast x_tokenLength x_tokenValue x_lengths x_fixed x_ranked x_weight x_weightBefore x_items (.ref a_lengthRow) x_codes x_symbolTree x_distanceTree x_smallTree x_readLengths x_source x_target v_steps c_step c_stepMore c_counts v_plain v_closed v_rowSize v_pieces v_imageSize v_readSize v_readPieces v_packedBits v_tokens v_sourceFrom v_sourceBits v_readBits v_wrong v_made v_room)) [true, false, true, true, true] [0, 1, 2, 3] [0, 1, 2, 3] hP hD hS hA rfl (by decide) (by decide) 4 (by decide) (fun _ => rfl) (fun hPc hDc hFc => va_runV (As := [.int s1, .int t_13]) (rest := []) ⟨hx, hb, hml, hown, hts⟩ (c_M_tell l E F H.size a_this a_step a_stepMore a_counts x_row x_starts x_image x_readRow x_readStart x_readAt x_readMany x_piece x_packed x_pairBefore x_pairLast x_tokenLength x_tokenValue x_lengths x_fixed x_ranked x_weight x_weightBefore x_items (.ref a_lengthRow) x_codes x_symbolTree x_distanceTree x_smallTree x_readLengths x_source x_target v_steps c_step c_stepMore c_counts v_plain v_closed v_rowSize v_pieces v_imageSize v_readSize v_readPieces v_packedBits v_tokens v_sourceFrom v_sourceBits v_readBits v_wrong v_made v_room s1 t_13 (r_18, v_steps_14, c_step_15, c_stepMore_16, c_counts_17) hc137) (cwV 2 hts (x_gV tw_1017 tw_1019 tw_44 tw_79 tw_1020) rfl rfl rfl (by decide +kernel) ⟨Nat.le_of_ble_eq_true rfl, Nat.le_of_ble_eq_true rfl⟩) (xPV 12 0 rfl rfl hPc hDc hFc hK hI hN hS) rfl rfl hl.1 rfl (lv_room (Nat.le_of_ble_eq_true rfl)) d_M_tellRow_137 ⟨Nat.le_of_ble_eq_true rfl, Nat.le_of_ble_eq_true rfl⟩) (fun u9 H locs hw hP hD hS => ?_)
                          have hw2 : (v_steps_14, c_step_15, c_stepMore_16, c_counts_17) = u9 := hw.symm
                          subst hw2
                          replace hP : va_P E.1 vwCl (M_tellRow_w E a_this a_lengthRow a_step a_stepMore a_counts x_row x_starts x_image x_readRow x_readStart x_readAt x_readMany x_piece x_packed x_pairBefore x_pairLast x_tokenLength x_tokenValue x_lengths x_fixed x_ranked x_weight x_weightBefore x_items x_codes x_symbolTree x_distanceTree x_smallTree x_readLengths x_source x_target c_lengthRow v_steps_14 c_step_15 c_stepMore_16 c_counts_17 v_plain v_closed v_rowSize v_pieces v_imageSize v_readSize v_readPieces v_packedBits v_tokens v_sourceFrom v_sourceBits v_readBits v_wrong v_made v_room) H := hP
                          replace hD : va_D A (M_tellRow_w E a_this a_lengthRow a_step a_stepMore a_counts x_row x_starts x_image x_readRow x_readStart x_readAt x_readMany x_piece x_packed x_pairBefore x_pairLast x_tokenLength x_tokenValue x_lengths x_fixed x_ranked x_weight x_weightBefore x_items x_codes x_symbolTree x_distanceTree x_smallTree x_readLengths x_source x_target c_lengthRow v_steps_14 c_step_15 c_stepMore_16 c_counts_17 v_plain v_closed v_rowSize v_pieces v_imageSize v_readSize v_readPieces v_packedBits v_tokens v_sourceFrom v_sourceBits v_readBits v_wrong v_made v_room) := hD
                          refine lv_iload hx hb d_M_tellRow_140 (lv_at hl 4 rfl) ?_
                          refine lv_iload hx hb d_M_tellRow_142 (lv_at hl 5 rfl) ?_
                          refine lv_isub hx hb d_M_tellRow_144 ?_
                          refine lv_topi (fun y4_19 ey4_19 => ?_)
                          replace hm := mL_e hm y4_19 ey4_19
                          refine lv_istore (lv' := [(4, .int y4_19), (0, .ref a_this), (1, .int x1), (2, .int x2), (3, .int x3), (6, .int x6)]) hx hb d_M_tellRow_145 hl (by decide) rfl (fun ls hl => ?_)
                          refine lv_goto (tgt := 67) hx hb d_M_tellRow_147 (by decide) ?_
                          exact ih_67 _ _ _ _ _ _ _ H locs ls hm hP hD hS (lv_sub hl [1, 2, 3, 4, 0] rfl)
                        refine lv_iload hx hb d_M_tellRow_124 (lv_at hl 5 rfl) ?_
                        refine lv_iload_n hx hb d_M_tellRow_126 rfl (lv_at hl 3 rfl) ?_
                        refine lv_if_le (tgt := 134) hx hb d_M_tellRow_127 (by decide) (fun c127 => ?_) (fun c127 => ?_)
                        · replace hm := mC_t hm c127
                          refine lv_bipush (v := 11) hx hb d_M_tellRow_134 (by decide) ?_
                          exact h_136 _ _ _ _ _ _ _ _ _ _ _ H locs ls hm hP hD hS hl
                        · replace hm := mC_f hm c127
                          refine lv_iconst (v := 3) hx hb d_M_tellRow_130 (by decide) ?_
                          refine lv_goto (tgt := 136) hx hb d_M_tellRow_131 (by decide) ?_
                          exact h_136 _ _ _ _ _ _ _ _ _ _ _ H locs ls hm hP hD hS hl
                      refine lv_istore (lv' := [(6, .int s0), (0, .ref a_this), (1, .int x1), (2, .int x2), (3, .int x3), (4, .int x4)]) hx hb d_M_tellRow_110 hl (by decide) rfl (fun ls hl => ?_)
                      refine lv_aload_n hx hb d_M_tellRow_112 rfl (lv_at hl 1 rfl) ?_
                      refine lv_iload_n hx hb d_M_tellRow_113 rfl (lv_at hl 4 rfl) ?_
                      refine lv_if_le (tgt := 122) hx hb d_M_tellRow_114 (by decide) (fun c114 => ?_) (fun c114 => ?_)
                      · replace hm := mC_t hm c114
                        refine lv_bipush (v := 18) hx hb d_M_tellRow_122 (by decide) ?_
                        exact h_124 _ _ _ _ _ _ _ _ _ H locs ls hm hP hD hS (lv_sub hl [1, 2, 3, 4, 5, 0] rfl)
                      · replace hm := mC_f hm c114
                        refine lv_bipush (v := 16) hx hb d_M_tellRow_117 (by decide) ?_
                        refine lv_goto (tgt := 124) hx hb d_M_tellRow_119 (by decide) ?_
                        exact h_124 _ _ _ _ _ _ _ _ _ H locs ls hm hP hD hS (lv_sub hl [1, 2, 3, 4, 5, 0] rfl)
                    refine lv_istore (lv' := [(5, .int s0), (0, .ref a_this), (1, .int x1), (2, .int x2), (3, .int x3), (4, .int x4)]) hx hb d_M_tellRow_94 hl (by decide) rfl (fun ls hl => ?_)
                    refine lv_iload hx hb d_M_tellRow_96 (lv_at hl 5 rfl) ?_
                    refine lv_iload hx hb d_M_tellRow_98 (lv_at hl 0 rfl) ?_
                    refine lv_icmp_ge (tgt := 108) hx hb d_M_tellRow_100 (by decide) (fun c100 => ?_) (fun c100 => ?_)
                    · replace hm := mC_t hm c100
                      refine lv_iload hx hb d_M_tellRow_108 (lv_at hl 0 rfl) ?_
                      exact h_110 _ _ _ _ _ _ _ _ H locs ls hm hP hD hS (lv_sub hl [1, 2, 3, 4, 5] rfl)
                    · replace hm := mC_f hm c100
                      refine lv_iload hx hb d_M_tellRow_103 (lv_at hl 5 rfl) ?_
                      refine lv_goto (tgt := 110) hx hb d_M_tellRow_105 (by decide) ?_
                      exact h_110 _ _ _ _ _ _ _ _ H locs ls hm hP hD hS (lv_sub hl [1, 2, 3, 4, 5] rfl)
                  refine lv_iload_n hx hb d_M_tellRow_82 rfl (lv_at hl 3 rfl) ?_
                  refine lv_if_le (tgt := 91) hx hb d_M_tellRow_83 (by decide) (fun c83 => ?_) (fun c83 => ?_)
                  · replace hm := mC_t hm c83
                    refine lv_sipush (v := 138) hx hb d_M_tellRow_91 (by decide) ?_
                    exact h_94 _ _ _ _ _ _ _ _ H locs ls hm hP hD hS hl
                  · replace hm := mC_f hm c83
                    refine lv_bipush (v := 6) hx hb d_M_tellRow_86 (by decide) ?_
                    refine lv_goto (tgt := 94) hx hb d_M_tellRow_88 (by decide) ?_
                    exact h_94 _ _ _ _ _ _ _ _ H locs ls hm hP hD hS hl
              refine lv_iload hx hb d_M_tellRow_67 (lv_at hl 4 rfl) ?_
              refine lv_iload_n hx hb d_M_tellRow_69 rfl (lv_at hl 3 rfl) ?_
              refine lv_if_le (tgt := 77) hx hb d_M_tellRow_70 (by decide) (fun c70 => ?_) (fun c70 => ?_)
              · replace hm := mC_t hm c70
                refine lv_bipush (v := 11) hx hb d_M_tellRow_77 (by decide) ?_
                exact h_79 _ _ _ _ _ _ _ _ _ H locs ls hm hP hD hS hl
              · replace hm := mC_f hm c70
                refine lv_iconst (v := 3) hx hb d_M_tellRow_73 (by decide) ?_
                refine lv_goto (tgt := 79) hx hb d_M_tellRow_74 (by decide) ?_
                exact h_79 _ _ _ _ _ _ _ _ _ H locs ls hm hP hD hS hl
          refine lv_iload_n hx hb d_M_tellRow_49 rfl (lv_at hl 2 rfl) ?_
          refine lv_iload hx hb d_M_tellRow_50 (lv_at hl 4 rfl) ?_
          refine lv_iadd hx hb d_M_tellRow_52 ?_
          refine lv_topi (fun y2_20 ey2_20 => ?_)
          replace hm := mL_e hm y2_20 ey2_20
          refine lv_istore_n (lv' := [(2, .int y2_20), (0, .ref a_this), (1, .int x1), (3, .int x3), (4, .int x4)]) hx hb d_M_tellRow_53 rfl hl (by decide) rfl (fun ls hl => ?_)
          refine lv_iload_n hx hb d_M_tellRow_54 rfl (lv_at hl 3 rfl) ?_
          refine lv_if_le (tgt := 67) hx hb d_M_tellRow_55 (by decide) (fun c55 => ?_) (fun c55 => ?_)
          · replace hm := mC_t hm c55
            exact h_67 F _ _ _ _ _ _ _ H locs ls hm hP hD hS (lv_sub hl [1, 2, 0, 3, 4] rfl)
          · replace hm := mC_f hm c55
            refine lv_aload_n hx hb d_M_tellRow_58 rfl (lv_at hl 1 rfl) ?_
            refine lv_iload_n hx hb d_M_tellRow_59 rfl (lv_at hl 3 rfl) ?_
            refine lv_iconst (v := 0) hx hb d_M_tellRow_60 (by decide) ?_
            obtain ⟨r_25, v_steps_21, c_step_22, c_stepMore_23, c_counts_24, hc61, hm⟩ := mR4_e hm
            refine xmv (wc := (M_tell_w E a_this a_step a_stepMore a_counts x_row x_starts x_image x_readRow x_readStart x_readAt x_readMany x_piece x_packed x_pairBefore x_pairLast x_tokenLength x_tokenValue x_lengths x_fixed x_ranked x_weight x_weightBefore x_items (.ref a_lengthRow) x_codes x_symbolTree x_distanceTree x_smallTree x_readLengths x_source x_target v_steps c_step c_stepMore c_counts v_plain v_closed v_rowSize v_pieces v_imageSize v_readSize v_readPieces v_packedBits v_tokens v_sourceFrom v_sourceBits v_readBits v_wrong v_made v_room)) [true, false, true, true, true] [0, 1, 2, 3] [0, 1, 2, 3] hP hD hS hA rfl (by decide) (by decide) 4 (by decide) (fun _ => rfl) (fun hPc hDc hFc => va_runV (As := [.int x3, .int 0]) (rest := []) ⟨hx, hb, hml, hown, hts⟩ (c_M_tell l E F H.size a_this a_step a_stepMore a_counts x_row x_starts x_image x_readRow x_readStart x_readAt x_readMany x_piece x_packed x_pairBefore x_pairLast x_tokenLength x_tokenValue x_lengths x_fixed x_ranked x_weight x_weightBefore x_items (.ref a_lengthRow) x_codes x_symbolTree x_distanceTree x_smallTree x_readLengths x_source x_target v_steps c_step c_stepMore c_counts v_plain v_closed v_rowSize v_pieces v_imageSize v_readSize v_readPieces v_packedBits v_tokens v_sourceFrom v_sourceBits v_readBits v_wrong v_made v_room x3 0 (r_25, v_steps_21, c_step_22, c_stepMore_23, c_counts_24) hc61) (cwV 2 hts (x_gV tw_1017 tw_1019 tw_44 tw_79 tw_1020) rfl rfl rfl (by decide +kernel) ⟨Nat.le_of_ble_eq_true rfl, Nat.le_of_ble_eq_true rfl⟩) (xPV 12 0 rfl rfl hPc hDc hFc hK hI hN hS) rfl rfl hl.1 rfl (lv_room (Nat.le_of_ble_eq_true rfl)) d_M_tellRow_61 ⟨Nat.le_of_ble_eq_true rfl, Nat.le_of_ble_eq_true rfl⟩) (fun u9 H locs hw hP hD hS => ?_)
            have hw2 : (v_steps_21, c_step_22, c_stepMore_23, c_counts_24) = u9 := hw.symm
            subst hw2
            replace hP : va_P E.1 vwCl (M_tellRow_w E a_this a_lengthRow a_step a_stepMore a_counts x_row x_starts x_image x_readRow x_readStart x_readAt x_readMany x_piece x_packed x_pairBefore x_pairLast x_tokenLength x_tokenValue x_lengths x_fixed x_ranked x_weight x_weightBefore x_items x_codes x_symbolTree x_distanceTree x_smallTree x_readLengths x_source x_target c_lengthRow v_steps_21 c_step_22 c_stepMore_23 c_counts_24 v_plain v_closed v_rowSize v_pieces v_imageSize v_readSize v_readPieces v_packedBits v_tokens v_sourceFrom v_sourceBits v_readBits v_wrong v_made v_room) H := hP
            replace hD : va_D A (M_tellRow_w E a_this a_lengthRow a_step a_stepMore a_counts x_row x_starts x_image x_readRow x_readStart x_readAt x_readMany x_piece x_packed x_pairBefore x_pairLast x_tokenLength x_tokenValue x_lengths x_fixed x_ranked x_weight x_weightBefore x_items x_codes x_symbolTree x_distanceTree x_smallTree x_readLengths x_source x_target c_lengthRow v_steps_21 c_step_22 c_stepMore_23 c_counts_24 v_plain v_closed v_rowSize v_pieces v_imageSize v_readSize v_readPieces v_packedBits v_tokens v_sourceFrom v_sourceBits v_readBits v_wrong v_made v_room) := hD
            obtain ⟨y4_26, ey4_26⟩ : ∃ y : Int32, y = x4 + (-1) := ⟨_, rfl⟩
            replace hm := mL_e hm y4_26 ey4_26
            refine lv_iinc (v := y4_26) (lv' := [(4, .int y4_26), (2, .int y2_20), (0, .ref a_this), (1, .int x1), (3, .int x3)]) hx hb d_M_tellRow_64 hl (k := 4) rfl (by rw [ey4_26]; rfl) (by decide) rfl (fun ls hl => ?_)
            exact h_67 F _ _ _ _ _ _ _ H locs ls hm hP hD hS (lv_sub hl [2, 3, 1, 4, 0] rfl)
        have h_22 : ∀ (n_22 : Nat) (v_steps : Int32) (c_step : Nat → Int32) (c_stepMore : Nat → Int32) (c_counts : Nat → Int32) (x2 : Int32) (x3 : Int32) (x4 : Int32) (H : Heap) (locs : List Loc) (ls : Array Slot), (mW7 (M_tellRow_22 F c_lengthRow x1 (M_tellRow_49 F (mW5 (M_tellRow_7 F c_lengthRow x1) n_7))) n_22) v_steps c_step c_stepMore c_counts x2 x3 x4 = some res → va_P E.1 vwCl (M_tellRow_w E a_this a_lengthRow a_step a_stepMore a_counts x_row x_starts x_image x_readRow x_readStart x_readAt x_readMany x_piece x_packed x_pairBefore x_pairLast x_tokenLength x_tokenValue x_lengths x_fixed x_ranked x_weight x_weightBefore x_items x_codes x_symbolTree x_distanceTree x_smallTree x_readLengths x_source x_target c_lengthRow v_steps c_step c_stepMore c_counts v_plain v_closed v_rowSize v_pieces v_imageSize v_readSize v_readPieces v_packedBits v_tokens v_sourceFrom v_sourceBits v_readBits v_wrong v_made v_room) H → va_D A (M_tellRow_w E a_this a_lengthRow a_step a_stepMore a_counts x_row x_starts x_image x_readRow x_readStart x_readAt x_readMany x_piece x_packed x_pairBefore x_pairLast x_tokenLength x_tokenValue x_lengths x_fixed x_ranked x_weight x_weightBefore x_items x_codes x_symbolTree x_distanceTree x_smallTree x_readLengths x_source x_target c_lengthRow v_steps c_step c_stepMore c_counts v_plain v_closed v_rowSize v_pieces v_imageSize v_readSize v_readPieces v_packedBits v_tokens v_sourceFrom v_sourceBits v_readBits v_wrong v_made v_room) → va_S A s.heap H locs → lv_has ls 7 [(0, .ref a_this), (1, .int x1), (2, .int x2), (3, .int x3), (4, .int x4)] → W p l e M_tellRow_rm s m args below meth c H locs 0 0 Q (F0 m 22 ls []) := by
          intro n_22
          induction n_22 with
          | zero => exact fun _ _ _ _ _ _ _ _ _ _ hm _ _ _ _ => (mW7_z hm).elim
          | succ n_22 ih_22 =>
            intro v_steps c_step c_stepMore c_counts x2 x3 x4 H locs ls hm hP hD hS hl
            replace hm := mW7_s hm
            rw [M_tellRow_22] at hm
            refine lv_iload_n hx hb d_M_tellRow_22 rfl (lv_at hl 2 rfl) ?_
            refine lv_iload hx hb d_M_tellRow_23 (lv_at hl 4 rfl) ?_
            refine lv_iadd hx hb d_M_tellRow_25 ?_
            refine lv_iload_n hx hb d_M_tellRow_26 rfl (lv_at hl 1 rfl) ?_
            refine lv_icmp_ge (tgt := 49) hx hb d_M_tellRow_27 (by decide) (fun c27 => ?_) (fun c27 => ?_)
            · replace hm := mC_t hm c27
              exact h_49 _ _ _ _ _ _ _ H locs ls hm hP hD hS hl
            · replace hm := mC_f hm c27
              refine lv_aload_n hx hb d_M_tellRow_30 rfl (lv_at hl 0 rfl) ?_
              refine va_get (D := E.1) (ci := 12) (v := .ref a_lengthRow) (C := R_M) (T := F_M) (N := 46) hx hb hts i_M hown hK hP 0 rfl rfl 29 (by decide) (hts _ tw_824) (fun _ h9 => h9) rfl d_M_tellRow_31 ?_
              refine lv_iload_n hx hb d_M_tellRow_34 rfl (lv_at hl 2 rfl) ?_
              refine lv_iload hx hb d_M_tellRow_35 (lv_at hl 4 rfl) ?_
              refine lv_iadd hx hb d_M_tellRow_37 ?_
              refine lv_topi (fun i_27 ei_27 => ?_)
              replace hm := mL_e hm i_27 ei_27
              obtain ⟨hi38, hm⟩ := mG_e hm
              refine va_iald hx hb hK hP 1 0 rfl rfl hi38 d_M_tellRow_38 ?_
              refine lv_iload_n hx hb d_M_tellRow_39 rfl (lv_at hl 3 rfl) ?_
              refine lv_icmp_ne (tgt := 49) hx hb d_M_tellRow_40 (by decide) (fun c40 => ?_) (fun c40 => ?_)
              · replace hm := mC_f hm c40
                exact h_49 _ _ _ _ _ _ _ H locs ls hm hP hD hS hl
              · replace hm := mC_t hm c40
                obtain ⟨y4_28, ey4_28⟩ : ∃ y : Int32, y = x4 + 1 := ⟨_, rfl⟩
                replace hm := mL_e hm y4_28 ey4_28
                refine lv_iinc (v := y4_28) (lv' := [(4, .int y4_28), (0, .ref a_this), (1, .int x1), (2, .int x2), (3, .int x3)]) hx hb d_M_tellRow_43 hl (k := 4) rfl (by rw [ey4_28]; rfl) (by decide) rfl (fun ls hl => ?_)
                refine lv_goto (tgt := 22) hx hb d_M_tellRow_46 (by decide) ?_
                exact ih_22 _ _ _ _ _ _ _ H locs ls hm hP hD hS (lv_sub hl [1, 2, 3, 4, 0] rfl)
        refine lv_aload_n hx hb d_M_tellRow_12 rfl (lv_at hl 0 rfl) ?_
        refine va_get (D := E.1) (ci := 12) (v := .ref a_lengthRow) (C := R_M) (T := F_M) (N := 46) hx hb hts i_M hown hK hP 0 rfl rfl 29 (by decide) (hts _ tw_824) (fun _ h9 => h9) rfl d_M_tellRow_13 ?_
        refine lv_iload_n hx hb d_M_tellRow_16 rfl (lv_at hl 2 rfl) ?_
        obtain ⟨hi17, hm⟩ := mG_e hm
        refine va_iald hx hb hK hP 1 0 rfl rfl hi17 d_M_tellRow_17 ?_
        refine lv_topi (fun y3_29 ey3_29 => ?_)
        replace hm := mL_e hm y3_29 ey3_29
        refine lv_istore_n (lv' := [(3, .int y3_29), (0, .ref a_this), (1, .int x1), (2, .int x2)]) hx hb d_M_tellRow_18 rfl hl (by decide) rfl (fun ls hl => ?_)
        refine lv_iconst (v := 0) hx hb d_M_tellRow_19 (by decide) ?_
        refine lv_istore (lv' := [(4, .int 0), (3, .int y3_29), (0, .ref a_this), (1, .int x1), (2, .int x2)]) hx hb d_M_tellRow_20 hl (by decide) rfl (fun ls hl => ?_)
        exact h_22 F _ _ _ _ _ _ _ H locs ls hm hP hD hS (lv_sub hl [2, 3, 4, 1, 0] rfl)
  refine lv_aload_n hx hb d_M_tellRow_0 rfl (lv_at hl 0 rfl) ?_
  refine lv_iconst (v := 0) hx hb d_M_tellRow_1 (by decide) ?_
  refine va_put (D := E.1) (ci := 12) (v := .int 0) (ty := .int) (C := R_M) (T := F_M) (N := 46) hx hb hts i_M t_M t_M_ok n_M hown hK hP hD hS 0 rfl rfl 30 (by decide) (hts _ tw_825) (fun _ h9 => h9) rfl (by decide +kernel) rfl rfl (Nat.le_of_ble_eq_true rfl) d_M_tellRow_2 (fun H locs hP hD hS => ?_)
  replace hP : va_P E.1 vwCl (M_tellRow_w E a_this a_lengthRow a_step a_stepMore a_counts x_row x_starts x_image x_readRow x_readStart x_readAt x_readMany x_piece x_packed x_pairBefore x_pairLast x_tokenLength x_tokenValue x_lengths x_fixed x_ranked x_weight x_weightBefore x_items x_codes x_symbolTree x_distanceTree x_smallTree x_readLengths x_source x_target c_lengthRow 0 c_step c_stepMore c_counts v_plain v_closed v_rowSize v_pieces v_imageSize v_readSize v_readPieces v_packedBits v_tokens v_sourceFrom v_sourceBits v_readBits v_wrong v_made v_room) H := hP
  replace hD : va_D A (M_tellRow_w E a_this a_lengthRow a_step a_stepMore a_counts x_row x_starts x_image x_readRow x_readStart x_readAt x_readMany x_piece x_packed x_pairBefore x_pairLast x_tokenLength x_tokenValue x_lengths x_fixed x_ranked x_weight x_weightBefore x_items x_codes x_symbolTree x_distanceTree x_smallTree x_readLengths x_source x_target c_lengthRow 0 c_step c_stepMore c_counts v_plain v_closed v_rowSize v_pieces v_imageSize v_readSize v_readPieces v_packedBits v_tokens v_sourceFrom v_sourceBits v_readBits v_wrong v_made v_room) := hD
  refine lv_iconst (v := 0) hx hb d_M_tellRow_5 (by decide) ?_
  refine lv_istore_n (lv' := [(2, .int 0), (0, .ref a_this), (1, .int x1)]) hx hb d_M_tellRow_6 rfl hl (by decide) rfl (fun ls hl => ?_)
  exact h_7 F _ _ _ _ _ H locs ls hm hP hD hS (lv_sub hl [1, 2, 0] rfl)
theorem d_M_needed_0 : decode b_M_needed 0 = .ok (.iload_n 2, 1) := by decide +kernel
theorem d_M_needed_1 : decode b_M_needed 1 = .ok (.istore 4, 2) := by decide +kernel
theorem d_M_needed_3 : decode b_M_needed 3 = .ok (.iload 4, 2) := by decide +kernel
theorem d_M_needed_5 : decode b_M_needed 5 = .ok (.iload_n 3, 1) := by decide +kernel
theorem d_M_needed_6 : decode b_M_needed 6 = .ok (.if_icmp .le 23, 3) := by decide +kernel
theorem d_M_needed_9 : decode b_M_needed 9 = .ok (.aload_n 0, 1) := by decide +kernel
theorem d_M_needed_10 : decode b_M_needed 10 = .ok (.getfield 55, 3) := by decide +kernel
theorem d_M_needed_13 : decode b_M_needed 13 = .ok (.iload_n 1, 1) := by decide +kernel
theorem d_M_needed_14 : decode b_M_needed 14 = .ok (.iload 4, 2) := by decide +kernel
theorem d_M_needed_16 : decode b_M_needed 16 = .ok (.iadd, 1) := by decide +kernel
theorem d_M_needed_17 : decode b_M_needed 17 = .ok (.iconst 1, 1) := by decide +kernel
theorem d_M_needed_18 : decode b_M_needed 18 = .ok (.isub, 1) := by decide +kernel
theorem d_M_needed_19 : decode b_M_needed 19 = .ok (.iaload, 1) := by decide +kernel
theorem d_M_needed_20 : decode b_M_needed 20 = .ok (.ifCond .ne 9, 3) := by decide +kernel
theorem d_M_needed_23 : decode b_M_needed 23 = .ok (.iinc 4 (-1), 3) := by decide +kernel
theorem d_M_needed_26 : decode b_M_needed 26 = .ok (.goto (-23), 3) := by decide +kernel
theorem d_M_needed_29 : decode b_M_needed 29 = .ok (.iload 4, 2) := by decide +kernel
theorem d_M_needed_31 : decode b_M_needed 31 = .ok (.ireturn, 1) := by decide +kernel
def M_needed_3 (F : Nat) (c_lengths : Nat → Int32) (x1 : Int32) (x3 : Int32) (k_3 : Int32 → Option (Int32 × Unit)) (x4 : Int32) : Option (Int32 × Unit) :=
  mC (x4 ≤ x3) (some (x4, ())) (mL ((x1 + x4) - 1) fun i_1 => mG i_1 339 (mC ((c_lengths i_1.toNatClampNeg) = 0) (mL (x4 + (-1)) fun y4_2 => k_3 y4_2) (some (x4, ()))))
abbrev M_needed_w (E : xE) (a_this : Nat) (a_lengths : Nat) (x_row : Value) (x_starts : Value) (x_image : Value) (x_readRow : Value) (x_readStart : Value) (x_readAt : Value) (x_readMany : Value) (x_piece : Value) (x_packed : Value) (x_pairBefore : Value) (x_pairLast : Value) (x_tokenLength : Value) (x_tokenValue : Value) (x_counts : Value) (x_fixed : Value) (x_ranked : Value) (x_weight : Value) (x_weightBefore : Value) (x_items : Value) (x_lengthRow : Value) (x_step : Value) (x_stepMore : Value) (x_codes : Value) (x_symbolTree : Value) (x_distanceTree : Value) (x_smallTree : Value) (x_readLengths : Value) (x_source : Value) (x_target : Value) (c_lengths : Nat → Int32) (v_plain : Int32) (v_closed : Int32) (v_rowSize : Int32) (v_pieces : Int32) (v_imageSize : Int32) (v_readSize : Int32) (v_readPieces : Int32) (v_packedBits : Int32) (v_tokens : Int32) (v_steps : Int32) (v_sourceFrom : Int32) (v_sourceBits : Int32) (v_readBits : Int32) (v_wrong : Int32) (v_made : Int32) (v_room : Int32) : va_W := [(a_this, .inr (12, [.int v_plain, .int v_closed, .int v_rowSize, x_row, .int v_pieces, x_starts, .int v_imageSize, x_image, .int v_readSize, x_readRow, .int v_readPieces, x_readStart, x_readAt, x_readMany, x_piece, x_packed, .int v_packedBits, x_pairBefore, x_pairLast, .int v_tokens, x_tokenLength, x_tokenValue, x_counts, .ref a_lengths, x_fixed, x_ranked, x_weight, x_weightBefore, x_items, x_lengthRow, .int v_steps, x_step, x_stepMore, x_codes, x_symbolTree, x_distanceTree, x_smallTree, x_readLengths, x_source, .int v_sourceFrom, .int v_sourceBits, .int v_readBits, .int v_wrong, x_target, .int v_made, .int v_room])), (a_lengths, .inl (E.2.1, 339, .inl c_lengths))]
def M_needed (F : Nat) (c_lengths : Nat → Int32) (x1 : Int32) (x2 : Int32) (x3 : Int32) : Option (Int32 × Unit) :=
  (mW1 (M_needed_3 F c_lengths x1 x3) F) x2
abbrev M_needed_rm : Room := { frames := 0, cells := 0, slots := 0, locals := 0 }
set_option maxHeartbeats 4000000 in
set_option maxRecDepth 100000 in
theorem c_M_needed (l : Launch) (E : xE) (F sz : Nat) (a_this : Nat) (a_lengths : Nat) (x_row : Value) (x_starts : Value) (x_image : Value) (x_readRow : Value) (x_readStart : Value) (x_readAt : Value) (x_readMany : Value) (x_piece : Value) (x_packed : Value) (x_pairBefore : Value) (x_pairLast : Value) (x_tokenLength : Value) (x_tokenValue : Value) (x_counts : Value) (x_fixed : Value) (x_ranked : Value) (x_weight : Value) (x_weightBefore : Value) (x_items : Value) (x_lengthRow : Value) (x_step : Value) (x_stepMore : Value) (x_codes : Value) (x_symbolTree : Value) (x_distanceTree : Value) (x_smallTree : Value) (x_readLengths : Value) (x_source : Value) (x_target : Value) (c_lengths : Nat → Int32) (v_plain : Int32) (v_closed : Int32) (v_rowSize : Int32) (v_pieces : Int32) (v_imageSize : Int32) (v_readSize : Int32) (v_readPieces : Int32) (v_packedBits : Int32) (v_tokens : Int32) (v_steps : Int32) (v_sourceFrom : Int32) (v_sourceBits : Int32) (v_readBits : Int32) (v_wrong : Int32) (v_made : Int32) (v_room : Int32) (x1 : Int32) (x2 : Int32) (x3 : Int32) (res : Int32 × Unit) (hm : M_needed F c_lengths x1 x2 x3 = some res) : Met l y_M_needed (Cond.code y_M_needed b_M_needed 5 (some .int) :: x_tb) M_needed_rm (va_Pc [.ref a_this, .int x1, .int x2, .int x3] (xPre E (M_needed_w E a_this a_lengths x_row x_starts x_image x_readRow x_readStart x_readAt x_readMany x_piece x_packed x_pairBefore x_pairLast x_tokenLength x_tokenValue x_counts x_fixed x_ranked x_weight x_weightBefore x_items x_lengthRow x_step x_stepMore x_codes x_symbolTree x_distanceTree x_smallTree x_readLengths x_source x_target c_lengths v_plain v_closed v_rowSize v_pieces v_imageSize v_readSize v_readPieces v_packedBits v_tokens v_steps v_sourceFrom v_sourceBits v_readBits v_wrong v_made v_room) sz)) (xQi E (fun (r : Int32) (u : Unit) => r = res.1 ∧ u = res.2) (fun (u : Unit) => (M_needed_w E a_this a_lengths x_row x_starts x_image x_readRow x_readStart x_readAt x_readMany x_piece x_packed x_pairBefore x_pairLast x_tokenLength x_tokenValue x_counts x_fixed x_ranked x_weight x_weightBefore x_items x_lengthRow x_step x_stepMore x_codes x_symbolTree x_distanceTree x_smallTree x_readLengths x_source x_target c_lengths v_plain v_closed v_rowSize v_pieces v_imageSize v_readSize v_readPieces v_packedBits v_tokens v_steps v_sourceFrom v_sourceBits v_readBits v_wrong v_made v_room)) (va_A (M_needed_w E a_this a_lengths x_row x_starts x_image x_readRow x_readStart x_readAt x_readMany x_piece x_packed x_pairBefore x_pairLast x_tokenLength x_tokenValue x_counts x_fixed x_ranked x_weight x_weightBefore x_items x_lengthRow x_step x_stepMore x_codes x_symbolTree x_distanceTree x_smallTree x_readLengths x_source x_target c_lengths v_plain v_closed v_rowSize v_pieces v_imageSize v_readSize v_readPieces v_packedBits v_tokens v_steps v_sourceFrom v_sourceBits v_readBits v_wrong v_made v_room) sz)) 0 0 (va_A (M_needed_w E a_this a_lengths x_row x_starts x_image x_readRow x_readStart x_readAt x_readMany x_piece x_packed x_pairBefore x_pairLast x_tokenLength x_tokenValue x_counts x_fixed x_ranked x_weight x_weightBefore x_items x_lengthRow x_step x_stepMore x_codes x_symbolTree x_distanceTree x_smallTree x_readLengths x_source x_target c_lengths v_plain v_closed v_rowSize v_pieces v_imageSize v_readSize v_readPieces v_packedBits v_tokens v_steps v_sourceFrom v_sourceBits v_readBits v_wrong v_made v_room) sz) := by
  refine xEnI (by decide) (Nat.le_of_ble_eq_true rfl) ?_
  intro p e s m args below meth c A ls Q hx hb hnm hts hown hml hK hA hI hN hret hP hD hS hl
  replace hown : s.vm.findClass R_M = some m.cls := hown
  replace hl : lv_has ls 5 [(0, .ref a_this), (1, .int x1), (2, .int x2), (3, .int x3)] := hl
  obtain ⟨H, eH⟩ : ∃ z, z = s.heap := ⟨_, rfl⟩
  obtain ⟨locs, eL⟩ : ∃ z : List Loc, z = [] := ⟨_, rfl⟩
  rw [show W p l e M_needed_rm s m args below meth c s.heap [] 0 0 Q (F0 m 0 ls []) = W p l e M_needed_rm s m args below meth c H locs 0 0 Q (F0 m 0 ls []) by rw [eH, eL]]
  replace hP : va_P E.1 vwCl (M_needed_w E a_this a_lengths x_row x_starts x_image x_readRow x_readStart x_readAt x_readMany x_piece x_packed x_pairBefore x_pairLast x_tokenLength x_tokenValue x_counts x_fixed x_ranked x_weight x_weightBefore x_items x_lengthRow x_step x_stepMore x_codes x_symbolTree x_distanceTree x_smallTree x_readLengths x_source x_target c_lengths v_plain v_closed v_rowSize v_pieces v_imageSize v_readSize v_readPieces v_packedBits v_tokens v_steps v_sourceFrom v_sourceBits v_readBits v_wrong v_made v_room) H := by rw [eH]; exact hP
  replace hS : va_S A s.heap H locs := by rw [eH, eL]; exact hS
  clear eH eL
  rw [M_needed] at hm
  have h_3 : ∀ (n_3 : Nat) (x4 : Int32) (H : Heap) (locs : List Loc) (ls : Array Slot), (mW1 (M_needed_3 F c_lengths x1 x3) n_3) x4 = some res → va_P E.1 vwCl (M_needed_w E a_this a_lengths x_row x_starts x_image x_readRow x_readStart x_readAt x_readMany x_piece x_packed x_pairBefore x_pairLast x_tokenLength x_tokenValue x_counts x_fixed x_ranked x_weight x_weightBefore x_items x_lengthRow x_step x_stepMore x_codes x_symbolTree x_distanceTree x_smallTree x_readLengths x_source x_target c_lengths v_plain v_closed v_rowSize v_pieces v_imageSize v_readSize v_readPieces v_packedBits v_tokens v_steps v_sourceFrom v_sourceBits v_readBits v_wrong v_made v_room) H → va_D A (M_needed_w E a_this a_lengths x_row x_starts x_image x_readRow x_readStart x_readAt x_readMany x_piece x_packed x_pairBefore x_pairLast x_tokenLength x_tokenValue x_counts x_fixed x_ranked x_weight x_weightBefore x_items x_lengthRow x_step x_stepMore x_codes x_symbolTree x_distanceTree x_smallTree x_readLengths x_source x_target c_lengths v_plain v_closed v_rowSize v_pieces v_imageSize v_readSize v_readPieces v_packedBits v_tokens v_steps v_sourceFrom v_sourceBits v_readBits v_wrong v_made v_room) → va_S A s.heap H locs → lv_has ls 5 [(0, .ref a_this), (1, .int x1), (3, .int x3), (4, .int x4)] → W p l e M_needed_rm s m args below meth c H locs 0 0 Q (F0 m 3 ls []) := by
    intro n_3
    induction n_3 with
    | zero => exact fun _ _ _ _ hm _ _ _ _ => (mW1_z hm).elim
    | succ n_3 ih_3 =>
      intro x4 H locs ls hm hP hD hS hl
      replace hm := mW1_s hm
      rw [M_needed_3] at hm
      refine lv_iload hx hb d_M_needed_3 (lv_at hl 3 rfl) ?_
      refine lv_iload_n hx hb d_M_needed_5 rfl (lv_at hl 2 rfl) ?_
      refine lv_icmp_le (tgt := 29) hx hb d_M_needed_6 (by decide) (fun c6 => ?_) (fun c6 => ?_)
      · replace hm := mC_t hm c6
        refine lv_iload hx hb d_M_needed_29 (lv_at hl 3 rfl) ?_
        replace hm := Option.some.inj hm
        subst hm
        exact hret d_M_needed_31 (u := ()) ⟨rfl, rfl⟩ hP hD hS
      · replace hm := mC_f hm c6
        refine lv_aload_n hx hb d_M_needed_9 rfl (lv_at hl 0 rfl) ?_
        refine va_get (D := E.1) (ci := 12) (v := .ref a_lengths) (C := R_M) (T := F_M) (N := 46) hx hb hts i_M hown hK hP 0 rfl rfl 23 (by decide) (hts _ tw_818) (fun _ h9 => h9) rfl d_M_needed_10 ?_
        refine lv_iload_n hx hb d_M_needed_13 rfl (lv_at hl 1 rfl) ?_
        refine lv_iload hx hb d_M_needed_14 (lv_at hl 3 rfl) ?_
        refine lv_iadd hx hb d_M_needed_16 ?_
        refine lv_iconst (v := 1) hx hb d_M_needed_17 (by decide) ?_
        refine lv_isub hx hb d_M_needed_18 ?_
        refine lv_topi (fun i_1 ei_1 => ?_)
        replace hm := mL_e hm i_1 ei_1
        obtain ⟨hi19, hm⟩ := mG_e hm
        refine va_iald hx hb hK hP 1 0 rfl rfl hi19 d_M_needed_19 ?_
        refine lv_if_ne (tgt := 29) hx hb d_M_needed_20 (by decide) (fun c20 => ?_) (fun c20 => ?_)
        · replace hm := mC_f hm c20
          refine lv_iload hx hb d_M_needed_29 (lv_at hl 3 rfl) ?_
          replace hm := Option.some.inj hm
          subst hm
          exact hret d_M_needed_31 (u := ()) ⟨rfl, rfl⟩ hP hD hS
        · replace hm := mC_t hm c20
          obtain ⟨y4_2, ey4_2⟩ : ∃ y : Int32, y = x4 + (-1) := ⟨_, rfl⟩
          replace hm := mL_e hm y4_2 ey4_2
          refine lv_iinc (v := y4_2) (lv' := [(4, .int y4_2), (0, .ref a_this), (1, .int x1), (3, .int x3)]) hx hb d_M_needed_23 hl (k := 3) rfl (by rw [ey4_2]; rfl) (by decide) rfl (fun ls hl => ?_)
          refine lv_goto (tgt := 3) hx hb d_M_needed_26 (by decide) ?_
          exact ih_3 _ H locs ls hm hP hD hS (lv_sub hl [1, 2, 3, 0] rfl)
  refine lv_iload_n hx hb d_M_needed_0 rfl (lv_at hl 2 rfl) ?_
  refine lv_istore (lv' := [(4, .int x2), (0, .ref a_this), (1, .int x1), (2, .int x2), (3, .int x3)]) hx hb d_M_needed_1 hl (by decide) rfl (fun ls hl => ?_)
  exact h_3 F _ H locs ls hm hP hD hS (lv_sub hl [1, 2, 4, 0] rfl)
theorem d_M_bitsBy_0 : decode b_M_bitsBy 0 = .ok (.aload_n 1, 1) := by decide +kernel
theorem d_M_bitsBy_1 : decode b_M_bitsBy 1 = .ok (.sipush 256, 3) := by decide +kernel
theorem d_M_bitsBy_4 : decode b_M_bitsBy 4 = .ok (.iaload, 1) := by decide +kernel
theorem d_M_bitsBy_5 : decode b_M_bitsBy 5 = .ok (.istore_n 2, 1) := by decide +kernel
theorem d_M_bitsBy_6 : decode b_M_bitsBy 6 = .ok (.iconst 0, 1) := by decide +kernel
theorem d_M_bitsBy_7 : decode b_M_bitsBy 7 = .ok (.istore_n 3, 1) := by decide +kernel
theorem d_M_bitsBy_8 : decode b_M_bitsBy 8 = .ok (.iload_n 3, 1) := by decide +kernel
theorem d_M_bitsBy_9 : decode b_M_bitsBy 9 = .ok (.aload_n 0, 1) := by decide +kernel
theorem d_M_bitsBy_10 : decode b_M_bitsBy 10 = .ok (.getfield 126, 3) := by decide +kernel
theorem d_M_bitsBy_13 : decode b_M_bitsBy 13 = .ok (.if_icmp .ge 79, 3) := by decide +kernel
theorem d_M_bitsBy_16 : decode b_M_bitsBy 16 = .ok (.aload_n 0, 1) := by decide +kernel
theorem d_M_bitsBy_17 : decode b_M_bitsBy 17 = .ok (.getfield 46, 3) := by decide +kernel
theorem d_M_bitsBy_20 : decode b_M_bitsBy 20 = .ok (.iload_n 3, 1) := by decide +kernel
theorem d_M_bitsBy_21 : decode b_M_bitsBy 21 = .ok (.iaload, 1) := by decide +kernel
theorem d_M_bitsBy_22 : decode b_M_bitsBy 22 = .ok (.invokestatic 130, 3) := by decide +kernel
theorem d_M_bitsBy_25 : decode b_M_bitsBy 25 = .ok (.istore 4, 2) := by decide +kernel
theorem d_M_bitsBy_27 : decode b_M_bitsBy 27 = .ok (.aload_n 0, 1) := by decide +kernel
theorem d_M_bitsBy_28 : decode b_M_bitsBy 28 = .ok (.getfield 49, 3) := by decide +kernel
theorem d_M_bitsBy_31 : decode b_M_bitsBy 31 = .ok (.iload_n 3, 1) := by decide +kernel
theorem d_M_bitsBy_32 : decode b_M_bitsBy 32 = .ok (.iaload, 1) := by decide +kernel
theorem d_M_bitsBy_33 : decode b_M_bitsBy 33 = .ok (.invokestatic 133, 3) := by decide +kernel
theorem d_M_bitsBy_36 : decode b_M_bitsBy 36 = .ok (.istore 5, 2) := by decide +kernel
theorem d_M_bitsBy_38 : decode b_M_bitsBy 38 = .ok (.iload_n 2, 1) := by decide +kernel
theorem d_M_bitsBy_39 : decode b_M_bitsBy 39 = .ok (.aload_n 0, 1) := by decide +kernel
theorem d_M_bitsBy_40 : decode b_M_bitsBy 40 = .ok (.getfield 46, 3) := by decide +kernel
theorem d_M_bitsBy_43 : decode b_M_bitsBy 43 = .ok (.iload_n 3, 1) := by decide +kernel
theorem d_M_bitsBy_44 : decode b_M_bitsBy 44 = .ok (.iaload, 1) := by decide +kernel
theorem d_M_bitsBy_45 : decode b_M_bitsBy 45 = .ok (.ifCond .ne 14, 3) := by decide +kernel
theorem d_M_bitsBy_48 : decode b_M_bitsBy 48 = .ok (.aload_n 1, 1) := by decide +kernel
theorem d_M_bitsBy_49 : decode b_M_bitsBy 49 = .ok (.aload_n 0, 1) := by decide +kernel
theorem d_M_bitsBy_50 : decode b_M_bitsBy 50 = .ok (.getfield 49, 3) := by decide +kernel
theorem d_M_bitsBy_53 : decode b_M_bitsBy 53 = .ok (.iload_n 3, 1) := by decide +kernel
theorem d_M_bitsBy_54 : decode b_M_bitsBy 54 = .ok (.iaload, 1) := by decide +kernel
theorem d_M_bitsBy_55 : decode b_M_bitsBy 55 = .ok (.iaload, 1) := by decide +kernel
theorem d_M_bitsBy_56 : decode b_M_bitsBy 56 = .ok (.goto 28, 3) := by decide +kernel
theorem d_M_bitsBy_59 : decode b_M_bitsBy 59 = .ok (.aload_n 1, 1) := by decide +kernel
theorem d_M_bitsBy_60 : decode b_M_bitsBy 60 = .ok (.iload 4, 2) := by decide +kernel
theorem d_M_bitsBy_62 : decode b_M_bitsBy 62 = .ok (.iaload, 1) := by decide +kernel
theorem d_M_bitsBy_63 : decode b_M_bitsBy 63 = .ok (.iload 4, 2) := by decide +kernel
theorem d_M_bitsBy_65 : decode b_M_bitsBy 65 = .ok (.invokestatic 101, 3) := by decide +kernel
theorem d_M_bitsBy_68 : decode b_M_bitsBy 68 = .ok (.iadd, 1) := by decide +kernel
theorem d_M_bitsBy_69 : decode b_M_bitsBy 69 = .ok (.aload_n 1, 1) := by decide +kernel
theorem d_M_bitsBy_70 : decode b_M_bitsBy 70 = .ok (.sipush 288, 3) := by decide +kernel
theorem d_M_bitsBy_73 : decode b_M_bitsBy 73 = .ok (.iload 5, 2) := by decide +kernel
theorem d_M_bitsBy_75 : decode b_M_bitsBy 75 = .ok (.iadd, 1) := by decide +kernel
theorem d_M_bitsBy_76 : decode b_M_bitsBy 76 = .ok (.iaload, 1) := by decide +kernel
theorem d_M_bitsBy_77 : decode b_M_bitsBy 77 = .ok (.iadd, 1) := by decide +kernel
theorem d_M_bitsBy_78 : decode b_M_bitsBy 78 = .ok (.iload 5, 2) := by decide +kernel
theorem d_M_bitsBy_80 : decode b_M_bitsBy 80 = .ok (.invokestatic 105, 3) := by decide +kernel
theorem d_M_bitsBy_83 : decode b_M_bitsBy 83 = .ok (.iadd, 1) := by decide +kernel
theorem d_M_bitsBy_84 : decode b_M_bitsBy 84 = .ok (.iadd, 1) := by decide +kernel
theorem d_M_bitsBy_85 : decode b_M_bitsBy 85 = .ok (.istore_n 2, 1) := by decide +kernel
theorem d_M_bitsBy_86 : decode b_M_bitsBy 86 = .ok (.iinc 3 1, 3) := by decide +kernel
theorem d_M_bitsBy_89 : decode b_M_bitsBy 89 = .ok (.goto (-81), 3) := by decide +kernel
theorem d_M_bitsBy_92 : decode b_M_bitsBy 92 = .ok (.iload_n 2, 1) := by decide +kernel
theorem d_M_bitsBy_93 : decode b_M_bitsBy 93 = .ok (.ireturn, 1) := by decide +kernel
def M_bitsBy_84 (F : Nat) (k_8 : Int32 → Int32 → Option (Int32 × Unit)) (x3 : Int32) (s0 : Int32) (s1 : Int32) : Option (Int32 × Unit) :=
  mL (s0 + s1) fun y2_1 => mL (x3 + 1) fun y3_2 => k_8 y2_1 y3_2
def M_bitsBy_8 (F : Nat) (n_p1 : Nat) (c_p1 : Nat → Int32) (v_tokens : Int32) (c_tokenLength : Nat → Int32) (c_tokenValue : Nat → Int32) (k_8 : Int32 → Int32 → Option (Int32 × Unit)) (x2 : Int32) (x3 : Int32) : Option (Int32 × Unit) :=
  mC (v_tokens ≤ x3) (some (x2, ())) (mG x3 4096 (mL (c_tokenLength x3.toNatClampNeg) fun t_3 => mR0 (M_lengthSymbol F t_3) fun r_4 => mG x3 4096 (mL (c_tokenValue x3.toNatClampNeg) fun t_5 => mR0 (M_distanceSymbol F t_5) fun r_6 => mG x3 4096 (mC ((c_tokenLength x3.toNatClampNeg) = 0) (mG x3 4096 (mL (c_tokenValue x3.toNatClampNeg) fun i_10 => mG i_10 n_p1 ((M_bitsBy_84 F k_8) x3 x2 (c_p1 i_10.toNatClampNeg)))) (mG r_4 n_p1 (mR0 (M_lengthBits F r_4) fun r_7 => mL (288 + r_6) fun i_8 => mG i_8 n_p1 (mR0 (M_distanceBits F r_6) fun r_9 => (M_bitsBy_84 F k_8) x3 x2 ((((c_p1 r_4.toNatClampNeg) + r_7) + (c_p1 i_8.toNatClampNeg)) + r_9))))))))
abbrev M_bitsBy_w (E : xE) (a_p1 : Nat) (a_this : Nat) (a_tokenLength : Nat) (a_tokenValue : Nat) (n_p1 : Nat) (x_row : Value) (x_starts : Value) (x_image : Value) (x_readRow : Value) (x_readStart : Value) (x_readAt : Value) (x_readMany : Value) (x_piece : Value) (x_packed : Value) (x_pairBefore : Value) (x_pairLast : Value) (x_counts : Value) (x_lengths : Value) (x_fixed : Value) (x_ranked : Value) (x_weight : Value) (x_weightBefore : Value) (x_items : Value) (x_lengthRow : Value) (x_step : Value) (x_stepMore : Value) (x_codes : Value) (x_symbolTree : Value) (x_distanceTree : Value) (x_smallTree : Value) (x_readLengths : Value) (x_source : Value) (x_target : Value) (c_p1 : Nat → Int32) (v_tokens : Int32) (c_tokenLength : Nat → Int32) (c_tokenValue : Nat → Int32) (v_plain : Int32) (v_closed : Int32) (v_rowSize : Int32) (v_pieces : Int32) (v_imageSize : Int32) (v_readSize : Int32) (v_readPieces : Int32) (v_packedBits : Int32) (v_steps : Int32) (v_sourceFrom : Int32) (v_sourceBits : Int32) (v_readBits : Int32) (v_wrong : Int32) (v_made : Int32) (v_room : Int32) : va_W := [(a_p1, .inl (E.2.1, n_p1, .inl c_p1)), (a_this, .inr (12, [.int v_plain, .int v_closed, .int v_rowSize, x_row, .int v_pieces, x_starts, .int v_imageSize, x_image, .int v_readSize, x_readRow, .int v_readPieces, x_readStart, x_readAt, x_readMany, x_piece, x_packed, .int v_packedBits, x_pairBefore, x_pairLast, .int v_tokens, .ref a_tokenLength, .ref a_tokenValue, x_counts, x_lengths, x_fixed, x_ranked, x_weight, x_weightBefore, x_items, x_lengthRow, .int v_steps, x_step, x_stepMore, x_codes, x_symbolTree, x_distanceTree, x_smallTree, x_readLengths, x_source, .int v_sourceFrom, .int v_sourceBits, .int v_readBits, .int v_wrong, x_target, .int v_made, .int v_room])), (a_tokenLength, .inl (E.2.1, 4096, .inl c_tokenLength)), (a_tokenValue, .inl (E.2.1, 4096, .inl c_tokenValue))]
def M_bitsBy (F : Nat) (n_p1 : Nat) (c_p1 : Nat → Int32) (v_tokens : Int32) (c_tokenLength : Nat → Int32) (c_tokenValue : Nat → Int32) : Option (Int32 × Unit) :=
  mG 256 n_p1 (mL (c_p1 (256 : Int32).toNatClampNeg) fun y2_11 => (mW2 (M_bitsBy_8 F n_p1 c_p1 v_tokens c_tokenLength c_tokenValue) F) y2_11 0)
abbrev M_bitsBy_rm : Room := { frames := 3, cells := 0, slots := 0, locals := 61 }
set_option maxHeartbeats 4000000 in
set_option maxRecDepth 100000 in
theorem c_M_bitsBy (l : Launch) (E : xE) (F sz : Nat) (a_p1 : Nat) (a_this : Nat) (a_tokenLength : Nat) (a_tokenValue : Nat) (n_p1 : Nat) (x_row : Value) (x_starts : Value) (x_image : Value) (x_readRow : Value) (x_readStart : Value) (x_readAt : Value) (x_readMany : Value) (x_piece : Value) (x_packed : Value) (x_pairBefore : Value) (x_pairLast : Value) (x_counts : Value) (x_lengths : Value) (x_fixed : Value) (x_ranked : Value) (x_weight : Value) (x_weightBefore : Value) (x_items : Value) (x_lengthRow : Value) (x_step : Value) (x_stepMore : Value) (x_codes : Value) (x_symbolTree : Value) (x_distanceTree : Value) (x_smallTree : Value) (x_readLengths : Value) (x_source : Value) (x_target : Value) (c_p1 : Nat → Int32) (v_tokens : Int32) (c_tokenLength : Nat → Int32) (c_tokenValue : Nat → Int32) (v_plain : Int32) (v_closed : Int32) (v_rowSize : Int32) (v_pieces : Int32) (v_imageSize : Int32) (v_readSize : Int32) (v_readPieces : Int32) (v_packedBits : Int32) (v_steps : Int32) (v_sourceFrom : Int32) (v_sourceBits : Int32) (v_readBits : Int32) (v_wrong : Int32) (v_made : Int32) (v_room : Int32) (res : Int32 × Unit) (hm : M_bitsBy F n_p1 c_p1 v_tokens c_tokenLength c_tokenValue = some res) : Met l y_M_bitsBy (Cond.code y_M_bitsBy b_M_bitsBy 6 (some .int) :: x_tb) M_bitsBy_rm (va_Pc [.ref a_this, .ref a_p1] (xPre E (M_bitsBy_w E a_p1 a_this a_tokenLength a_tokenValue n_p1 x_row x_starts x_image x_readRow x_readStart x_readAt x_readMany x_piece x_packed x_pairBefore x_pairLast x_counts x_lengths x_fixed x_ranked x_weight x_weightBefore x_items x_lengthRow x_step x_stepMore x_codes x_symbolTree x_distanceTree x_smallTree x_readLengths x_source x_target c_p1 v_tokens c_tokenLength c_tokenValue v_plain v_closed v_rowSize v_pieces v_imageSize v_readSize v_readPieces v_packedBits v_steps v_sourceFrom v_sourceBits v_readBits v_wrong v_made v_room) sz)) (xQi E (fun (r : Int32) (u : Unit) => r = res.1 ∧ u = res.2) (fun (u : Unit) => (M_bitsBy_w E a_p1 a_this a_tokenLength a_tokenValue n_p1 x_row x_starts x_image x_readRow x_readStart x_readAt x_readMany x_piece x_packed x_pairBefore x_pairLast x_counts x_lengths x_fixed x_ranked x_weight x_weightBefore x_items x_lengthRow x_step x_stepMore x_codes x_symbolTree x_distanceTree x_smallTree x_readLengths x_source x_target c_p1 v_tokens c_tokenLength c_tokenValue v_plain v_closed v_rowSize v_pieces v_imageSize v_readSize v_readPieces v_packedBits v_steps v_sourceFrom v_sourceBits v_readBits v_wrong v_made v_room)) (va_A (M_bitsBy_w E a_p1 a_this a_tokenLength a_tokenValue n_p1 x_row x_starts x_image x_readRow x_readStart x_readAt x_readMany x_piece x_packed x_pairBefore x_pairLast x_counts x_lengths x_fixed x_ranked x_weight x_weightBefore x_items x_lengthRow x_step x_stepMore x_codes x_symbolTree x_distanceTree x_smallTree x_readLengths x_source x_target c_p1 v_tokens c_tokenLength c_tokenValue v_plain v_closed v_rowSize v_pieces v_imageSize v_readSize v_readPieces v_packedBits v_steps v_sourceFrom v_sourceBits v_readBits v_wrong v_made v_room) sz)) 0 0 (va_A (M_bitsBy_w E a_p1 a_this a_tokenLength a_tokenValue n_p1 x_row x_starts x_image x_readRow x_readStart x_readAt x_readMany x_piece x_packed x_pairBefore x_pairLast x_counts x_lengths x_fixed x_ranked x_weight x_weightBefore x_items x_lengthRow x_step x_stepMore x_codes x_symbolTree x_distanceTree x_smallTree x_readLengths x_source x_target c_p1 v_tokens c_tokenLength c_tokenValue v_plain v_closed v_rowSize v_pieces v_imageSize v_readSize v_readPieces v_packedBits v_steps v_sourceFrom v_sourceBits v_readBits v_wrong v_made v_room) sz) := by
  refine xEnI (by decide) (Nat.le_of_ble_eq_true rfl) ?_
  intro p e s m args below meth c A ls Q hx hb hnm hts hown hml hK hA hI hN hret hP hD hS hl
  replace hown : s.vm.findClass R_M = some m.cls := hown
  replace hl : lv_has ls 6 [(0, .ref a_this), (1, .ref a_p1)] := hl
  obtain ⟨H, eH⟩ : ∃ z, z = s.heap := ⟨_, rfl⟩
  obtain ⟨locs, eL⟩ : ∃ z : List Loc, z = [] := ⟨_, rfl⟩
  rw [show W p l e M_bitsBy_rm s m args below meth c s.heap [] 0 0 Q (F0 m 0 ls []) = W p l e M_bitsBy_rm s m args below meth c H locs 0 0 Q (F0 m 0 ls []) by rw [eH, eL]]
  replace hP : va_P E.1 vwCl (M_bitsBy_w E a_p1 a_this a_tokenLength a_tokenValue n_p1 x_row x_starts x_image x_readRow x_readStart x_readAt x_readMany x_piece x_packed x_pairBefore x_pairLast x_counts x_lengths x_fixed x_ranked x_weight x_weightBefore x_items x_lengthRow x_step x_stepMore x_codes x_symbolTree x_distanceTree x_smallTree x_readLengths x_source x_target c_p1 v_tokens c_tokenLength c_tokenValue v_plain v_closed v_rowSize v_pieces v_imageSize v_readSize v_readPieces v_packedBits v_steps v_sourceFrom v_sourceBits v_readBits v_wrong v_made v_room) H := by rw [eH]; exact hP
  replace hS : va_S A s.heap H locs := by rw [eH, eL]; exact hS
  clear eH eL
  rw [M_bitsBy] at hm
  have h_8 : ∀ (n_8 : Nat) (x2 : Int32) (x3 : Int32) (H : Heap) (locs : List Loc) (ls : Array Slot), (mW2 (M_bitsBy_8 F n_p1 c_p1 v_tokens c_tokenLength c_tokenValue) n_8) x2 x3 = some res → va_P E.1 vwCl (M_bitsBy_w E a_p1 a_this a_tokenLength a_tokenValue n_p1 x_row x_starts x_image x_readRow x_readStart x_readAt x_readMany x_piece x_packed x_pairBefore x_pairLast x_counts x_lengths x_fixed x_ranked x_weight x_weightBefore x_items x_lengthRow x_step x_stepMore x_codes x_symbolTree x_distanceTree x_smallTree x_readLengths x_source x_target c_p1 v_tokens c_tokenLength c_tokenValue v_plain v_closed v_rowSize v_pieces v_imageSize v_readSize v_readPieces v_packedBits v_steps v_sourceFrom v_sourceBits v_readBits v_wrong v_made v_room) H → va_D A (M_bitsBy_w E a_p1 a_this a_tokenLength a_tokenValue n_p1 x_row x_starts x_image x_readRow x_readStart x_readAt x_readMany x_piece x_packed x_pairBefore x_pairLast x_counts x_lengths x_fixed x_ranked x_weight x_weightBefore x_items x_lengthRow x_step x_stepMore x_codes x_symbolTree x_distanceTree x_smallTree x_readLengths x_source x_target c_p1 v_tokens c_tokenLength c_tokenValue v_plain v_closed v_rowSize v_pieces v_imageSize v_readSize v_readPieces v_packedBits v_steps v_sourceFrom v_sourceBits v_readBits v_wrong v_made v_room) → va_S A s.heap H locs → lv_has ls 6 [(0, .ref a_this), (1, .ref a_p1), (2, .int x2), (3, .int x3)] → W p l e M_bitsBy_rm s m args below meth c H locs 0 0 Q (F0 m 8 ls []) := by
    intro n_8
    induction n_8 with
    | zero => exact fun _ _ _ _ _ hm _ _ _ _ => (mW2_z hm).elim
    | succ n_8 ih_8 =>
      intro x2 x3 H locs ls hm hP hD hS hl
      replace hm := mW2_s hm
      rw [M_bitsBy_8] at hm
      refine lv_iload_n hx hb d_M_bitsBy_8 rfl (lv_at hl 3 rfl) ?_
      refine lv_aload_n hx hb d_M_bitsBy_9 rfl (lv_at hl 0 rfl) ?_
      refine va_get (D := E.1) (ci := 12) (v := .int v_tokens) (C := R_M) (T := F_M) (N := 46) hx hb hts i_M hown hK hP 1 rfl rfl 19 (by decide) (hts _ tw_814) (fun _ h9 => h9) rfl d_M_bitsBy_10 ?_
      refine lv_icmp_ge (tgt := 92) hx hb d_M_bitsBy_13 (by decide) (fun c13 => ?_) (fun c13 => ?_)
      · replace hm := mC_t hm c13
        refine lv_iload_n hx hb d_M_bitsBy_92 rfl (lv_at hl 2 rfl) ?_
        replace hm := Option.some.inj hm
        subst hm
        exact hret d_M_bitsBy_93 (u := ()) ⟨rfl, rfl⟩ hP hD hS
      · replace hm := mC_f hm c13
        have h_84 : ∀ (x3 : Int32) (s0 : Int32) (s1 : Int32) (H : Heap) (locs : List Loc) (ls : Array Slot), (M_bitsBy_84 F (mW2 (M_bitsBy_8 F n_p1 c_p1 v_tokens c_tokenLength c_tokenValue) n_8)) x3 s0 s1 = some res → va_P E.1 vwCl (M_bitsBy_w E a_p1 a_this a_tokenLength a_tokenValue n_p1 x_row x_starts x_image x_readRow x_readStart x_readAt x_readMany x_piece x_packed x_pairBefore x_pairLast x_counts x_lengths x_fixed x_ranked x_weight x_weightBefore x_items x_lengthRow x_step x_stepMore x_codes x_symbolTree x_distanceTree x_smallTree x_readLengths x_source x_target c_p1 v_tokens c_tokenLength c_tokenValue v_plain v_closed v_rowSize v_pieces v_imageSize v_readSize v_readPieces v_packedBits v_steps v_sourceFrom v_sourceBits v_readBits v_wrong v_made v_room) H → va_D A (M_bitsBy_w E a_p1 a_this a_tokenLength a_tokenValue n_p1 x_row x_starts x_image x_readRow x_readStart x_readAt x_readMany x_piece x_packed x_pairBefore x_pairLast x_counts x_lengths x_fixed x_ranked x_weight x_weightBefore x_items x_lengthRow x_step x_stepMore x_codes x_symbolTree x_distanceTree x_smallTree x_readLengths x_source x_target c_p1 v_tokens c_tokenLength c_tokenValue v_plain v_closed v_rowSize v_pieces v_imageSize v_readSize v_readPieces v_packedBits v_steps v_sourceFrom v_sourceBits v_readBits v_wrong v_made v_room) → va_S A s.heap H locs → lv_has ls 6 [(0, .ref a_this), (1, .ref a_p1), (3, .int x3)] → W p l e M_bitsBy_rm s m args below meth c H locs 0 0 Q (F0 m 84 ls [.int s1, .int s0]) := by
          intro x3 s0 s1 H locs ls hm hP hD hS hl
          rw [M_bitsBy_84] at hm
          refine lv_iadd hx hb d_M_bitsBy_84 ?_
          refine lv_topi (fun y2_1 ey2_1 => ?_)
          replace hm := mL_e hm y2_1 ey2_1
          refine lv_istore_n (lv' := [(2, .int y2_1), (0, .ref a_this), (1, .ref a_p1), (3, .int x3)]) hx hb d_M_bitsBy_85 rfl hl (by decide) rfl (fun ls hl => ?_)
          obtain ⟨y3_2, ey3_2⟩ : ∃ y : Int32, y = x3 + 1 := ⟨_, rfl⟩
          replace hm := mL_e hm y3_2 ey3_2
          refine lv_iinc (v := y3_2) (lv' := [(3, .int y3_2), (2, .int y2_1), (0, .ref a_this), (1, .ref a_p1)]) hx hb d_M_bitsBy_86 hl (k := 3) rfl (by rw [ey3_2]; rfl) (by decide) rfl (fun ls hl => ?_)
          refine lv_goto (tgt := 8) hx hb d_M_bitsBy_89 (by decide) ?_
          exact ih_8 _ _ H locs ls hm hP hD hS (lv_sub hl [2, 3, 1, 0] rfl)
        refine lv_aload_n hx hb d_M_bitsBy_16 rfl (lv_at hl 0 rfl) ?_
        refine va_get (D := E.1) (ci := 12) (v := .ref a_tokenLength) (C := R_M) (T := F_M) (N := 46) hx hb hts i_M hown hK hP 1 rfl rfl 20 (by decide) (hts _ tw_815) (fun _ h9 => h9) rfl d_M_bitsBy_17 ?_
        refine lv_iload_n hx hb d_M_bitsBy_20 rfl (lv_at hl 3 rfl) ?_
        obtain ⟨hi21, hm⟩ := mG_e hm
        refine va_iald hx hb hK hP 2 0 rfl rfl hi21 d_M_bitsBy_21 ?_
        obtain ⟨t_3, et_3⟩ : ∃ z : Int32, z = c_tokenLength x3.toNatClampNeg := ⟨_, rfl⟩
        rw [← et_3]
        replace hm := mL_e hm t_3 et_3
        obtain ⟨r_4, hc22, hm⟩ := mR0_e hm
        refine xmi (wc := (M_lengthSymbol_w E)) [false, false, false, false] [] [] hP hD hS hA rfl (by decide) (by decide) 0 (by decide) (fun _ => rfl) (fun hPc hDc hFc => va_runS (As := [.int t_3]) (rest := []) ⟨hx, hb, hml, hown, hts⟩ (c_M_lengthSymbol l E F H.size t_3 (r_4, ()) hc22) (va_cwS 1 hts (x_gS tw_979 tw_980 tw_79 tw_981) rfl rfl rfl (by decide +kernel) ⟨Nat.le_of_ble_eq_true rfl, Nat.le_of_ble_eq_true rfl⟩) (xPS hPc hDc hFc hK hI hN hS) rfl rfl hl.1 rfl (lv_room (Nat.le_of_ble_eq_true rfl)) d_M_bitsBy_22 ⟨Nat.le_of_ble_eq_true rfl, Nat.le_of_ble_eq_true rfl⟩) (fun r9 u9 H locs hw hP hD hS => ?_)
        have hw1 : r_4 = r9 := hw.1.symm
        subst hw1
        replace hP : va_P E.1 vwCl (M_bitsBy_w E a_p1 a_this a_tokenLength a_tokenValue n_p1 x_row x_starts x_image x_readRow x_readStart x_readAt x_readMany x_piece x_packed x_pairBefore x_pairLast x_counts x_lengths x_fixed x_ranked x_weight x_weightBefore x_items x_lengthRow x_step x_stepMore x_codes x_symbolTree x_distanceTree x_smallTree x_readLengths x_source x_target c_p1 v_tokens c_tokenLength c_tokenValue v_plain v_closed v_rowSize v_pieces v_imageSize v_readSize v_readPieces v_packedBits v_steps v_sourceFrom v_sourceBits v_readBits v_wrong v_made v_room) H := hP
        replace hD : va_D A (M_bitsBy_w E a_p1 a_this a_tokenLength a_tokenValue n_p1 x_row x_starts x_image x_readRow x_readStart x_readAt x_readMany x_piece x_packed x_pairBefore x_pairLast x_counts x_lengths x_fixed x_ranked x_weight x_weightBefore x_items x_lengthRow x_step x_stepMore x_codes x_symbolTree x_distanceTree x_smallTree x_readLengths x_source x_target c_p1 v_tokens c_tokenLength c_tokenValue v_plain v_closed v_rowSize v_pieces v_imageSize v_readSize v_readPieces v_packedBits v_steps v_sourceFrom v_sourceBits v_readBits v_wrong v_made v_room) := hD
        refine lv_istore (lv' := [(4, .int r_4), (0, .ref a_this), (1, .ref a_p1), (2, .int x2), (3, .int x3)]) hx hb d_M_bitsBy_25 hl (by decide) rfl (fun ls hl => ?_)
        refine lv_aload_n hx hb d_M_bitsBy_27 rfl (lv_at hl 1 rfl) ?_
        refine va_get (D := E.1) (ci := 12) (v := .ref a_tokenValue) (C := R_M) (T := F_M) (N := 46) hx hb hts i_M hown hK hP 1 rfl rfl 21 (by decide) (hts _ tw_816) (fun _ h9 => h9) rfl d_M_bitsBy_28 ?_
        refine lv_iload_n hx hb d_M_bitsBy_31 rfl (lv_at hl 4 rfl) ?_
        obtain ⟨hi32, hm⟩ := mG_e hm
        refine va_iald hx hb hK hP 3 0 rfl rfl hi32 d_M_bitsBy_32 ?_
        obtain ⟨t_5, et_5⟩ : ∃ z : Int32, z = c_tokenValue x3.toNatClampNeg := ⟨_, rfl⟩
        rw [← et_5]
        replace hm := mL_e hm t_5 et_5
        obtain ⟨r_6, hc33, hm⟩ := mR0_e hm
        refine xmi (wc := (M_distanceSymbol_w E)) [false, false, false, false] [] [] hP hD hS hA rfl (by decide) (by decide) 0 (by decide) (fun _ => rfl) (fun hPc hDc hFc => va_runS (As := [.int t_5]) (rest := []) ⟨hx, hb, hml, hown, hts⟩ (c_M_distanceSymbol l E F H.size t_5 (r_6, ()) hc33) (va_cwS 1 hts (x_gS tw_988 tw_989 tw_79 tw_990) rfl rfl rfl (by decide +kernel) ⟨Nat.le_of_ble_eq_true rfl, Nat.le_of_ble_eq_true rfl⟩) (xPS hPc hDc hFc hK hI hN hS) rfl rfl hl.1 rfl (lv_room (Nat.le_of_ble_eq_true rfl)) d_M_bitsBy_33 ⟨Nat.le_of_ble_eq_true rfl, Nat.le_of_ble_eq_true rfl⟩) (fun r9 u9 H locs hw hP hD hS => ?_)
        have hw1 : r_6 = r9 := hw.1.symm
        subst hw1
        replace hP : va_P E.1 vwCl (M_bitsBy_w E a_p1 a_this a_tokenLength a_tokenValue n_p1 x_row x_starts x_image x_readRow x_readStart x_readAt x_readMany x_piece x_packed x_pairBefore x_pairLast x_counts x_lengths x_fixed x_ranked x_weight x_weightBefore x_items x_lengthRow x_step x_stepMore x_codes x_symbolTree x_distanceTree x_smallTree x_readLengths x_source x_target c_p1 v_tokens c_tokenLength c_tokenValue v_plain v_closed v_rowSize v_pieces v_imageSize v_readSize v_readPieces v_packedBits v_steps v_sourceFrom v_sourceBits v_readBits v_wrong v_made v_room) H := hP
        replace hD : va_D A (M_bitsBy_w E a_p1 a_this a_tokenLength a_tokenValue n_p1 x_row x_starts x_image x_readRow x_readStart x_readAt x_readMany x_piece x_packed x_pairBefore x_pairLast x_counts x_lengths x_fixed x_ranked x_weight x_weightBefore x_items x_lengthRow x_step x_stepMore x_codes x_symbolTree x_distanceTree x_smallTree x_readLengths x_source x_target c_p1 v_tokens c_tokenLength c_tokenValue v_plain v_closed v_rowSize v_pieces v_imageSize v_readSize v_readPieces v_packedBits v_steps v_sourceFrom v_sourceBits v_readBits v_wrong v_made v_room) := hD
        refine lv_istore (lv' := [(5, .int r_6), (4, .int r_4), (0, .ref a_this), (1, .ref a_p1), (2, .int x2), (3, .int x3)]) hx hb d_M_bitsBy_36 hl (by decide) rfl (fun ls hl => ?_)
        refine lv_iload_n hx hb d_M_bitsBy_38 rfl (lv_at hl 4 rfl) ?_
        refine lv_aload_n hx hb d_M_bitsBy_39 rfl (lv_at hl 2 rfl) ?_
        refine va_get (D := E.1) (ci := 12) (v := .ref a_tokenLength) (C := R_M) (T := F_M) (N := 46) hx hb hts i_M hown hK hP 1 rfl rfl 20 (by decide) (hts _ tw_815) (fun _ h9 => h9) rfl d_M_bitsBy_40 ?_
        refine lv_iload_n hx hb d_M_bitsBy_43 rfl (lv_at hl 5 rfl) ?_
        obtain ⟨hi44, hm⟩ := mG_e hm
        refine va_iald hx hb hK hP 2 0 rfl rfl hi44 d_M_bitsBy_44 ?_
        refine lv_if_ne (tgt := 59) hx hb d_M_bitsBy_45 (by decide) (fun c45 => ?_) (fun c45 => ?_)
        · replace hm := mC_f hm c45
          refine lv_aload_n hx hb d_M_bitsBy_59 rfl (lv_at hl 3 rfl) ?_
          refine lv_iload hx hb d_M_bitsBy_60 (lv_at hl 1 rfl) ?_
          obtain ⟨hi62, hm⟩ := mG_e hm
          refine va_iald hx hb hK hP 0 0 rfl rfl hi62 d_M_bitsBy_62 ?_
          refine lv_iload hx hb d_M_bitsBy_63 (lv_at hl 1 rfl) ?_
          obtain ⟨r_7, hc65, hm⟩ := mR0_e hm
          refine xmi (wc := (M_lengthBits_w E)) [false, false, false, false] [] [] hP hD hS hA rfl (by decide) (by decide) 0 (by decide) (fun _ => rfl) (fun hPc hDc hFc => va_runS (As := [.int r_4]) (rest := [.int (c_p1 r_4.toNatClampNeg), .int x2]) ⟨hx, hb, hml, hown, hts⟩ (c_M_lengthBits l E F H.size r_4 (r_7, ()) hc65) (va_cwS 1 hts (x_gS tw_985 tw_986 tw_79 tw_987) rfl rfl rfl (by decide +kernel) ⟨Nat.le_of_ble_eq_true rfl, Nat.le_of_ble_eq_true rfl⟩) (xPS hPc hDc hFc hK hI hN hS) rfl rfl hl.1 rfl (lv_room (Nat.le_of_ble_eq_true rfl)) d_M_bitsBy_65 ⟨Nat.le_of_ble_eq_true rfl, Nat.le_of_ble_eq_true rfl⟩) (fun r9 u9 H locs hw hP hD hS => ?_)
          have hw1 : r_7 = r9 := hw.1.symm
          subst hw1
          replace hP : va_P E.1 vwCl (M_bitsBy_w E a_p1 a_this a_tokenLength a_tokenValue n_p1 x_row x_starts x_image x_readRow x_readStart x_readAt x_readMany x_piece x_packed x_pairBefore x_pairLast x_counts x_lengths x_fixed x_ranked x_weight x_weightBefore x_items x_lengthRow x_step x_stepMore x_codes x_symbolTree x_distanceTree x_smallTree x_readLengths x_source x_target c_p1 v_tokens c_tokenLength c_tokenValue v_plain v_closed v_rowSize v_pieces v_imageSize v_readSize v_readPieces v_packedBits v_steps v_sourceFrom v_sourceBits v_readBits v_wrong v_made v_room) H := hP
          replace hD : va_D A (M_bitsBy_w E a_p1 a_this a_tokenLength a_tokenValue n_p1 x_row x_starts x_image x_readRow x_readStart x_readAt x_readMany x_piece x_packed x_pairBefore x_pairLast x_counts x_lengths x_fixed x_ranked x_weight x_weightBefore x_items x_lengthRow x_step x_stepMore x_codes x_symbolTree x_distanceTree x_smallTree x_readLengths x_source x_target c_p1 v_tokens c_tokenLength c_tokenValue v_plain v_closed v_rowSize v_pieces v_imageSize v_readSize v_readPieces v_packedBits v_steps v_sourceFrom v_sourceBits v_readBits v_wrong v_made v_room) := hD
          refine lv_iadd hx hb d_M_bitsBy_68 ?_
          refine lv_aload_n hx hb d_M_bitsBy_69 rfl (lv_at hl 3 rfl) ?_
          refine lv_sipush (v := 288) hx hb d_M_bitsBy_70 (by decide) ?_
          refine lv_iload hx hb d_M_bitsBy_73 (lv_at hl 0 rfl) ?_
          refine lv_iadd hx hb d_M_bitsBy_75 ?_
          refine lv_topi (fun i_8 ei_8 => ?_)
          replace hm := mL_e hm i_8 ei_8
          obtain ⟨hi76, hm⟩ := mG_e hm
          refine va_iald hx hb hK hP 0 0 rfl rfl hi76 d_M_bitsBy_76 ?_
          refine lv_iadd hx hb d_M_bitsBy_77 ?_
          refine lv_iload hx hb d_M_bitsBy_78 (lv_at hl 0 rfl) ?_
          obtain ⟨r_9, hc80, hm⟩ := mR0_e hm
          refine xmi (wc := (M_distanceBits_w E)) [false, false, false, false] [] [] hP hD hS hA rfl (by decide) (by decide) 0 (by decide) (fun _ => rfl) (fun hPc hDc hFc => va_runS (As := [.int r_6]) (rest := [.int (((c_p1 r_4.toNatClampNeg) + r_7) + (c_p1 i_8.toNatClampNeg)), .int x2]) ⟨hx, hb, hml, hown, hts⟩ (c_M_distanceBits l E F H.size r_6 (r_9, ()) hc80) (va_cwS 1 hts (x_gS tw_994 tw_995 tw_79 tw_996) rfl rfl rfl (by decide +kernel) ⟨Nat.le_of_ble_eq_true rfl, Nat.le_of_ble_eq_true rfl⟩) (xPS hPc hDc hFc hK hI hN hS) rfl rfl hl.1 rfl (lv_room (Nat.le_of_ble_eq_true rfl)) d_M_bitsBy_80 ⟨Nat.le_of_ble_eq_true rfl, Nat.le_of_ble_eq_true rfl⟩) (fun r9 u9 H locs hw hP hD hS => ?_)
          have hw1 : r_9 = r9 := hw.1.symm
          subst hw1
          replace hP : va_P E.1 vwCl (M_bitsBy_w E a_p1 a_this a_tokenLength a_tokenValue n_p1 x_row x_starts x_image x_readRow x_readStart x_readAt x_readMany x_piece x_packed x_pairBefore x_pairLast x_counts x_lengths x_fixed x_ranked x_weight x_weightBefore x_items x_lengthRow x_step x_stepMore x_codes x_symbolTree x_distanceTree x_smallTree x_readLengths x_source x_target c_p1 v_tokens c_tokenLength c_tokenValue v_plain v_closed v_rowSize v_pieces v_imageSize v_readSize v_readPieces v_packedBits v_steps v_sourceFrom v_sourceBits v_readBits v_wrong v_made v_room) H := hP
          replace hD : va_D A (M_bitsBy_w E a_p1 a_this a_tokenLength a_tokenValue n_p1 x_row x_starts x_image x_readRow x_readStart x_readAt x_readMany x_piece x_packed x_pairBefore x_pairLast x_counts x_lengths x_fixed x_ranked x_weight x_weightBefore x_items x_lengthRow x_step x_stepMore x_codes x_symbolTree x_distanceTree x_smallTree x_readLengths x_source x_target c_p1 v_tokens c_tokenLength c_tokenValue v_plain v_closed v_rowSize v_pieces v_imageSize v_readSize v_readPieces v_packedBits v_steps v_sourceFrom v_sourceBits v_readBits v_wrong v_made v_room) := hD
          refine lv_iadd hx hb d_M_bitsBy_83 ?_
          exact h_84 _ _ _ H locs ls hm hP hD hS (lv_sub hl [2, 3, 5] rfl)
        · replace hm := mC_t hm c45
          refine lv_aload_n hx hb d_M_bitsBy_48 rfl (lv_at hl 3 rfl) ?_
          refine lv_aload_n hx hb d_M_bitsBy_49 rfl (lv_at hl 2 rfl) ?_
          refine va_get (D := E.1) (ci := 12) (v := .ref a_tokenValue) (C := R_M) (T := F_M) (N := 46) hx hb hts i_M hown hK hP 1 rfl rfl 21 (by decide) (hts _ tw_816) (fun _ h9 => h9) rfl d_M_bitsBy_50 ?_
          refine lv_iload_n hx hb d_M_bitsBy_53 rfl (lv_at hl 5 rfl) ?_
          obtain ⟨hi54, hm⟩ := mG_e hm
          refine va_iald hx hb hK hP 3 0 rfl rfl hi54 d_M_bitsBy_54 ?_
          refine lv_topi (fun i_10 ei_10 => ?_)
          replace hm := mL_e hm i_10 ei_10
          obtain ⟨hi55, hm⟩ := mG_e hm
          refine va_iald hx hb hK hP 0 0 rfl rfl hi55 d_M_bitsBy_55 ?_
          refine lv_goto (tgt := 84) hx hb d_M_bitsBy_56 (by decide) ?_
          exact h_84 _ _ _ H locs ls hm hP hD hS (lv_sub hl [2, 3, 5] rfl)
  refine lv_aload_n hx hb d_M_bitsBy_0 rfl (lv_at hl 1 rfl) ?_
  refine lv_sipush (v := 256) hx hb d_M_bitsBy_1 (by decide) ?_
  obtain ⟨hi4, hm⟩ := mG_e hm
  refine va_iald hx hb hK hP 0 0 rfl rfl hi4 d_M_bitsBy_4 ?_
  refine lv_topi (fun y2_11 ey2_11 => ?_)
  replace hm := mL_e hm y2_11 ey2_11
  refine lv_istore_n (lv' := [(2, .int y2_11), (0, .ref a_this), (1, .ref a_p1)]) hx hb d_M_bitsBy_5 rfl hl (by decide) rfl (fun ls hl => ?_)
  refine lv_iconst (v := 0) hx hb d_M_bitsBy_6 (by decide) ?_
  refine lv_istore_n (lv' := [(3, .int 0), (2, .int y2_11), (0, .ref a_this), (1, .ref a_p1)]) hx hb d_M_bitsBy_7 rfl hl (by decide) rfl (fun ls hl => ?_)
  exact h_8 F _ _ H locs ls hm hP hD hS (lv_sub hl [2, 3, 1, 0] rfl)
theorem d_M_writeTokens_0 : decode b_M_writeTokens 0 = .ok (.aload_n 0, 1) := by decide +kernel
theorem d_M_writeTokens_1 : decode b_M_writeTokens 1 = .ok (.aload_n 1, 1) := by decide +kernel
theorem d_M_writeTokens_2 : decode b_M_writeTokens 2 = .ok (.iconst 0, 1) := by decide +kernel
theorem d_M_writeTokens_3 : decode b_M_writeTokens 3 = .ok (.sipush 288, 3) := by decide +kernel
theorem d_M_writeTokens_6 : decode b_M_writeTokens 6 = .ok (.invokevirtual 151, 3) := by decide +kernel
theorem d_M_writeTokens_9 : decode b_M_writeTokens 9 = .ok (.aload_n 0, 1) := by decide +kernel
theorem d_M_writeTokens_10 : decode b_M_writeTokens 10 = .ok (.aload_n 1, 1) := by decide +kernel
theorem d_M_writeTokens_11 : decode b_M_writeTokens 11 = .ok (.sipush 288, 3) := by decide +kernel
theorem d_M_writeTokens_14 : decode b_M_writeTokens 14 = .ok (.bipush 32, 2) := by decide +kernel
theorem d_M_writeTokens_16 : decode b_M_writeTokens 16 = .ok (.invokevirtual 151, 3) := by decide +kernel
theorem d_M_writeTokens_19 : decode b_M_writeTokens 19 = .ok (.iconst 0, 1) := by decide +kernel
theorem d_M_writeTokens_20 : decode b_M_writeTokens 20 = .ok (.istore_n 2, 1) := by decide +kernel
theorem d_M_writeTokens_21 : decode b_M_writeTokens 21 = .ok (.iload_n 2, 1) := by decide +kernel
theorem d_M_writeTokens_22 : decode b_M_writeTokens 22 = .ok (.aload_n 0, 1) := by decide +kernel
theorem d_M_writeTokens_23 : decode b_M_writeTokens 23 = .ok (.getfield 126, 3) := by decide +kernel
theorem d_M_writeTokens_26 : decode b_M_writeTokens 26 = .ok (.if_icmp .ge 114, 3) := by decide +kernel
theorem d_M_writeTokens_29 : decode b_M_writeTokens 29 = .ok (.aload_n 0, 1) := by decide +kernel
theorem d_M_writeTokens_30 : decode b_M_writeTokens 30 = .ok (.getfield 46, 3) := by decide +kernel
theorem d_M_writeTokens_33 : decode b_M_writeTokens 33 = .ok (.iload_n 2, 1) := by decide +kernel
theorem d_M_writeTokens_34 : decode b_M_writeTokens 34 = .ok (.iaload, 1) := by decide +kernel
theorem d_M_writeTokens_35 : decode b_M_writeTokens 35 = .ok (.ifCond .ne 12, 3) := by decide +kernel
theorem d_M_writeTokens_38 : decode b_M_writeTokens 38 = .ok (.aload_n 0, 1) := by decide +kernel
theorem d_M_writeTokens_39 : decode b_M_writeTokens 39 = .ok (.getfield 49, 3) := by decide +kernel
theorem d_M_writeTokens_42 : decode b_M_writeTokens 42 = .ok (.iload_n 2, 1) := by decide +kernel
theorem d_M_writeTokens_43 : decode b_M_writeTokens 43 = .ok (.iaload, 1) := by decide +kernel
theorem d_M_writeTokens_44 : decode b_M_writeTokens 44 = .ok (.goto 12, 3) := by decide +kernel
theorem d_M_writeTokens_47 : decode b_M_writeTokens 47 = .ok (.aload_n 0, 1) := by decide +kernel
theorem d_M_writeTokens_48 : decode b_M_writeTokens 48 = .ok (.getfield 46, 3) := by decide +kernel
theorem d_M_writeTokens_51 : decode b_M_writeTokens 51 = .ok (.iload_n 2, 1) := by decide +kernel
theorem d_M_writeTokens_52 : decode b_M_writeTokens 52 = .ok (.iaload, 1) := by decide +kernel
theorem d_M_writeTokens_53 : decode b_M_writeTokens 53 = .ok (.invokestatic 130, 3) := by decide +kernel
theorem d_M_writeTokens_56 : decode b_M_writeTokens 56 = .ok (.istore_n 3, 1) := by decide +kernel
theorem d_M_writeTokens_57 : decode b_M_writeTokens 57 = .ok (.aload_n 0, 1) := by decide +kernel
theorem d_M_writeTokens_58 : decode b_M_writeTokens 58 = .ok (.aload_n 1, 1) := by decide +kernel
theorem d_M_writeTokens_59 : decode b_M_writeTokens 59 = .ok (.iload_n 3, 1) := by decide +kernel
theorem d_M_writeTokens_60 : decode b_M_writeTokens 60 = .ok (.invokevirtual 155, 3) := by decide +kernel
theorem d_M_writeTokens_63 : decode b_M_writeTokens 63 = .ok (.aload_n 0, 1) := by decide +kernel
theorem d_M_writeTokens_64 : decode b_M_writeTokens 64 = .ok (.getfield 46, 3) := by decide +kernel
theorem d_M_writeTokens_67 : decode b_M_writeTokens 67 = .ok (.iload_n 2, 1) := by decide +kernel
theorem d_M_writeTokens_68 : decode b_M_writeTokens 68 = .ok (.iaload, 1) := by decide +kernel
theorem d_M_writeTokens_69 : decode b_M_writeTokens 69 = .ok (.ifCond .le 65, 3) := by decide +kernel
theorem d_M_writeTokens_72 : decode b_M_writeTokens 72 = .ok (.aload_n 0, 1) := by decide +kernel
theorem d_M_writeTokens_73 : decode b_M_writeTokens 73 = .ok (.getfield 49, 3) := by decide +kernel
theorem d_M_writeTokens_76 : decode b_M_writeTokens 76 = .ok (.iload_n 2, 1) := by decide +kernel
theorem d_M_writeTokens_77 : decode b_M_writeTokens 77 = .ok (.iaload, 1) := by decide +kernel
theorem d_M_writeTokens_78 : decode b_M_writeTokens 78 = .ok (.invokestatic 133, 3) := by decide +kernel
theorem d_M_writeTokens_81 : decode b_M_writeTokens 81 = .ok (.istore 4, 2) := by decide +kernel
theorem d_M_writeTokens_83 : decode b_M_writeTokens 83 = .ok (.aload_n 0, 1) := by decide +kernel
theorem d_M_writeTokens_84 : decode b_M_writeTokens 84 = .ok (.aload_n 0, 1) := by decide +kernel
theorem d_M_writeTokens_85 : decode b_M_writeTokens 85 = .ok (.getfield 46, 3) := by decide +kernel
theorem d_M_writeTokens_88 : decode b_M_writeTokens 88 = .ok (.iload_n 2, 1) := by decide +kernel
theorem d_M_writeTokens_89 : decode b_M_writeTokens 89 = .ok (.iaload, 1) := by decide +kernel
theorem d_M_writeTokens_90 : decode b_M_writeTokens 90 = .ok (.iload_n 3, 1) := by decide +kernel
theorem d_M_writeTokens_91 : decode b_M_writeTokens 91 = .ok (.invokestatic 108, 3) := by decide +kernel
theorem d_M_writeTokens_94 : decode b_M_writeTokens 94 = .ok (.isub, 1) := by decide +kernel
theorem d_M_writeTokens_95 : decode b_M_writeTokens 95 = .ok (.iload_n 3, 1) := by decide +kernel
theorem d_M_writeTokens_96 : decode b_M_writeTokens 96 = .ok (.invokestatic 101, 3) := by decide +kernel
theorem d_M_writeTokens_99 : decode b_M_writeTokens 99 = .ok (.invokevirtual 159, 3) := by decide +kernel
theorem d_M_writeTokens_102 : decode b_M_writeTokens 102 = .ok (.aload_n 0, 1) := by decide +kernel
theorem d_M_writeTokens_103 : decode b_M_writeTokens 103 = .ok (.aload_n 1, 1) := by decide +kernel
theorem d_M_writeTokens_104 : decode b_M_writeTokens 104 = .ok (.sipush 288, 3) := by decide +kernel
theorem d_M_writeTokens_107 : decode b_M_writeTokens 107 = .ok (.iload 4, 2) := by decide +kernel
theorem d_M_writeTokens_109 : decode b_M_writeTokens 109 = .ok (.iadd, 1) := by decide +kernel
theorem d_M_writeTokens_110 : decode b_M_writeTokens 110 = .ok (.invokevirtual 155, 3) := by decide +kernel
theorem d_M_writeTokens_113 : decode b_M_writeTokens 113 = .ok (.aload_n 0, 1) := by decide +kernel
theorem d_M_writeTokens_114 : decode b_M_writeTokens 114 = .ok (.aload_n 0, 1) := by decide +kernel
theorem d_M_writeTokens_115 : decode b_M_writeTokens 115 = .ok (.getfield 49, 3) := by decide +kernel
theorem d_M_writeTokens_118 : decode b_M_writeTokens 118 = .ok (.iload_n 2, 1) := by decide +kernel
theorem d_M_writeTokens_119 : decode b_M_writeTokens 119 = .ok (.iaload, 1) := by decide +kernel
theorem d_M_writeTokens_120 : decode b_M_writeTokens 120 = .ok (.iload 4, 2) := by decide +kernel
theorem d_M_writeTokens_122 : decode b_M_writeTokens 122 = .ok (.invokestatic 111, 3) := by decide +kernel
theorem d_M_writeTokens_125 : decode b_M_writeTokens 125 = .ok (.isub, 1) := by decide +kernel
theorem d_M_writeTokens_126 : decode b_M_writeTokens 126 = .ok (.iload 4, 2) := by decide +kernel
theorem d_M_writeTokens_128 : decode b_M_writeTokens 128 = .ok (.invokestatic 105, 3) := by decide +kernel
theorem d_M_writeTokens_131 : decode b_M_writeTokens 131 = .ok (.invokevirtual 159, 3) := by decide +kernel
theorem d_M_writeTokens_134 : decode b_M_writeTokens 134 = .ok (.iinc 2 1, 3) := by decide +kernel
theorem d_M_writeTokens_137 : decode b_M_writeTokens 137 = .ok (.goto (-116), 3) := by decide +kernel
theorem d_M_writeTokens_140 : decode b_M_writeTokens 140 = .ok (.aload_n 0, 1) := by decide +kernel
theorem d_M_writeTokens_141 : decode b_M_writeTokens 141 = .ok (.aload_n 1, 1) := by decide +kernel
theorem d_M_writeTokens_142 : decode b_M_writeTokens 142 = .ok (.sipush 256, 3) := by decide +kernel
theorem d_M_writeTokens_145 : decode b_M_writeTokens 145 = .ok (.invokevirtual 155, 3) := by decide +kernel
theorem d_M_writeTokens_148 : decode b_M_writeTokens 148 = .ok (.return_, 1) := by decide +kernel
def M_writeTokens_140 (F : Nat) (n_p1 : Nat) (c_p1 : Nat → Int32) (v_packedBits : Int32) (c_codes : Nat → Int32) (c_packed : Nat → Int32) : Option (Unit × Int32 × (Nat → Int32) × (Nat → Int32)) :=
  mR2 (M_writeCode F n_p1 c_p1 c_codes v_packedBits c_packed 256) fun _ v_packedBits_1 c_packed_2 => some ((), v_packedBits_1, c_codes, c_packed_2)
def M_writeTokens_134 (F : Nat) (k_21 : Int32 → (Nat → Int32) → (Nat → Int32) → Int32 → Option (Unit × Int32 × (Nat → Int32) × (Nat → Int32))) (v_packedBits : Int32) (c_codes : Nat → Int32) (c_packed : Nat → Int32) (x2 : Int32) : Option (Unit × Int32 × (Nat → Int32) × (Nat → Int32)) :=
  mL (x2 + 1) fun y2_4 => k_21 v_packedBits c_codes c_packed y2_4
def M_writeTokens_56 (F : Nat) (n_p1 : Nat) (c_p1 : Nat → Int32) (c_tokenLength : Nat → Int32) (c_tokenValue : Nat → Int32) (k_21 : Int32 → (Nat → Int32) → (Nat → Int32) → Int32 → Option (Unit × Int32 × (Nat → Int32) × (Nat → Int32))) (v_packedBits : Int32) (c_codes : Nat → Int32) (c_packed : Nat → Int32) (x2 : Int32) (s0 : Int32) : Option (Unit × Int32 × (Nat → Int32) × (Nat → Int32)) :=
  mR2 (M_writeCode F n_p1 c_p1 c_codes v_packedBits c_packed s0) fun _ v_packedBits_5 c_packed_6 => mG x2 4096 (mC ((c_tokenLength x2.toNatClampNeg) ≤ 0) ((M_writeTokens_134 F k_21) v_packedBits_5 c_codes c_packed_6 x2) (mG x2 4096 (mL (c_tokenValue x2.toNatClampNeg) fun t_8 => mR0 (M_distanceSymbol F t_8) fun r_9 => mG x2 4096 (mR0 (M_lengthBase F s0) fun r_10 => mR0 (M_lengthBits F s0) fun r_11 => mL ((c_tokenLength x2.toNatClampNeg) - r_10) fun t_12 => mR2 (M_writeNumber F v_packedBits_5 c_packed_6 t_12 r_11) fun _ v_packedBits_13 c_packed_14 => mL (288 + r_9) fun t_16 => mR2 (M_writeCode F n_p1 c_p1 c_codes v_packedBits_13 c_packed_14 t_16) fun _ v_packedBits_17 c_packed_18 => mG x2 4096 (mR0 (M_distanceBase F r_9) fun r_20 => mR0 (M_distanceBits F r_9) fun r_21 => mL ((c_tokenValue x2.toNatClampNeg) - r_20) fun t_22 => mR2 (M_writeNumber F v_packedBits_17 c_packed_18 t_22 r_21) fun _ v_packedBits_23 c_packed_24 => (M_writeTokens_134 F k_21) v_packedBits_23 c_codes c_packed_24 x2)))))
def M_writeTokens_21 (F : Nat) (n_p1 : Nat) (v_tokens : Int32) (c_p1 : Nat → Int32) (c_tokenLength : Nat → Int32) (c_tokenValue : Nat → Int32) (k_140 : Int32 → (Nat → Int32) → (Nat → Int32) → Option (Unit × Int32 × (Nat → Int32) × (Nat → Int32))) (k_21 : Int32 → (Nat → Int32) → (Nat → Int32) → Int32 → Option (Unit × Int32 × (Nat → Int32) × (Nat → Int32))) (v_packedBits : Int32) (c_codes : Nat → Int32) (c_packed : Nat → Int32) (x2 : Int32) : Option (Unit × Int32 × (Nat → Int32) × (Nat → Int32)) :=
  mC (v_tokens ≤ x2) (k_140 v_packedBits c_codes c_packed) (mG x2 4096 (mC ((c_tokenLength x2.toNatClampNeg) = 0) (mG x2 4096 ((M_writeTokens_56 F n_p1 c_p1 c_tokenLength c_tokenValue k_21) v_packedBits c_codes c_packed x2 (c_tokenValue x2.toNatClampNeg))) (mG x2 4096 (mL (c_tokenLength x2.toNatClampNeg) fun t_26 => mR0 (M_lengthSymbol F t_26) fun r_27 => (M_writeTokens_56 F n_p1 c_p1 c_tokenLength c_tokenValue k_21) v_packedBits c_codes c_packed x2 r_27))))
abbrev M_writeTokens_w (E : xE) (a_this : Nat) (a_p1 : Nat) (a_codes : Nat) (a_tokenLength : Nat) (a_tokenValue : Nat) (a_packed : Nat) (n_p1 : Nat) (x_row : Value) (x_starts : Value) (x_image : Value) (x_readRow : Value) (x_readStart : Value) (x_readAt : Value) (x_readMany : Value) (x_piece : Value) (x_pairBefore : Value) (x_pairLast : Value) (x_counts : Value) (x_lengths : Value) (x_fixed : Value) (x_ranked : Value) (x_weight : Value) (x_weightBefore : Value) (x_items : Value) (x_lengthRow : Value) (x_step : Value) (x_stepMore : Value) (x_symbolTree : Value) (x_distanceTree : Value) (x_smallTree : Value) (x_readLengths : Value) (x_source : Value) (x_target : Value) (v_tokens : Int32) (c_p1 : Nat → Int32) (c_tokenLength : Nat → Int32) (c_tokenValue : Nat → Int32) (v_packedBits : Int32) (c_codes : Nat → Int32) (c_packed : Nat → Int32) (v_plain : Int32) (v_closed : Int32) (v_rowSize : Int32) (v_pieces : Int32) (v_imageSize : Int32) (v_readSize : Int32) (v_readPieces : Int32) (v_steps : Int32) (v_sourceFrom : Int32) (v_sourceBits : Int32) (v_readBits : Int32) (v_wrong : Int32) (v_made : Int32) (v_room : Int32) : va_W := [(a_this, .inr (12, [.int v_plain, .int v_closed, .int v_rowSize, x_row, .int v_pieces, x_starts, .int v_imageSize, x_image, .int v_readSize, x_readRow, .int v_readPieces, x_readStart, x_readAt, x_readMany, x_piece, .ref a_packed, .int v_packedBits, x_pairBefore, x_pairLast, .int v_tokens, .ref a_tokenLength, .ref a_tokenValue, x_counts, x_lengths, x_fixed, x_ranked, x_weight, x_weightBefore, x_items, x_lengthRow, .int v_steps, x_step, x_stepMore, .ref a_codes, x_symbolTree, x_distanceTree, x_smallTree, x_readLengths, x_source, .int v_sourceFrom, .int v_sourceBits, .int v_readBits, .int v_wrong, x_target, .int v_made, .int v_room])), (a_p1, .inl (E.2.1, n_p1, .inl c_p1)), (a_codes, .inl (E.2.1, 339, .inl c_codes)), (a_tokenLength, .inl (E.2.1, 4096, .inl c_tokenLength)), (a_tokenValue, .inl (E.2.1, 4096, .inl c_tokenValue)), (a_packed, .inl (E.2.2.1, 66000, .inl c_packed))]
def M_writeTokens (F : Nat) (n_p1 : Nat) (v_tokens : Int32) (c_p1 : Nat → Int32) (c_tokenLength : Nat → Int32) (c_tokenValue : Nat → Int32) (v_packedBits : Int32) (c_codes : Nat → Int32) (c_packed : Nat → Int32) : Option (Unit × Int32 × (Nat → Int32) × (Nat → Int32)) :=
  mR1 (M_makeCodes F n_p1 c_p1 c_codes 0 288) fun _ c_codes_28 => mR1 (M_makeCodes F n_p1 c_p1 c_codes_28 288 32) fun _ c_codes_30 => (mW4 (M_writeTokens_21 F n_p1 v_tokens c_p1 c_tokenLength c_tokenValue (M_writeTokens_140 F n_p1 c_p1)) F) v_packedBits c_codes_30 c_packed 0
abbrev M_writeTokens_rm : Room := { frames := 3, cells := 0, slots := 0, locals := 61 }
set_option maxHeartbeats 4000000 in
set_option maxRecDepth 100000 in
theorem c_M_writeTokens (l : Launch) (E : xE) (F sz : Nat) (a_this : Nat) (a_p1 : Nat) (a_codes : Nat) (a_tokenLength : Nat) (a_tokenValue : Nat) (a_packed : Nat) (n_p1 : Nat) (x_row : Value) (x_starts : Value) (x_image : Value) (x_readRow : Value) (x_readStart : Value) (x_readAt : Value) (x_readMany : Value) (x_piece : Value) (x_pairBefore : Value) (x_pairLast : Value) (x_counts : Value) (x_lengths : Value) (x_fixed : Value) (x_ranked : Value) (x_weight : Value) (x_weightBefore : Value) (x_items : Value) (x_lengthRow : Value) (x_step : Value) (x_stepMore : Value) (x_symbolTree : Value) (x_distanceTree : Value) (x_smallTree : Value) (x_readLengths : Value) (x_source : Value) (x_target : Value) (v_tokens : Int32) (c_p1 : Nat → Int32) (c_tokenLength : Nat → Int32) (c_tokenValue : Nat → Int32) (v_packedBits : Int32) (c_codes : Nat → Int32) (c_packed : Nat → Int32) (v_plain : Int32) (v_closed : Int32) (v_rowSize : Int32) (v_pieces : Int32) (v_imageSize : Int32) (v_readSize : Int32) (v_readPieces : Int32) (v_steps : Int32) (v_sourceFrom : Int32) (v_sourceBits : Int32) (v_readBits : Int32) (v_wrong : Int32) (v_made : Int32) (v_room : Int32) (res : Unit × Int32 × (Nat → Int32) × (Nat → Int32)) (hm : M_writeTokens F n_p1 v_tokens c_p1 c_tokenLength c_tokenValue v_packedBits c_codes c_packed = some res) : Met l y_M_writeTokens (Cond.code y_M_writeTokens b_M_writeTokens 5 none :: x_tb) M_writeTokens_rm (va_Pc [.ref a_this, .ref a_p1] (xPre E (M_writeTokens_w E a_this a_p1 a_codes a_tokenLength a_tokenValue a_packed n_p1 x_row x_starts x_image x_readRow x_readStart x_readAt x_readMany x_piece x_pairBefore x_pairLast x_counts x_lengths x_fixed x_ranked x_weight x_weightBefore x_items x_lengthRow x_step x_stepMore x_symbolTree x_distanceTree x_smallTree x_readLengths x_source x_target v_tokens c_p1 c_tokenLength c_tokenValue v_packedBits c_codes c_packed v_plain v_closed v_rowSize v_pieces v_imageSize v_readSize v_readPieces v_steps v_sourceFrom v_sourceBits v_readBits v_wrong v_made v_room) sz)) (xQv E (fun (u : Int32 × (Nat → Int32) × (Nat → Int32)) => u = res.2) (fun (u : Int32 × (Nat → Int32) × (Nat → Int32)) => (M_writeTokens_w E a_this a_p1 a_codes a_tokenLength a_tokenValue a_packed n_p1 x_row x_starts x_image x_readRow x_readStart x_readAt x_readMany x_piece x_pairBefore x_pairLast x_counts x_lengths x_fixed x_ranked x_weight x_weightBefore x_items x_lengthRow x_step x_stepMore x_symbolTree x_distanceTree x_smallTree x_readLengths x_source x_target v_tokens c_p1 c_tokenLength c_tokenValue u.1 u.2.1 u.2.2 v_plain v_closed v_rowSize v_pieces v_imageSize v_readSize v_readPieces v_steps v_sourceFrom v_sourceBits v_readBits v_wrong v_made v_room)) (va_A (M_writeTokens_w E a_this a_p1 a_codes a_tokenLength a_tokenValue a_packed n_p1 x_row x_starts x_image x_readRow x_readStart x_readAt x_readMany x_piece x_pairBefore x_pairLast x_counts x_lengths x_fixed x_ranked x_weight x_weightBefore x_items x_lengthRow x_step x_stepMore x_symbolTree x_distanceTree x_smallTree x_readLengths x_source x_target v_tokens c_p1 c_tokenLength c_tokenValue v_packedBits c_codes c_packed v_plain v_closed v_rowSize v_pieces v_imageSize v_readSize v_readPieces v_steps v_sourceFrom v_sourceBits v_readBits v_wrong v_made v_room) sz)) 0 0 (va_A (M_writeTokens_w E a_this a_p1 a_codes a_tokenLength a_tokenValue a_packed n_p1 x_row x_starts x_image x_readRow x_readStart x_readAt x_readMany x_piece x_pairBefore x_pairLast x_counts x_lengths x_fixed x_ranked x_weight x_weightBefore x_items x_lengthRow x_step x_stepMore x_symbolTree x_distanceTree x_smallTree x_readLengths x_source x_target v_tokens c_p1 c_tokenLength c_tokenValue v_packedBits c_codes c_packed v_plain v_closed v_rowSize v_pieces v_imageSize v_readSize v_readPieces v_steps v_sourceFrom v_sourceBits v_readBits v_wrong v_made v_room) sz) := by
  refine xEnV (by decide) (Nat.le_of_ble_eq_true rfl) ?_
  intro p e s m args below meth c A ls Q hx hb hnm hts hown hml hK hA hI hN hret hP hD hS hl
  replace hown : s.vm.findClass R_M = some m.cls := hown
  replace hl : lv_has ls 5 [(0, .ref a_this), (1, .ref a_p1)] := hl
  obtain ⟨H, eH⟩ : ∃ z, z = s.heap := ⟨_, rfl⟩
  obtain ⟨locs, eL⟩ : ∃ z : List Loc, z = [] := ⟨_, rfl⟩
  rw [show W p l e M_writeTokens_rm s m args below meth c s.heap [] 0 0 Q (F0 m 0 ls []) = W p l e M_writeTokens_rm s m args below meth c H locs 0 0 Q (F0 m 0 ls []) by rw [eH, eL]]
  replace hP : va_P E.1 vwCl (M_writeTokens_w E a_this a_p1 a_codes a_tokenLength a_tokenValue a_packed n_p1 x_row x_starts x_image x_readRow x_readStart x_readAt x_readMany x_piece x_pairBefore x_pairLast x_counts x_lengths x_fixed x_ranked x_weight x_weightBefore x_items x_lengthRow x_step x_stepMore x_symbolTree x_distanceTree x_smallTree x_readLengths x_source x_target v_tokens c_p1 c_tokenLength c_tokenValue v_packedBits c_codes c_packed v_plain v_closed v_rowSize v_pieces v_imageSize v_readSize v_readPieces v_steps v_sourceFrom v_sourceBits v_readBits v_wrong v_made v_room) H := by rw [eH]; exact hP
  replace hS : va_S A s.heap H locs := by rw [eH, eL]; exact hS
  clear eH eL
  rw [M_writeTokens] at hm
  have h_140 : ∀ (v_packedBits : Int32) (c_codes : Nat → Int32) (c_packed : Nat → Int32) (H : Heap) (locs : List Loc) (ls : Array Slot), (M_writeTokens_140 F n_p1 c_p1) v_packedBits c_codes c_packed = some res → va_P E.1 vwCl (M_writeTokens_w E a_this a_p1 a_codes a_tokenLength a_tokenValue a_packed n_p1 x_row x_starts x_image x_readRow x_readStart x_readAt x_readMany x_piece x_pairBefore x_pairLast x_counts x_lengths x_fixed x_ranked x_weight x_weightBefore x_items x_lengthRow x_step x_stepMore x_symbolTree x_distanceTree x_smallTree x_readLengths x_source x_target v_tokens c_p1 c_tokenLength c_tokenValue v_packedBits c_codes c_packed v_plain v_closed v_rowSize v_pieces v_imageSize v_readSize v_readPieces v_steps v_sourceFrom v_sourceBits v_readBits v_wrong v_made v_room) H → va_D A (M_writeTokens_w E a_this a_p1 a_codes a_tokenLength a_tokenValue a_packed n_p1 x_row x_starts x_image x_readRow x_readStart x_readAt x_readMany x_piece x_pairBefore x_pairLast x_counts x_lengths x_fixed x_ranked x_weight x_weightBefore x_items x_lengthRow x_step x_stepMore x_symbolTree x_distanceTree x_smallTree x_readLengths x_source x_target v_tokens c_p1 c_tokenLength c_tokenValue v_packedBits c_codes c_packed v_plain v_closed v_rowSize v_pieces v_imageSize v_readSize v_readPieces v_steps v_sourceFrom v_sourceBits v_readBits v_wrong v_made v_room) → va_S A s.heap H locs → lv_has ls 5 [(0, .ref a_this), (1, .ref a_p1)] → W p l e M_writeTokens_rm s m args below meth c H locs 0 0 Q (F0 m 140 ls []) := by
    intro v_packedBits c_codes c_packed H locs ls hm hP hD hS hl
    rw [M_writeTokens_140] at hm
    refine lv_aload_n hx hb d_M_writeTokens_140 rfl (lv_at hl 0 rfl) ?_
    refine lv_aload_n hx hb d_M_writeTokens_141 rfl (lv_at hl 1 rfl) ?_
    refine lv_sipush (v := 256) hx hb d_M_writeTokens_142 (by decide) ?_
    obtain ⟨r_3, v_packedBits_1, c_packed_2, hc145, hm⟩ := mR2_e hm
    refine xmv (wc := (M_writeCode_w E a_p1 a_this a_codes a_packed n_p1 x_row x_starts x_image x_readRow x_readStart x_readAt x_readMany x_piece x_pairBefore x_pairLast (.ref a_tokenLength) (.ref a_tokenValue) x_counts x_lengths x_fixed x_ranked x_weight x_weightBefore x_items x_lengthRow x_step x_stepMore x_symbolTree x_distanceTree x_smallTree x_readLengths x_source x_target c_p1 c_codes v_packedBits c_packed v_plain v_closed v_rowSize v_pieces v_imageSize v_readSize v_readPieces v_tokens v_steps v_sourceFrom v_sourceBits v_readBits v_wrong v_made v_room)) [true, true, true, false, false, true] [1, 0, 2, 3] [1, 0, 2, 3] hP hD hS hA rfl (by decide) (by decide) 4 (by decide) (fun _ => rfl) (fun hPc hDc hFc => va_runV (As := [.ref a_p1, .int 256]) (rest := []) ⟨hx, hb, hml, hown, hts⟩ (c_M_writeCode l E F H.size a_p1 a_this a_codes a_packed n_p1 x_row x_starts x_image x_readRow x_readStart x_readAt x_readMany x_piece x_pairBefore x_pairLast (.ref a_tokenLength) (.ref a_tokenValue) x_counts x_lengths x_fixed x_ranked x_weight x_weightBefore x_items x_lengthRow x_step x_stepMore x_symbolTree x_distanceTree x_smallTree x_readLengths x_source x_target c_p1 c_codes v_packedBits c_packed v_plain v_closed v_rowSize v_pieces v_imageSize v_readSize v_readPieces v_tokens v_steps v_sourceFrom v_sourceBits v_readBits v_wrong v_made v_room 256 (r_3, v_packedBits_1, c_packed_2) hc145) (cwV 2 hts (x_gV tw_1051 tw_1053 tw_50 tw_79 tw_1054) rfl rfl rfl (by decide +kernel) ⟨Nat.le_of_ble_eq_true rfl, Nat.le_of_ble_eq_true rfl⟩) (xPV 12 1 rfl rfl hPc hDc hFc hK hI hN hS) rfl rfl hl.1 rfl (lv_room (Nat.le_of_ble_eq_true rfl)) d_M_writeTokens_145 ⟨Nat.le_of_ble_eq_true rfl, Nat.le_of_ble_eq_true rfl⟩) (fun u9 H locs hw hP hD hS => ?_)
    have hw2 : (v_packedBits_1, c_packed_2) = u9 := hw.symm
    subst hw2
    replace hP : va_P E.1 vwCl (M_writeTokens_w E a_this a_p1 a_codes a_tokenLength a_tokenValue a_packed n_p1 x_row x_starts x_image x_readRow x_readStart x_readAt x_readMany x_piece x_pairBefore x_pairLast x_counts x_lengths x_fixed x_ranked x_weight x_weightBefore x_items x_lengthRow x_step x_stepMore x_symbolTree x_distanceTree x_smallTree x_readLengths x_source x_target v_tokens c_p1 c_tokenLength c_tokenValue v_packedBits_1 c_codes c_packed_2 v_plain v_closed v_rowSize v_pieces v_imageSize v_readSize v_readPieces v_steps v_sourceFrom v_sourceBits v_readBits v_wrong v_made v_room) H := hP
    replace hD : va_D A (M_writeTokens_w E a_this a_p1 a_codes a_tokenLength a_tokenValue a_packed n_p1 x_row x_starts x_image x_readRow x_readStart x_readAt x_readMany x_piece x_pairBefore x_pairLast x_counts x_lengths x_fixed x_ranked x_weight x_weightBefore x_items x_lengthRow x_step x_stepMore x_symbolTree x_distanceTree x_smallTree x_readLengths x_source x_target v_tokens c_p1 c_tokenLength c_tokenValue v_packedBits_1 c_codes c_packed_2 v_plain v_closed v_rowSize v_pieces v_imageSize v_readSize v_readPieces v_steps v_sourceFrom v_sourceBits v_readBits v_wrong v_made v_room) := hD
    replace hm := Option.some.inj hm
    subst hm
    exact hret d_M_writeTokens_148 (u := (v_packedBits_1, c_codes, c_packed_2)) rfl hP hD hS
  have h_21 : ∀ (n_21 : Nat) (v_packedBits : Int32) (c_codes : Nat → Int32) (c_packed : Nat → Int32) (x2 : Int32) (H : Heap) (locs : List Loc) (ls : Array Slot), (mW4 (M_writeTokens_21 F n_p1 v_tokens c_p1 c_tokenLength c_tokenValue (M_writeTokens_140 F n_p1 c_p1)) n_21) v_packedBits c_codes c_packed x2 = some res → va_P E.1 vwCl (M_writeTokens_w E a_this a_p1 a_codes a_tokenLength a_tokenValue a_packed n_p1 x_row x_starts x_image x_readRow x_readStart x_readAt x_readMany x_piece x_pairBefore x_pairLast x_counts x_lengths x_fixed x_ranked x_weight x_weightBefore x_items x_lengthRow x_step x_stepMore x_symbolTree x_distanceTree x_smallTree x_readLengths x_source x_target v_tokens c_p1 c_tokenLength c_tokenValue v_packedBits c_codes c_packed v_plain v_closed v_rowSize v_pieces v_imageSize v_readSize v_readPieces v_steps v_sourceFrom v_sourceBits v_readBits v_wrong v_made v_room) H → va_D A (M_writeTokens_w E a_this a_p1 a_codes a_tokenLength a_tokenValue a_packed n_p1 x_row x_starts x_image x_readRow x_readStart x_readAt x_readMany x_piece x_pairBefore x_pairLast x_counts x_lengths x_fixed x_ranked x_weight x_weightBefore x_items x_lengthRow x_step x_stepMore x_symbolTree x_distanceTree x_smallTree x_readLengths x_source x_target v_tokens c_p1 c_tokenLength c_tokenValue v_packedBits c_codes c_packed v_plain v_closed v_rowSize v_pieces v_imageSize v_readSize v_readPieces v_steps v_sourceFrom v_sourceBits v_readBits v_wrong v_made v_room) → va_S A s.heap H locs → lv_has ls 5 [(0, .ref a_this), (1, .ref a_p1), (2, .int x2)] → W p l e M_writeTokens_rm s m args below meth c H locs 0 0 Q (F0 m 21 ls []) := by
    intro n_21
    induction n_21 with
    | zero => exact fun _ _ _ _ _ _ _ hm _ _ _ _ => (mW4_z hm).elim
    | succ n_21 ih_21 =>
      intro v_packedBits c_codes c_packed x2 H locs ls hm hP hD hS hl
      replace hm := mW4_s hm
      rw [M_writeTokens_21] at hm
      refine lv_iload_n hx hb d_M_writeTokens_21 rfl (lv_at hl 2 rfl) ?_
      refine lv_aload_n hx hb d_M_writeTokens_22 rfl (lv_at hl 0 rfl) ?_
      refine va_get (D := E.1) (ci := 12) (v := .int v_tokens) (C := R_M) (T := F_M) (N := 46) hx hb hts i_M hown hK hP 0 rfl rfl 19 (by decide) (hts _ tw_814) (fun _ h9 => h9) rfl d_M_writeTokens_23 ?_
      refine lv_icmp_ge (tgt := 140) hx hb d_M_writeTokens_26 (by decide) (fun c26 => ?_) (fun c26 => ?_)
      · replace hm := mC_t hm c26
        exact h_140 _ _ _ H locs ls hm hP hD hS (lv_sub hl [0, 1] rfl)
      · replace hm := mC_f hm c26
        have h_56 : ∀ (v_packedBits : Int32) (c_codes : Nat → Int32) (c_packed : Nat → Int32) (x2 : Int32) (s0 : Int32) (H : Heap) (locs : List Loc) (ls : Array Slot), (M_writeTokens_56 F n_p1 c_p1 c_tokenLength c_tokenValue (mW4 (M_writeTokens_21 F n_p1 v_tokens c_p1 c_tokenLength c_tokenValue (M_writeTokens_140 F n_p1 c_p1)) n_21)) v_packedBits c_codes c_packed x2 s0 = some res → va_P E.1 vwCl (M_writeTokens_w E a_this a_p1 a_codes a_tokenLength a_tokenValue a_packed n_p1 x_row x_starts x_image x_readRow x_readStart x_readAt x_readMany x_piece x_pairBefore x_pairLast x_counts x_lengths x_fixed x_ranked x_weight x_weightBefore x_items x_lengthRow x_step x_stepMore x_symbolTree x_distanceTree x_smallTree x_readLengths x_source x_target v_tokens c_p1 c_tokenLength c_tokenValue v_packedBits c_codes c_packed v_plain v_closed v_rowSize v_pieces v_imageSize v_readSize v_readPieces v_steps v_sourceFrom v_sourceBits v_readBits v_wrong v_made v_room) H → va_D A (M_writeTokens_w E a_this a_p1 a_codes a_tokenLength a_tokenValue a_packed n_p1 x_row x_starts x_image x_readRow x_readStart x_readAt x_readMany x_piece x_pairBefore x_pairLast x_counts x_lengths x_fixed x_ranked x_weight x_weightBefore x_items x_lengthRow x_step x_stepMore x_symbolTree x_distanceTree x_smallTree x_readLengths x_source x_target v_tokens c_p1 c_tokenLength c_tokenValue v_packedBits c_codes c_packed v_plain v_closed v_rowSize v_pieces v_imageSize v_readSize v_readPieces v_steps v_sourceFrom v_sourceBits v_readBits v_wrong v_made v_room) → va_S A s.heap H locs → lv_has ls 5 [(0, .ref a_this), (1, .ref a_p1), (2, .int x2)] → W p l e M_writeTokens_rm s m args below meth c H locs 0 0 Q (F0 m 56 ls [.int s0]) := by
          intro v_packedBits c_codes c_packed x2 s0 H locs ls hm hP hD hS hl
          rw [M_writeTokens_56] at hm
          have h_134 : ∀ (v_packedBits : Int32) (c_codes : Nat → Int32) (c_packed : Nat → Int32) (x2 : Int32) (H : Heap) (locs : List Loc) (ls : Array Slot), (M_writeTokens_134 F (mW4 (M_writeTokens_21 F n_p1 v_tokens c_p1 c_tokenLength c_tokenValue (M_writeTokens_140 F n_p1 c_p1)) n_21)) v_packedBits c_codes c_packed x2 = some res → va_P E.1 vwCl (M_writeTokens_w E a_this a_p1 a_codes a_tokenLength a_tokenValue a_packed n_p1 x_row x_starts x_image x_readRow x_readStart x_readAt x_readMany x_piece x_pairBefore x_pairLast x_counts x_lengths x_fixed x_ranked x_weight x_weightBefore x_items x_lengthRow x_step x_stepMore x_symbolTree x_distanceTree x_smallTree x_readLengths x_source x_target v_tokens c_p1 c_tokenLength c_tokenValue v_packedBits c_codes c_packed v_plain v_closed v_rowSize v_pieces v_imageSize v_readSize v_readPieces v_steps v_sourceFrom v_sourceBits v_readBits v_wrong v_made v_room) H → va_D A (M_writeTokens_w E a_this a_p1 a_codes a_tokenLength a_tokenValue a_packed n_p1 x_row x_starts x_image x_readRow x_readStart x_readAt x_readMany x_piece x_pairBefore x_pairLast x_counts x_lengths x_fixed x_ranked x_weight x_weightBefore x_items x_lengthRow x_step x_stepMore x_symbolTree x_distanceTree x_smallTree x_readLengths x_source x_target v_tokens c_p1 c_tokenLength c_tokenValue v_packedBits c_codes c_packed v_plain v_closed v_rowSize v_pieces v_imageSize v_readSize v_readPieces v_steps v_sourceFrom v_sourceBits v_readBits v_wrong v_made v_room) → va_S A s.heap H locs → lv_has ls 5 [(0, .ref a_this), (1, .ref a_p1), (2, .int x2)] → W p l e M_writeTokens_rm s m args below meth c H locs 0 0 Q (F0 m 134 ls []) := by
            intro v_packedBits c_codes c_packed x2 H locs ls hm hP hD hS hl
            rw [M_writeTokens_134] at hm
            obtain ⟨y2_4, ey2_4⟩ : ∃ y : Int32, y = x2 + 1 := ⟨_, rfl⟩
            replace hm := mL_e hm y2_4 ey2_4
            refine lv_iinc (v := y2_4) (lv' := [(2, .int y2_4), (0, .ref a_this), (1, .ref a_p1)]) hx hb d_M_writeTokens_134 hl (k := 2) rfl (by rw [ey2_4]; rfl) (by decide) rfl (fun ls hl => ?_)
            refine lv_goto (tgt := 21) hx hb d_M_writeTokens_137 (by decide) ?_
            exact ih_21 _ _ _ _ H locs ls hm hP hD hS (lv_sub hl [1, 2, 0] rfl)
          refine lv_istore_n (lv' := [(3, .int s0), (0, .ref a_this), (1, .ref a_p1), (2, .int x2)]) hx hb d_M_writeTokens_56 rfl hl (by decide) rfl (fun ls hl => ?_)
          refine lv_aload_n hx hb d_M_writeTokens_57 rfl (lv_at hl 1 rfl) ?_
          refine lv_aload_n hx hb d_M_writeTokens_58 rfl (lv_at hl 2 rfl) ?_
          refine lv_iload_n hx hb d_M_writeTokens_59 rfl (lv_at hl 0 rfl) ?_
          obtain ⟨r_7, v_packedBits_5, c_packed_6, hc60, hm⟩ := mR2_e hm
          refine xmv (wc := (M_writeCode_w E a_p1 a_this a_codes a_packed n_p1 x_row x_starts x_image x_readRow x_readStart x_readAt x_readMany x_piece x_pairBefore x_pairLast (.ref a_tokenLength) (.ref a_tokenValue) x_counts x_lengths x_fixed x_ranked x_weight x_weightBefore x_items x_lengthRow x_step x_stepMore x_symbolTree x_distanceTree x_smallTree x_readLengths x_source x_target c_p1 c_codes v_packedBits c_packed v_plain v_closed v_rowSize v_pieces v_imageSize v_readSize v_readPieces v_tokens v_steps v_sourceFrom v_sourceBits v_readBits v_wrong v_made v_room)) [true, true, true, false, false, true] [1, 0, 2, 3] [1, 0, 2, 3] hP hD hS hA rfl (by decide) (by decide) 4 (by decide) (fun _ => rfl) (fun hPc hDc hFc => va_runV (As := [.ref a_p1, .int s0]) (rest := []) ⟨hx, hb, hml, hown, hts⟩ (c_M_writeCode l E F H.size a_p1 a_this a_codes a_packed n_p1 x_row x_starts x_image x_readRow x_readStart x_readAt x_readMany x_piece x_pairBefore x_pairLast (.ref a_tokenLength) (.ref a_tokenValue) x_counts x_lengths x_fixed x_ranked x_weight x_weightBefore x_items x_lengthRow x_step x_stepMore x_symbolTree x_distanceTree x_smallTree x_readLengths x_source x_target c_p1 c_codes v_packedBits c_packed v_plain v_closed v_rowSize v_pieces v_imageSize v_readSize v_readPieces v_tokens v_steps v_sourceFrom v_sourceBits v_readBits v_wrong v_made v_room s0 (r_7, v_packedBits_5, c_packed_6) hc60) (cwV 2 hts (x_gV tw_1051 tw_1053 tw_50 tw_79 tw_1054) rfl rfl rfl (by decide +kernel) ⟨Nat.le_of_ble_eq_true rfl, Nat.le_of_ble_eq_true rfl⟩) (xPV 12 1 rfl rfl hPc hDc hFc hK hI hN hS) rfl rfl hl.1 rfl (lv_room (Nat.le_of_ble_eq_true rfl)) d_M_writeTokens_60 ⟨Nat.le_of_ble_eq_true rfl, Nat.le_of_ble_eq_true rfl⟩) (fun u9 H locs hw hP hD hS => ?_)
          have hw2 : (v_packedBits_5, c_packed_6) = u9 := hw.symm
          subst hw2
          replace hP : va_P E.1 vwCl (M_writeTokens_w E a_this a_p1 a_codes a_tokenLength a_tokenValue a_packed n_p1 x_row x_starts x_image x_readRow x_readStart x_readAt x_readMany x_piece x_pairBefore x_pairLast x_counts x_lengths x_fixed x_ranked x_weight x_weightBefore x_items x_lengthRow x_step x_stepMore x_symbolTree x_distanceTree x_smallTree x_readLengths x_source x_target v_tokens c_p1 c_tokenLength c_tokenValue v_packedBits_5 c_codes c_packed_6 v_plain v_closed v_rowSize v_pieces v_imageSize v_readSize v_readPieces v_steps v_sourceFrom v_sourceBits v_readBits v_wrong v_made v_room) H := hP
          replace hD : va_D A (M_writeTokens_w E a_this a_p1 a_codes a_tokenLength a_tokenValue a_packed n_p1 x_row x_starts x_image x_readRow x_readStart x_readAt x_readMany x_piece x_pairBefore x_pairLast x_counts x_lengths x_fixed x_ranked x_weight x_weightBefore x_items x_lengthRow x_step x_stepMore x_symbolTree x_distanceTree x_smallTree x_readLengths x_source x_target v_tokens c_p1 c_tokenLength c_tokenValue v_packedBits_5 c_codes c_packed_6 v_plain v_closed v_rowSize v_pieces v_imageSize v_readSize v_readPieces v_steps v_sourceFrom v_sourceBits v_readBits v_wrong v_made v_room) := hD
          refine lv_aload_n hx hb d_M_writeTokens_63 rfl (lv_at hl 1 rfl) ?_
          refine va_get (D := E.1) (ci := 12) (v := .ref a_tokenLength) (C := R_M) (T := F_M) (N := 46) hx hb hts i_M hown hK hP 0 rfl rfl 20 (by decide) (hts _ tw_815) (fun _ h9 => h9) rfl d_M_writeTokens_64 ?_
          refine lv_iload_n hx hb d_M_writeTokens_67 rfl (lv_at hl 3 rfl) ?_
          obtain ⟨hi68, hm⟩ := mG_e hm
          refine va_iald hx hb hK hP 3 0 rfl rfl hi68 d_M_writeTokens_68 ?_
          refine lv_if_le (tgt := 134) hx hb d_M_writeTokens_69 (by decide) (fun c69 => ?_) (fun c69 => ?_)
          · replace hm := mC_t hm c69
            exact h_134 _ _ _ _ H locs ls hm hP hD hS (lv_sub hl [1, 2, 3] rfl)
          · replace hm := mC_f hm c69
            refine lv_aload_n hx hb d_M_writeTokens_72 rfl (lv_at hl 1 rfl) ?_
            refine va_get (D := E.1) (ci := 12) (v := .ref a_tokenValue) (C := R_M) (T := F_M) (N := 46) hx hb hts i_M hown hK hP 0 rfl rfl 21 (by decide) (hts _ tw_816) (fun _ h9 => h9) rfl d_M_writeTokens_73 ?_
            refine lv_iload_n hx hb d_M_writeTokens_76 rfl (lv_at hl 3 rfl) ?_
            obtain ⟨hi77, hm⟩ := mG_e hm
            refine va_iald hx hb hK hP 4 0 rfl rfl hi77 d_M_writeTokens_77 ?_
            obtain ⟨t_8, et_8⟩ : ∃ z : Int32, z = c_tokenValue x2.toNatClampNeg := ⟨_, rfl⟩
            rw [← et_8]
            replace hm := mL_e hm t_8 et_8
            obtain ⟨r_9, hc78, hm⟩ := mR0_e hm
            refine xmi (wc := (M_distanceSymbol_w E)) [false, false, false, false, false, false] [] [] hP hD hS hA rfl (by decide) (by decide) 0 (by decide) (fun _ => rfl) (fun hPc hDc hFc => va_runS (As := [.int t_8]) (rest := []) ⟨hx, hb, hml, hown, hts⟩ (c_M_distanceSymbol l E F H.size t_8 (r_9, ()) hc78) (va_cwS 1 hts (x_gS tw_988 tw_989 tw_79 tw_990) rfl rfl rfl (by decide +kernel) ⟨Nat.le_of_ble_eq_true rfl, Nat.le_of_ble_eq_true rfl⟩) (xPS hPc hDc hFc hK hI hN hS) rfl rfl hl.1 rfl (lv_room (Nat.le_of_ble_eq_true rfl)) d_M_writeTokens_78 ⟨Nat.le_of_ble_eq_true rfl, Nat.le_of_ble_eq_true rfl⟩) (fun r9 u9 H locs hw hP hD hS => ?_)
            have hw1 : r_9 = r9 := hw.1.symm
            subst hw1
            replace hP : va_P E.1 vwCl (M_writeTokens_w E a_this a_p1 a_codes a_tokenLength a_tokenValue a_packed n_p1 x_row x_starts x_image x_readRow x_readStart x_readAt x_readMany x_piece x_pairBefore x_pairLast x_counts x_lengths x_fixed x_ranked x_weight x_weightBefore x_items x_lengthRow x_step x_stepMore x_symbolTree x_distanceTree x_smallTree x_readLengths x_source x_target v_tokens c_p1 c_tokenLength c_tokenValue v_packedBits_5 c_codes c_packed_6 v_plain v_closed v_rowSize v_pieces v_imageSize v_readSize v_readPieces v_steps v_sourceFrom v_sourceBits v_readBits v_wrong v_made v_room) H := hP
            replace hD : va_D A (M_writeTokens_w E a_this a_p1 a_codes a_tokenLength a_tokenValue a_packed n_p1 x_row x_starts x_image x_readRow x_readStart x_readAt x_readMany x_piece x_pairBefore x_pairLast x_counts x_lengths x_fixed x_ranked x_weight x_weightBefore x_items x_lengthRow x_step x_stepMore x_symbolTree x_distanceTree x_smallTree x_readLengths x_source x_target v_tokens c_p1 c_tokenLength c_tokenValue v_packedBits_5 c_codes c_packed_6 v_plain v_closed v_rowSize v_pieces v_imageSize v_readSize v_readPieces v_steps v_sourceFrom v_sourceBits v_readBits v_wrong v_made v_room) := hD
            refine lv_istore (lv' := [(4, .int r_9), (3, .int s0), (0, .ref a_this), (1, .ref a_p1), (2, .int x2)]) hx hb d_M_writeTokens_81 hl (by decide) rfl (fun ls hl => ?_)
            refine lv_aload_n hx hb d_M_writeTokens_83 rfl (lv_at hl 2 rfl) ?_
            refine lv_aload_n hx hb d_M_writeTokens_84 rfl (lv_at hl 2 rfl) ?_
            refine va_get (D := E.1) (ci := 12) (v := .ref a_tokenLength) (C := R_M) (T := F_M) (N := 46) hx hb hts i_M hown hK hP 0 rfl rfl 20 (by decide) (hts _ tw_815) (fun _ h9 => h9) rfl d_M_writeTokens_85 ?_
            refine lv_iload_n hx hb d_M_writeTokens_88 rfl (lv_at hl 4 rfl) ?_
            obtain ⟨hi89, hm⟩ := mG_e hm
            refine va_iald hx hb hK hP 3 0 rfl rfl hi89 d_M_writeTokens_89 ?_
            refine lv_iload_n hx hb d_M_writeTokens_90 rfl (lv_at hl 1 rfl) ?_
            obtain ⟨r_10, hc91, hm⟩ := mR0_e hm
            refine xmi (wc := (M_lengthBase_w E)) [false, false, false, false, false, false] [] [] hP hD hS hA rfl (by decide) (by decide) 0 (by decide) (fun _ => rfl) (fun hPc hDc hFc => va_runS (As := [.int s0]) (rest := [.int (c_tokenLength x2.toNatClampNeg), .ref a_this]) ⟨hx, hb, hml, hown, hts⟩ (c_M_lengthBase l E F H.size s0 (r_10, ()) hc91) (va_cwS 1 hts (x_gS tw_982 tw_983 tw_79 tw_984) rfl rfl rfl (by decide +kernel) ⟨Nat.le_of_ble_eq_true rfl, Nat.le_of_ble_eq_true rfl⟩) (xPS hPc hDc hFc hK hI hN hS) rfl rfl hl.1 rfl (lv_room (Nat.le_of_ble_eq_true rfl)) d_M_writeTokens_91 ⟨Nat.le_of_ble_eq_true rfl, Nat.le_of_ble_eq_true rfl⟩) (fun r9 u9 H locs hw hP hD hS => ?_)
            have hw1 : r_10 = r9 := hw.1.symm
            subst hw1
            replace hP : va_P E.1 vwCl (M_writeTokens_w E a_this a_p1 a_codes a_tokenLength a_tokenValue a_packed n_p1 x_row x_starts x_image x_readRow x_readStart x_readAt x_readMany x_piece x_pairBefore x_pairLast x_counts x_lengths x_fixed x_ranked x_weight x_weightBefore x_items x_lengthRow x_step x_stepMore x_symbolTree x_distanceTree x_smallTree x_readLengths x_source x_target v_tokens c_p1 c_tokenLength c_tokenValue v_packedBits_5 c_codes c_packed_6 v_plain v_closed v_rowSize v_pieces v_imageSize v_readSize v_readPieces v_steps v_sourceFrom v_sourceBits v_readBits v_wrong v_made v_room) H := hP
            replace hD : va_D A (M_writeTokens_w E a_this a_p1 a_codes a_tokenLength a_tokenValue a_packed n_p1 x_row x_starts x_image x_readRow x_readStart x_readAt x_readMany x_piece x_pairBefore x_pairLast x_counts x_lengths x_fixed x_ranked x_weight x_weightBefore x_items x_lengthRow x_step x_stepMore x_symbolTree x_distanceTree x_smallTree x_readLengths x_source x_target v_tokens c_p1 c_tokenLength c_tokenValue v_packedBits_5 c_codes c_packed_6 v_plain v_closed v_rowSize v_pieces v_imageSize v_readSize v_readPieces v_steps v_sourceFrom v_sourceBits v_readBits v_wrong v_made v_room) := hD
            refine lv_isub hx hb d_M_writeTokens_94 ?_
            refine lv_iload_n hx hb d_M_writeTokens_95 rfl (lv_at hl 1 rfl) ?_
            obtain ⟨r_11, hc96, hm⟩ := mR0_e hm
            refine xmi (wc := (M_lengthBits_w E)) [false, false, false, false, false, false] [] [] hP hD hS hA rfl (by decide) (by decide) 0 (by decide) (fun _ => rfl) (fun hPc hDc hFc => va_runS (As := [.int s0]) (rest := [.int ((c_tokenLength x2.toNatClampNeg) - r_10), .ref a_this]) ⟨hx, hb, hml, hown, hts⟩ (c_M_lengthBits l E F H.size s0 (r_11, ()) hc96) (va_cwS 1 hts (x_gS tw_985 tw_986 tw_79 tw_987) rfl rfl rfl (by decide +kernel) ⟨Nat.le_of_ble_eq_true rfl, Nat.le_of_ble_eq_true rfl⟩) (xPS hPc hDc hFc hK hI hN hS) rfl rfl hl.1 rfl (lv_room (Nat.le_of_ble_eq_true rfl)) d_M_writeTokens_96 ⟨Nat.le_of_ble_eq_true rfl, Nat.le_of_ble_eq_true rfl⟩) (fun r9 u9 H locs hw hP hD hS => ?_)
            have hw1 : r_11 = r9 := hw.1.symm
            subst hw1
            replace hP : va_P E.1 vwCl (M_writeTokens_w E a_this a_p1 a_codes a_tokenLength a_tokenValue a_packed n_p1 x_row x_starts x_image x_readRow x_readStart x_readAt x_readMany x_piece x_pairBefore x_pairLast x_counts x_lengths x_fixed x_ranked x_weight x_weightBefore x_items x_lengthRow x_step x_stepMore x_symbolTree x_distanceTree x_smallTree x_readLengths x_source x_target v_tokens c_p1 c_tokenLength c_tokenValue v_packedBits_5 c_codes c_packed_6 v_plain v_closed v_rowSize v_pieces v_imageSize v_readSize v_readPieces v_steps v_sourceFrom v_sourceBits v_readBits v_wrong v_made v_room) H := hP
            replace hD : va_D A (M_writeTokens_w E a_this a_p1 a_codes a_tokenLength a_tokenValue a_packed n_p1 x_row x_starts x_image x_readRow x_readStart x_readAt x_readMany x_piece x_pairBefore x_pairLast x_counts x_lengths x_fixed x_ranked x_weight x_weightBefore x_items x_lengthRow x_step x_stepMore x_symbolTree x_distanceTree x_smallTree x_readLengths x_source x_target v_tokens c_p1 c_tokenLength c_tokenValue v_packedBits_5 c_codes c_packed_6 v_plain v_closed v_rowSize v_pieces v_imageSize v_readSize v_readPieces v_steps v_sourceFrom v_sourceBits v_readBits v_wrong v_made v_room) := hD
            obtain ⟨t_12, et_12⟩ : ∃ z : Int32, z = (c_tokenLength x2.toNatClampNeg) - r_10 := ⟨_, rfl⟩
            rw [← et_12]
            replace hm := mL_e hm t_12 et_12
            obtain ⟨r_15, v_packedBits_13, c_packed_14, hc99, hm⟩ := mR2_e hm
            refine xmv (wc := (M_writeNumber_w E a_this a_packed x_row x_starts x_image x_readRow x_readStart x_readAt x_readMany x_piece x_pairBefore x_pairLast (.ref a_tokenLength) (.ref a_tokenValue) x_counts x_lengths x_fixed x_ranked x_weight x_weightBefore x_items x_lengthRow x_step x_stepMore (.ref a_codes) x_symbolTree x_distanceTree x_smallTree x_readLengths x_source x_target v_packedBits_5 c_packed_6 v_plain v_closed v_rowSize v_pieces v_imageSize v_readSize v_readPieces v_tokens v_steps v_sourceFrom v_sourceBits v_readBits v_wrong v_made v_room)) [true, false, false, false, false, true] [0, 1] [0, 1] hP hD hS hA rfl (by decide) (by decide) 2 (by decide) (fun _ => rfl) (fun hPc hDc hFc => va_runV (As := [.int t_12, .int r_11]) (rest := []) ⟨hx, hb, hml, hown, hts⟩ (c_M_writeNumber l E F H.size a_this a_packed x_row x_starts x_image x_readRow x_readStart x_readAt x_readMany x_piece x_pairBefore x_pairLast (.ref a_tokenLength) (.ref a_tokenValue) x_counts x_lengths x_fixed x_ranked x_weight x_weightBefore x_items x_lengthRow x_step x_stepMore (.ref a_codes) x_symbolTree x_distanceTree x_smallTree x_readLengths x_source x_target v_packedBits_5 c_packed_6 v_plain v_closed v_rowSize v_pieces v_imageSize v_readSize v_readPieces v_tokens v_steps v_sourceFrom v_sourceBits v_readBits v_wrong v_made v_room t_12 r_11 (r_15, v_packedBits_13, c_packed_14) hc99) (cwV 2 hts (x_gV tw_958 tw_960 tw_34 tw_79 tw_961) rfl rfl rfl (by decide +kernel) ⟨Nat.le_of_ble_eq_true rfl, Nat.le_of_ble_eq_true rfl⟩) (xPV 12 0 rfl rfl hPc hDc hFc hK hI hN hS) rfl rfl hl.1 rfl (lv_room (Nat.le_of_ble_eq_true rfl)) d_M_writeTokens_99 ⟨Nat.le_of_ble_eq_true rfl, Nat.le_of_ble_eq_true rfl⟩) (fun u9 H locs hw hP hD hS => ?_)
            have hw2 : (v_packedBits_13, c_packed_14) = u9 := hw.symm
            subst hw2
            replace hP : va_P E.1 vwCl (M_writeTokens_w E a_this a_p1 a_codes a_tokenLength a_tokenValue a_packed n_p1 x_row x_starts x_image x_readRow x_readStart x_readAt x_readMany x_piece x_pairBefore x_pairLast x_counts x_lengths x_fixed x_ranked x_weight x_weightBefore x_items x_lengthRow x_step x_stepMore x_symbolTree x_distanceTree x_smallTree x_readLengths x_source x_target v_tokens c_p1 c_tokenLength c_tokenValue v_packedBits_13 c_codes c_packed_14 v_plain v_closed v_rowSize v_pieces v_imageSize v_readSize v_readPieces v_steps v_sourceFrom v_sourceBits v_readBits v_wrong v_made v_room) H := hP
            replace hD : va_D A (M_writeTokens_w E a_this a_p1 a_codes a_tokenLength a_tokenValue a_packed n_p1 x_row x_starts x_image x_readRow x_readStart x_readAt x_readMany x_piece x_pairBefore x_pairLast x_counts x_lengths x_fixed x_ranked x_weight x_weightBefore x_items x_lengthRow x_step x_stepMore x_symbolTree x_distanceTree x_smallTree x_readLengths x_source x_target v_tokens c_p1 c_tokenLength c_tokenValue v_packedBits_13 c_codes c_packed_14 v_plain v_closed v_rowSize v_pieces v_imageSize v_readSize v_readPieces v_steps v_sourceFrom v_sourceBits v_readBits v_wrong v_made v_room) := hD
            refine lv_aload_n hx hb d_M_writeTokens_102 rfl (lv_at hl 2 rfl) ?_
            refine lv_aload_n hx hb d_M_writeTokens_103 rfl (lv_at hl 3 rfl) ?_
            refine lv_sipush (v := 288) hx hb d_M_writeTokens_104 (by decide) ?_
            refine lv_iload hx hb d_M_writeTokens_107 (lv_at hl 0 rfl) ?_
            refine lv_iadd hx hb d_M_writeTokens_109 ?_
            obtain ⟨t_16, et_16⟩ : ∃ z : Int32, z = 288 + r_9 := ⟨_, rfl⟩
            rw [← et_16]
            replace hm := mL_e hm t_16 et_16
            obtain ⟨r_19, v_packedBits_17, c_packed_18, hc110, hm⟩ := mR2_e hm
            refine xmv (wc := (M_writeCode_w E a_p1 a_this a_codes a_packed n_p1 x_row x_starts x_image x_readRow x_readStart x_readAt x_readMany x_piece x_pairBefore x_pairLast (.ref a_tokenLength) (.ref a_tokenValue) x_counts x_lengths x_fixed x_ranked x_weight x_weightBefore x_items x_lengthRow x_step x_stepMore x_symbolTree x_distanceTree x_smallTree x_readLengths x_source x_target c_p1 c_codes v_packedBits_13 c_packed_14 v_plain v_closed v_rowSize v_pieces v_imageSize v_readSize v_readPieces v_tokens v_steps v_sourceFrom v_sourceBits v_readBits v_wrong v_made v_room)) [true, true, true, false, false, true] [1, 0, 2, 3] [1, 0, 2, 3] hP hD hS hA rfl (by decide) (by decide) 4 (by decide) (fun _ => rfl) (fun hPc hDc hFc => va_runV (As := [.ref a_p1, .int t_16]) (rest := []) ⟨hx, hb, hml, hown, hts⟩ (c_M_writeCode l E F H.size a_p1 a_this a_codes a_packed n_p1 x_row x_starts x_image x_readRow x_readStart x_readAt x_readMany x_piece x_pairBefore x_pairLast (.ref a_tokenLength) (.ref a_tokenValue) x_counts x_lengths x_fixed x_ranked x_weight x_weightBefore x_items x_lengthRow x_step x_stepMore x_symbolTree x_distanceTree x_smallTree x_readLengths x_source x_target c_p1 c_codes v_packedBits_13 c_packed_14 v_plain v_closed v_rowSize v_pieces v_imageSize v_readSize v_readPieces v_tokens v_steps v_sourceFrom v_sourceBits v_readBits v_wrong v_made v_room t_16 (r_19, v_packedBits_17, c_packed_18) hc110) (cwV 2 hts (x_gV tw_1051 tw_1053 tw_50 tw_79 tw_1054) rfl rfl rfl (by decide +kernel) ⟨Nat.le_of_ble_eq_true rfl, Nat.le_of_ble_eq_true rfl⟩) (xPV 12 1 rfl rfl hPc hDc hFc hK hI hN hS) rfl rfl hl.1 rfl (lv_room (Nat.le_of_ble_eq_true rfl)) d_M_writeTokens_110 ⟨Nat.le_of_ble_eq_true rfl, Nat.le_of_ble_eq_true rfl⟩) (fun u9 H locs hw hP hD hS => ?_)
            have hw2 : (v_packedBits_17, c_packed_18) = u9 := hw.symm
            subst hw2
            replace hP : va_P E.1 vwCl (M_writeTokens_w E a_this a_p1 a_codes a_tokenLength a_tokenValue a_packed n_p1 x_row x_starts x_image x_readRow x_readStart x_readAt x_readMany x_piece x_pairBefore x_pairLast x_counts x_lengths x_fixed x_ranked x_weight x_weightBefore x_items x_lengthRow x_step x_stepMore x_symbolTree x_distanceTree x_smallTree x_readLengths x_source x_target v_tokens c_p1 c_tokenLength c_tokenValue v_packedBits_17 c_codes c_packed_18 v_plain v_closed v_rowSize v_pieces v_imageSize v_readSize v_readPieces v_steps v_sourceFrom v_sourceBits v_readBits v_wrong v_made v_room) H := hP
            replace hD : va_D A (M_writeTokens_w E a_this a_p1 a_codes a_tokenLength a_tokenValue a_packed n_p1 x_row x_starts x_image x_readRow x_readStart x_readAt x_readMany x_piece x_pairBefore x_pairLast x_counts x_lengths x_fixed x_ranked x_weight x_weightBefore x_items x_lengthRow x_step x_stepMore x_symbolTree x_distanceTree x_smallTree x_readLengths x_source x_target v_tokens c_p1 c_tokenLength c_tokenValue v_packedBits_17 c_codes c_packed_18 v_plain v_closed v_rowSize v_pieces v_imageSize v_readSize v_readPieces v_steps v_sourceFrom v_sourceBits v_readBits v_wrong v_made v_room) := hD
            refine lv_aload_n hx hb d_M_writeTokens_113 rfl (lv_at hl 2 rfl) ?_
            refine lv_aload_n hx hb d_M_writeTokens_114 rfl (lv_at hl 2 rfl) ?_
            refine va_get (D := E.1) (ci := 12) (v := .ref a_tokenValue) (C := R_M) (T := F_M) (N := 46) hx hb hts i_M hown hK hP 0 rfl rfl 21 (by decide) (hts _ tw_816) (fun _ h9 => h9) rfl d_M_writeTokens_115 ?_
            refine lv_iload_n hx hb d_M_writeTokens_118 rfl (lv_at hl 4 rfl) ?_
            obtain ⟨hi119, hm⟩ := mG_e hm
            refine va_iald hx hb hK hP 4 0 rfl rfl hi119 d_M_writeTokens_119 ?_
            refine lv_iload hx hb d_M_writeTokens_120 (lv_at hl 0 rfl) ?_
            obtain ⟨r_20, hc122, hm⟩ := mR0_e hm
            refine xmi (wc := (M_distanceBase_w E)) [false, false, false, false, false, false] [] [] hP hD hS hA rfl (by decide) (by decide) 0 (by decide) (fun _ => rfl) (fun hPc hDc hFc => va_runS (As := [.int r_9]) (rest := [.int (c_tokenValue x2.toNatClampNeg), .ref a_this]) ⟨hx, hb, hml, hown, hts⟩ (c_M_distanceBase l E F H.size r_9 (r_20, ()) hc122) (va_cwS 1 hts (x_gS tw_991 tw_992 tw_79 tw_993) rfl rfl rfl (by decide +kernel) ⟨Nat.le_of_ble_eq_true rfl, Nat.le_of_ble_eq_true rfl⟩) (xPS hPc hDc hFc hK hI hN hS) rfl rfl hl.1 rfl (lv_room (Nat.le_of_ble_eq_true rfl)) d_M_writeTokens_122 ⟨Nat.le_of_ble_eq_true rfl, Nat.le_of_ble_eq_true rfl⟩) (fun r9 u9 H locs hw hP hD hS => ?_)
            have hw1 : r_20 = r9 := hw.1.symm
            subst hw1
            replace hP : va_P E.1 vwCl (M_writeTokens_w E a_this a_p1 a_codes a_tokenLength a_tokenValue a_packed n_p1 x_row x_starts x_image x_readRow x_readStart x_readAt x_readMany x_piece x_pairBefore x_pairLast x_counts x_lengths x_fixed x_ranked x_weight x_weightBefore x_items x_lengthRow x_step x_stepMore x_symbolTree x_distanceTree x_smallTree x_readLengths x_source x_target v_tokens c_p1 c_tokenLength c_tokenValue v_packedBits_17 c_codes c_packed_18 v_plain v_closed v_rowSize v_pieces v_imageSize v_readSize v_readPieces v_steps v_sourceFrom v_sourceBits v_readBits v_wrong v_made v_room) H := hP
            replace hD : va_D A (M_writeTokens_w E a_this a_p1 a_codes a_tokenLength a_tokenValue a_packed n_p1 x_row x_starts x_image x_readRow x_readStart x_readAt x_readMany x_piece x_pairBefore x_pairLast x_counts x_lengths x_fixed x_ranked x_weight x_weightBefore x_items x_lengthRow x_step x_stepMore x_symbolTree x_distanceTree x_smallTree x_readLengths x_source x_target v_tokens c_p1 c_tokenLength c_tokenValue v_packedBits_17 c_codes c_packed_18 v_plain v_closed v_rowSize v_pieces v_imageSize v_readSize v_readPieces v_steps v_sourceFrom v_sourceBits v_readBits v_wrong v_made v_room) := hD
            refine lv_isub hx hb d_M_writeTokens_125 ?_
            refine lv_iload hx hb d_M_writeTokens_126 (lv_at hl 0 rfl) ?_
            obtain ⟨r_21, hc128, hm⟩ := mR0_e hm
            refine xmi (wc := (M_distanceBits_w E)) [false, false, false, false, false, false] [] [] hP hD hS hA rfl (by decide) (by decide) 0 (by decide) (fun _ => rfl) (fun hPc hDc hFc => va_runS (As := [.int r_9]) (rest := [.int ((c_tokenValue x2.toNatClampNeg) - r_20), .ref a_this]) ⟨hx, hb, hml, hown, hts⟩ (c_M_distanceBits l E F H.size r_9 (r_21, ()) hc128) (va_cwS 1 hts (x_gS tw_994 tw_995 tw_79 tw_996) rfl rfl rfl (by decide +kernel) ⟨Nat.le_of_ble_eq_true rfl, Nat.le_of_ble_eq_true rfl⟩) (xPS hPc hDc hFc hK hI hN hS) rfl rfl hl.1 rfl (lv_room (Nat.le_of_ble_eq_true rfl)) d_M_writeTokens_128 ⟨Nat.le_of_ble_eq_true rfl, Nat.le_of_ble_eq_true rfl⟩) (fun r9 u9 H locs hw hP hD hS => ?_)
            have hw1 : r_21 = r9 := hw.1.symm
            subst hw1
            replace hP : va_P E.1 vwCl (M_writeTokens_w E a_this a_p1 a_codes a_tokenLength a_tokenValue a_packed n_p1 x_row x_starts x_image x_readRow x_readStart x_readAt x_readMany x_piece x_pairBefore x_pairLast x_counts x_lengths x_fixed x_ranked x_weight x_weightBefore x_items x_lengthRow x_step x_stepMore x_symbolTree x_distanceTree x_smallTree x_readLengths x_source x_target v_tokens c_p1 c_tokenLength c_tokenValue v_packedBits_17 c_codes c_packed_18 v_plain v_closed v_rowSize v_pieces v_imageSize v_readSize v_readPieces v_steps v_sourceFrom v_sourceBits v_readBits v_wrong v_made v_room) H := hP
            replace hD : va_D A (M_writeTokens_w E a_this a_p1 a_codes a_tokenLength a_tokenValue a_packed n_p1 x_row x_starts x_image x_readRow x_readStart x_readAt x_readMany x_piece x_pairBefore x_pairLast x_counts x_lengths x_fixed x_ranked x_weight x_weightBefore x_items x_lengthRow x_step x_stepMore x_symbolTree x_distanceTree x_smallTree x_readLengths x_source x_target v_tokens c_p1 c_tokenLength c_tokenValue v_packedBits_17 c_codes c_packed_18 v_plain v_closed v_rowSize v_pieces v_imageSize v_readSize v_readPieces v_steps v_sourceFrom v_sourceBits v_readBits v_wrong v_made v_room) := hD
            obtain ⟨t_22, et_22⟩ : ∃ z : Int32, z = (c_tokenValue x2.toNatClampNeg) - r_20 := ⟨_, rfl⟩
            rw [← et_22]
            replace hm := mL_e hm t_22 et_22
            obtain ⟨r_25, v_packedBits_23, c_packed_24, hc131, hm⟩ := mR2_e hm
            refine xmv (wc := (M_writeNumber_w E a_this a_packed x_row x_starts x_image x_readRow x_readStart x_readAt x_readMany x_piece x_pairBefore x_pairLast (.ref a_tokenLength) (.ref a_tokenValue) x_counts x_lengths x_fixed x_ranked x_weight x_weightBefore x_items x_lengthRow x_step x_stepMore (.ref a_codes) x_symbolTree x_distanceTree x_smallTree x_readLengths x_source x_target v_packedBits_17 c_packed_18 v_plain v_closed v_rowSize v_pieces v_imageSize v_readSize v_readPieces v_tokens v_steps v_sourceFrom v_sourceBits v_readBits v_wrong v_made v_room)) [true, false, false, false, false, true] [0, 1] [0, 1] hP hD hS hA rfl (by decide) (by decide) 2 (by decide) (fun _ => rfl) (fun hPc hDc hFc => va_runV (As := [.int t_22, .int r_21]) (rest := []) ⟨hx, hb, hml, hown, hts⟩ (c_M_writeNumber l E F H.size a_this a_packed x_row x_starts x_image x_readRow x_readStart x_readAt x_readMany x_piece x_pairBefore x_pairLast (.ref a_tokenLength) (.ref a_tokenValue) x_counts x_lengths x_fixed x_ranked x_weight x_weightBefore x_items x_lengthRow x_step x_stepMore (.ref a_codes) x_symbolTree x_distanceTree x_smallTree x_readLengths x_source x_target v_packedBits_17 c_packed_18 v_plain v_closed v_rowSize v_pieces v_imageSize v_readSize v_readPieces v_tokens v_steps v_sourceFrom v_sourceBits v_readBits v_wrong v_made v_room t_22 r_21 (r_25, v_packedBits_23, c_packed_24) hc131) (cwV 2 hts (x_gV tw_958 tw_960 tw_34 tw_79 tw_961) rfl rfl rfl (by decide +kernel) ⟨Nat.le_of_ble_eq_true rfl, Nat.le_of_ble_eq_true rfl⟩) (xPV 12 0 rfl rfl hPc hDc hFc hK hI hN hS) rfl rfl hl.1 rfl (lv_room (Nat.le_of_ble_eq_true rfl)) d_M_writeTokens_131 ⟨Nat.le_of_ble_eq_true rfl, Nat.le_of_ble_eq_true rfl⟩) (fun u9 H locs hw hP hD hS => ?_)
            have hw2 : (v_packedBits_23, c_packed_24) = u9 := hw.symm
            subst hw2
            replace hP : va_P E.1 vwCl (M_writeTokens_w E a_this a_p1 a_codes a_tokenLength a_tokenValue a_packed n_p1 x_row x_starts x_image x_readRow x_readStart x_readAt x_readMany x_piece x_pairBefore x_pairLast x_counts x_lengths x_fixed x_ranked x_weight x_weightBefore x_items x_lengthRow x_step x_stepMore x_symbolTree x_distanceTree x_smallTree x_readLengths x_source x_target v_tokens c_p1 c_tokenLength c_tokenValue v_packedBits_23 c_codes c_packed_24 v_plain v_closed v_rowSize v_pieces v_imageSize v_readSize v_readPieces v_steps v_sourceFrom v_sourceBits v_readBits v_wrong v_made v_room) H := hP
            replace hD : va_D A (M_writeTokens_w E a_this a_p1 a_codes a_tokenLength a_tokenValue a_packed n_p1 x_row x_starts x_image x_readRow x_readStart x_readAt x_readMany x_piece x_pairBefore x_pairLast x_counts x_lengths x_fixed x_ranked x_weight x_weightBefore x_items x_lengthRow x_step x_stepMore x_symbolTree x_distanceTree x_smallTree x_readLengths x_source x_target v_tokens c_p1 c_tokenLength c_tokenValue v_packedBits_23 c_codes c_packed_24 v_plain v_closed v_rowSize v_pieces v_imageSize v_readSize v_readPieces v_steps v_sourceFrom v_sourceBits v_readBits v_wrong v_made v_room) := hD
            exact h_134 _ _ _ _ H locs ls hm hP hD hS (lv_sub hl [2, 3, 4] rfl)
        refine lv_aload_n hx hb d_M_writeTokens_29 rfl (lv_at hl 0 rfl) ?_
        refine va_get (D := E.1) (ci := 12) (v := .ref a_tokenLength) (C := R_M) (T := F_M) (N := 46) hx hb hts i_M hown hK hP 0 rfl rfl 20 (by decide) (hts _ tw_815) (fun _ h9 => h9) rfl d_M_writeTokens_30 ?_
        refine lv_iload_n hx hb d_M_writeTokens_33 rfl (lv_at hl 2 rfl) ?_
        obtain ⟨hi34, hm⟩ := mG_e hm
        refine va_iald hx hb hK hP 3 0 rfl rfl hi34 d_M_writeTokens_34 ?_
        refine lv_if_ne (tgt := 47) hx hb d_M_writeTokens_35 (by decide) (fun c35 => ?_) (fun c35 => ?_)
        · replace hm := mC_f hm c35
          refine lv_aload_n hx hb d_M_writeTokens_47 rfl (lv_at hl 0 rfl) ?_
          refine va_get (D := E.1) (ci := 12) (v := .ref a_tokenLength) (C := R_M) (T := F_M) (N := 46) hx hb hts i_M hown hK hP 0 rfl rfl 20 (by decide) (hts _ tw_815) (fun _ h9 => h9) rfl d_M_writeTokens_48 ?_
          refine lv_iload_n hx hb d_M_writeTokens_51 rfl (lv_at hl 2 rfl) ?_
          obtain ⟨hi52, hm⟩ := mG_e hm
          refine va_iald hx hb hK hP 3 0 rfl rfl hi52 d_M_writeTokens_52 ?_
          obtain ⟨t_26, et_26⟩ : ∃ z : Int32, z = c_tokenLength x2.toNatClampNeg := ⟨_, rfl⟩
          rw [← et_26]
          replace hm := mL_e hm t_26 et_26
          obtain ⟨r_27, hc53, hm⟩ := mR0_e hm
          refine xmi (wc := (M_lengthSymbol_w E)) [false, false, false, false, false, false] [] [] hP hD hS hA rfl (by decide) (by decide) 0 (by decide) (fun _ => rfl) (fun hPc hDc hFc => va_runS (As := [.int t_26]) (rest := []) ⟨hx, hb, hml, hown, hts⟩ (c_M_lengthSymbol l E F H.size t_26 (r_27, ()) hc53) (va_cwS 1 hts (x_gS tw_979 tw_980 tw_79 tw_981) rfl rfl rfl (by decide +kernel) ⟨Nat.le_of_ble_eq_true rfl, Nat.le_of_ble_eq_true rfl⟩) (xPS hPc hDc hFc hK hI hN hS) rfl rfl hl.1 rfl (lv_room (Nat.le_of_ble_eq_true rfl)) d_M_writeTokens_53 ⟨Nat.le_of_ble_eq_true rfl, Nat.le_of_ble_eq_true rfl⟩) (fun r9 u9 H locs hw hP hD hS => ?_)
          have hw1 : r_27 = r9 := hw.1.symm
          subst hw1
          replace hP : va_P E.1 vwCl (M_writeTokens_w E a_this a_p1 a_codes a_tokenLength a_tokenValue a_packed n_p1 x_row x_starts x_image x_readRow x_readStart x_readAt x_readMany x_piece x_pairBefore x_pairLast x_counts x_lengths x_fixed x_ranked x_weight x_weightBefore x_items x_lengthRow x_step x_stepMore x_symbolTree x_distanceTree x_smallTree x_readLengths x_source x_target v_tokens c_p1 c_tokenLength c_tokenValue v_packedBits c_codes c_packed v_plain v_closed v_rowSize v_pieces v_imageSize v_readSize v_readPieces v_steps v_sourceFrom v_sourceBits v_readBits v_wrong v_made v_room) H := hP
          replace hD : va_D A (M_writeTokens_w E a_this a_p1 a_codes a_tokenLength a_tokenValue a_packed n_p1 x_row x_starts x_image x_readRow x_readStart x_readAt x_readMany x_piece x_pairBefore x_pairLast x_counts x_lengths x_fixed x_ranked x_weight x_weightBefore x_items x_lengthRow x_step x_stepMore x_symbolTree x_distanceTree x_smallTree x_readLengths x_source x_target v_tokens c_p1 c_tokenLength c_tokenValue v_packedBits c_codes c_packed v_plain v_closed v_rowSize v_pieces v_imageSize v_readSize v_readPieces v_steps v_sourceFrom v_sourceBits v_readBits v_wrong v_made v_room) := hD
          exact h_56 _ _ _ _ _ H locs ls hm hP hD hS hl
        · replace hm := mC_t hm c35
          refine lv_aload_n hx hb d_M_writeTokens_38 rfl (lv_at hl 0 rfl) ?_
          refine va_get (D := E.1) (ci := 12) (v := .ref a_tokenValue) (C := R_M) (T := F_M) (N := 46) hx hb hts i_M hown hK hP 0 rfl rfl 21 (by decide) (hts _ tw_816) (fun _ h9 => h9) rfl d_M_writeTokens_39 ?_
          refine lv_iload_n hx hb d_M_writeTokens_42 rfl (lv_at hl 2 rfl) ?_
          obtain ⟨hi43, hm⟩ := mG_e hm
          refine va_iald hx hb hK hP 4 0 rfl rfl hi43 d_M_writeTokens_43 ?_
          refine lv_goto (tgt := 56) hx hb d_M_writeTokens_44 (by decide) ?_
          exact h_56 _ _ _ _ _ H locs ls hm hP hD hS hl
  refine lv_aload_n hx hb d_M_writeTokens_0 rfl (lv_at hl 0 rfl) ?_
  refine lv_aload_n hx hb d_M_writeTokens_1 rfl (lv_at hl 1 rfl) ?_
  refine lv_iconst (v := 0) hx hb d_M_writeTokens_2 (by decide) ?_
  refine lv_sipush (v := 288) hx hb d_M_writeTokens_3 (by decide) ?_
  obtain ⟨r_29, c_codes_28, hc6, hm⟩ := mR1_e hm
  refine xmv (wc := (M_makeCodes_w E a_this a_p1 a_codes n_p1 x_row x_starts x_image x_readRow x_readStart x_readAt x_readMany x_piece (.ref a_packed) x_pairBefore x_pairLast (.ref a_tokenLength) (.ref a_tokenValue) x_counts x_lengths x_fixed x_ranked x_weight x_weightBefore x_items x_lengthRow x_step x_stepMore x_symbolTree x_distanceTree x_smallTree x_readLengths x_source x_target c_p1 c_codes v_plain v_closed v_rowSize v_pieces v_imageSize v_readSize v_readPieces v_packedBits v_tokens v_steps v_sourceFrom v_sourceBits v_readBits v_wrong v_made v_room)) [true, true, true, false, false, false] [0, 1, 2] [0, 1, 2] hP hD hS hA rfl (by decide) (by decide) 3 (by decide) (fun _ => rfl) (fun hPc hDc hFc => va_runV (As := [.ref a_p1, .int 0, .int 288]) (rest := []) ⟨hx, hb, hml, hown, hts⟩ (c_M_makeCodes l E F H.size a_this a_p1 a_codes n_p1 x_row x_starts x_image x_readRow x_readStart x_readAt x_readMany x_piece (.ref a_packed) x_pairBefore x_pairLast (.ref a_tokenLength) (.ref a_tokenValue) x_counts x_lengths x_fixed x_ranked x_weight x_weightBefore x_items x_lengthRow x_step x_stepMore x_symbolTree x_distanceTree x_smallTree x_readLengths x_source x_target c_p1 c_codes v_plain v_closed v_rowSize v_pieces v_imageSize v_readSize v_readPieces v_packedBits v_tokens v_steps v_sourceFrom v_sourceBits v_readBits v_wrong v_made v_room 0 288 (r_29, c_codes_28) hc6) (cwV 3 hts (x_gV tw_1044 tw_1046 tw_49 tw_79 tw_1047) rfl rfl rfl (by decide +kernel) ⟨Nat.le_of_ble_eq_true rfl, Nat.le_of_ble_eq_true rfl⟩) (xPV 12 0 rfl rfl hPc hDc hFc hK hI hN hS) rfl rfl hl.1 rfl (lv_room (Nat.le_of_ble_eq_true rfl)) d_M_writeTokens_6 ⟨Nat.le_of_ble_eq_true rfl, Nat.le_of_ble_eq_true rfl⟩) (fun u9 H locs hw hP hD hS => ?_)
  have hw2 : c_codes_28 = u9 := hw.symm
  subst hw2
  replace hP : va_P E.1 vwCl (M_writeTokens_w E a_this a_p1 a_codes a_tokenLength a_tokenValue a_packed n_p1 x_row x_starts x_image x_readRow x_readStart x_readAt x_readMany x_piece x_pairBefore x_pairLast x_counts x_lengths x_fixed x_ranked x_weight x_weightBefore x_items x_lengthRow x_step x_stepMore x_symbolTree x_distanceTree x_smallTree x_readLengths x_source x_target v_tokens c_p1 c_tokenLength c_tokenValue v_packedBits c_codes_28 c_packed v_plain v_closed v_rowSize v_pieces v_imageSize v_readSize v_readPieces v_steps v_sourceFrom v_sourceBits v_readBits v_wrong v_made v_room) H := hP
  replace hD : va_D A (M_writeTokens_w E a_this a_p1 a_codes a_tokenLength a_tokenValue a_packed n_p1 x_row x_starts x_image x_readRow x_readStart x_readAt x_readMany x_piece x_pairBefore x_pairLast x_counts x_lengths x_fixed x_ranked x_weight x_weightBefore x_items x_lengthRow x_step x_stepMore x_symbolTree x_distanceTree x_smallTree x_readLengths x_source x_target v_tokens c_p1 c_tokenLength c_tokenValue v_packedBits c_codes_28 c_packed v_plain v_closed v_rowSize v_pieces v_imageSize v_readSize v_readPieces v_steps v_sourceFrom v_sourceBits v_readBits v_wrong v_made v_room) := hD
  refine lv_aload_n hx hb d_M_writeTokens_9 rfl (lv_at hl 0 rfl) ?_
  refine lv_aload_n hx hb d_M_writeTokens_10 rfl (lv_at hl 1 rfl) ?_
  refine lv_sipush (v := 288) hx hb d_M_writeTokens_11 (by decide) ?_
  refine lv_bipush (v := 32) hx hb d_M_writeTokens_14 (by decide) ?_
  obtain ⟨r_31, c_codes_30, hc16, hm⟩ := mR1_e hm
  refine xmv (wc := (M_makeCodes_w E a_this a_p1 a_codes n_p1 x_row x_starts x_image x_readRow x_readStart x_readAt x_readMany x_piece (.ref a_packed) x_pairBefore x_pairLast (.ref a_tokenLength) (.ref a_tokenValue) x_counts x_lengths x_fixed x_ranked x_weight x_weightBefore x_items x_lengthRow x_step x_stepMore x_symbolTree x_distanceTree x_smallTree x_readLengths x_source x_target c_p1 c_codes_28 v_plain v_closed v_rowSize v_pieces v_imageSize v_readSize v_readPieces v_packedBits v_tokens v_steps v_sourceFrom v_sourceBits v_readBits v_wrong v_made v_room)) [true, true, true, false, false, false] [0, 1, 2] [0, 1, 2] hP hD hS hA rfl (by decide) (by decide) 3 (by decide) (fun _ => rfl) (fun hPc hDc hFc => va_runV (As := [.ref a_p1, .int 288, .int 32]) (rest := []) ⟨hx, hb, hml, hown, hts⟩ (c_M_makeCodes l E F H.size a_this a_p1 a_codes n_p1 x_row x_starts x_image x_readRow x_readStart x_readAt x_readMany x_piece (.ref a_packed) x_pairBefore x_pairLast (.ref a_tokenLength) (.ref a_tokenValue) x_counts x_lengths x_fixed x_ranked x_weight x_weightBefore x_items x_lengthRow x_step x_stepMore x_symbolTree x_distanceTree x_smallTree x_readLengths x_source x_target c_p1 c_codes_28 v_plain v_closed v_rowSize v_pieces v_imageSize v_readSize v_readPieces v_packedBits v_tokens v_steps v_sourceFrom v_sourceBits v_readBits v_wrong v_made v_room 288 32 (r_31, c_codes_30) hc16) (cwV 3 hts (x_gV tw_1044 tw_1046 tw_49 tw_79 tw_1047) rfl rfl rfl (by decide +kernel) ⟨Nat.le_of_ble_eq_true rfl, Nat.le_of_ble_eq_true rfl⟩) (xPV 12 0 rfl rfl hPc hDc hFc hK hI hN hS) rfl rfl hl.1 rfl (lv_room (Nat.le_of_ble_eq_true rfl)) d_M_writeTokens_16 ⟨Nat.le_of_ble_eq_true rfl, Nat.le_of_ble_eq_true rfl⟩) (fun u9 H locs hw hP hD hS => ?_)
  have hw2 : c_codes_30 = u9 := hw.symm
  subst hw2
  replace hP : va_P E.1 vwCl (M_writeTokens_w E a_this a_p1 a_codes a_tokenLength a_tokenValue a_packed n_p1 x_row x_starts x_image x_readRow x_readStart x_readAt x_readMany x_piece x_pairBefore x_pairLast x_counts x_lengths x_fixed x_ranked x_weight x_weightBefore x_items x_lengthRow x_step x_stepMore x_symbolTree x_distanceTree x_smallTree x_readLengths x_source x_target v_tokens c_p1 c_tokenLength c_tokenValue v_packedBits c_codes_30 c_packed v_plain v_closed v_rowSize v_pieces v_imageSize v_readSize v_readPieces v_steps v_sourceFrom v_sourceBits v_readBits v_wrong v_made v_room) H := hP
  replace hD : va_D A (M_writeTokens_w E a_this a_p1 a_codes a_tokenLength a_tokenValue a_packed n_p1 x_row x_starts x_image x_readRow x_readStart x_readAt x_readMany x_piece x_pairBefore x_pairLast x_counts x_lengths x_fixed x_ranked x_weight x_weightBefore x_items x_lengthRow x_step x_stepMore x_symbolTree x_distanceTree x_smallTree x_readLengths x_source x_target v_tokens c_p1 c_tokenLength c_tokenValue v_packedBits c_codes_30 c_packed v_plain v_closed v_rowSize v_pieces v_imageSize v_readSize v_readPieces v_steps v_sourceFrom v_sourceBits v_readBits v_wrong v_made v_room) := hD
  refine lv_iconst (v := 0) hx hb d_M_writeTokens_19 (by decide) ?_
  refine lv_istore_n (lv' := [(2, .int 0), (0, .ref a_this), (1, .ref a_p1)]) hx hb d_M_writeTokens_20 rfl hl (by decide) rfl (fun ls hl => ?_)
  exact h_21 F _ _ _ _ H locs ls hm hP hD hS (lv_sub hl [1, 2, 0] rfl)
theorem d_M_makeFixed_0 : decode b_M_makeFixed 0 = .ok (.iconst 0, 1) := by decide +kernel
theorem d_M_makeFixed_1 : decode b_M_makeFixed 1 = .ok (.istore_n 1, 1) := by decide +kernel
theorem d_M_makeFixed_2 : decode b_M_makeFixed 2 = .ok (.iload_n 1, 1) := by decide +kernel
theorem d_M_makeFixed_3 : decode b_M_makeFixed 3 = .ok (.sipush 320, 3) := by decide +kernel
theorem d_M_makeFixed_6 : decode b_M_makeFixed 6 = .ok (.if_icmp .ge 64, 3) := by decide +kernel
theorem d_M_makeFixed_9 : decode b_M_makeFixed 9 = .ok (.aload_n 0, 1) := by decide +kernel
theorem d_M_makeFixed_10 : decode b_M_makeFixed 10 = .ok (.getfield 58, 3) := by decide +kernel
theorem d_M_makeFixed_13 : decode b_M_makeFixed 13 = .ok (.iload_n 1, 1) := by decide +kernel
theorem d_M_makeFixed_14 : decode b_M_makeFixed 14 = .ok (.iload_n 1, 1) := by decide +kernel
theorem d_M_makeFixed_15 : decode b_M_makeFixed 15 = .ok (.sipush 144, 3) := by decide +kernel
theorem d_M_makeFixed_18 : decode b_M_makeFixed 18 = .ok (.if_icmp .ge 8, 3) := by decide +kernel
theorem d_M_makeFixed_21 : decode b_M_makeFixed 21 = .ok (.bipush 8, 2) := by decide +kernel
theorem d_M_makeFixed_23 : decode b_M_makeFixed 23 = .ok (.goto 40, 3) := by decide +kernel
theorem d_M_makeFixed_26 : decode b_M_makeFixed 26 = .ok (.iload_n 1, 1) := by decide +kernel
theorem d_M_makeFixed_27 : decode b_M_makeFixed 27 = .ok (.sipush 256, 3) := by decide +kernel
theorem d_M_makeFixed_30 : decode b_M_makeFixed 30 = .ok (.if_icmp .ge 8, 3) := by decide +kernel
theorem d_M_makeFixed_33 : decode b_M_makeFixed 33 = .ok (.bipush 9, 2) := by decide +kernel
theorem d_M_makeFixed_35 : decode b_M_makeFixed 35 = .ok (.goto 28, 3) := by decide +kernel
theorem d_M_makeFixed_38 : decode b_M_makeFixed 38 = .ok (.iload_n 1, 1) := by decide +kernel
theorem d_M_makeFixed_39 : decode b_M_makeFixed 39 = .ok (.sipush 280, 3) := by decide +kernel
theorem d_M_makeFixed_42 : decode b_M_makeFixed 42 = .ok (.if_icmp .ge 8, 3) := by decide +kernel
theorem d_M_makeFixed_45 : decode b_M_makeFixed 45 = .ok (.bipush 7, 2) := by decide +kernel
theorem d_M_makeFixed_47 : decode b_M_makeFixed 47 = .ok (.goto 16, 3) := by decide +kernel
theorem d_M_makeFixed_50 : decode b_M_makeFixed 50 = .ok (.iload_n 1, 1) := by decide +kernel
theorem d_M_makeFixed_51 : decode b_M_makeFixed 51 = .ok (.sipush 288, 3) := by decide +kernel
theorem d_M_makeFixed_54 : decode b_M_makeFixed 54 = .ok (.if_icmp .ge 8, 3) := by decide +kernel
theorem d_M_makeFixed_57 : decode b_M_makeFixed 57 = .ok (.bipush 8, 2) := by decide +kernel
theorem d_M_makeFixed_59 : decode b_M_makeFixed 59 = .ok (.goto 4, 3) := by decide +kernel
theorem d_M_makeFixed_62 : decode b_M_makeFixed 62 = .ok (.iconst 5, 1) := by decide +kernel
theorem d_M_makeFixed_63 : decode b_M_makeFixed 63 = .ok (.iastore, 1) := by decide +kernel
theorem d_M_makeFixed_64 : decode b_M_makeFixed 64 = .ok (.iinc 1 1, 3) := by decide +kernel
theorem d_M_makeFixed_67 : decode b_M_makeFixed 67 = .ok (.goto (-65), 3) := by decide +kernel
theorem d_M_makeFixed_70 : decode b_M_makeFixed 70 = .ok (.return_, 1) := by decide +kernel
def M_makeFixed_63 (F : Nat) (k_2 : (Nat → Int32) → Int32 → Option (Unit × (Nat → Int32))) (c_fixed : Nat → Int32) (x1 : Int32) (s1 : Int32) (s2 : Int32) : Option (Unit × (Nat → Int32)) :=
  mG s1 339 (mL (upd c_fixed s1.toNatClampNeg s2) fun c_1 => mL (x1 + 1) fun y1_2 => k_2 c_1 y1_2)
def M_makeFixed_2 (F : Nat) (k_2 : (Nat → Int32) → Int32 → Option (Unit × (Nat → Int32))) (c_fixed : Nat → Int32) (x1 : Int32) : Option (Unit × (Nat → Int32)) :=
  mC (320 ≤ x1) (some ((), c_fixed)) (mC (144 ≤ x1) (mC (256 ≤ x1) (mC (280 ≤ x1) (mC (288 ≤ x1) ((M_makeFixed_63 F k_2) c_fixed x1 x1 5) ((M_makeFixed_63 F k_2) c_fixed x1 x1 8)) ((M_makeFixed_63 F k_2) c_fixed x1 x1 7)) ((M_makeFixed_63 F k_2) c_fixed x1 x1 9)) ((M_makeFixed_63 F k_2) c_fixed x1 x1 8))
abbrev M_makeFixed_w (E : xE) (a_this : Nat) (a_fixed : Nat) (x_row : Value) (x_starts : Value) (x_image : Value) (x_readRow : Value) (x_readStart : Value) (x_readAt : Value) (x_readMany : Value) (x_piece : Value) (x_packed : Value) (x_pairBefore : Value) (x_pairLast : Value) (x_tokenLength : Value) (x_tokenValue : Value) (x_counts : Value) (x_lengths : Value) (x_ranked : Value) (x_weight : Value) (x_weightBefore : Value) (x_items : Value) (x_lengthRow : Value) (x_step : Value) (x_stepMore : Value) (x_codes : Value) (x_symbolTree : Value) (x_distanceTree : Value) (x_smallTree : Value) (x_readLengths : Value) (x_source : Value) (x_target : Value) (c_fixed : Nat → Int32) (v_plain : Int32) (v_closed : Int32) (v_rowSize : Int32) (v_pieces : Int32) (v_imageSize : Int32) (v_readSize : Int32) (v_readPieces : Int32) (v_packedBits : Int32) (v_tokens : Int32) (v_steps : Int32) (v_sourceFrom : Int32) (v_sourceBits : Int32) (v_readBits : Int32) (v_wrong : Int32) (v_made : Int32) (v_room : Int32) : va_W := [(a_this, .inr (12, [.int v_plain, .int v_closed, .int v_rowSize, x_row, .int v_pieces, x_starts, .int v_imageSize, x_image, .int v_readSize, x_readRow, .int v_readPieces, x_readStart, x_readAt, x_readMany, x_piece, x_packed, .int v_packedBits, x_pairBefore, x_pairLast, .int v_tokens, x_tokenLength, x_tokenValue, x_counts, x_lengths, .ref a_fixed, x_ranked, x_weight, x_weightBefore, x_items, x_lengthRow, .int v_steps, x_step, x_stepMore, x_codes, x_symbolTree, x_distanceTree, x_smallTree, x_readLengths, x_source, .int v_sourceFrom, .int v_sourceBits, .int v_readBits, .int v_wrong, x_target, .int v_made, .int v_room])), (a_fixed, .inl (E.2.1, 339, .inl c_fixed))]
def M_makeFixed (F : Nat) (c_fixed : Nat → Int32) : Option (Unit × (Nat → Int32)) :=
  (mW2 (M_makeFixed_2 F) F) c_fixed 0
abbrev M_makeFixed_rm : Room := { frames := 0, cells := 0, slots := 0, locals := 0 }
set_option maxHeartbeats 4000000 in
set_option maxRecDepth 100000 in
theorem c_M_makeFixed (l : Launch) (E : xE) (F sz : Nat) (a_this : Nat) (a_fixed : Nat) (x_row : Value) (x_starts : Value) (x_image : Value) (x_readRow : Value) (x_readStart : Value) (x_readAt : Value) (x_readMany : Value) (x_piece : Value) (x_packed : Value) (x_pairBefore : Value) (x_pairLast : Value) (x_tokenLength : Value) (x_tokenValue : Value) (x_counts : Value) (x_lengths : Value) (x_ranked : Value) (x_weight : Value) (x_weightBefore : Value) (x_items : Value) (x_lengthRow : Value) (x_step : Value) (x_stepMore : Value) (x_codes : Value) (x_symbolTree : Value) (x_distanceTree : Value) (x_smallTree : Value) (x_readLengths : Value) (x_source : Value) (x_target : Value) (c_fixed : Nat → Int32) (v_plain : Int32) (v_closed : Int32) (v_rowSize : Int32) (v_pieces : Int32) (v_imageSize : Int32) (v_readSize : Int32) (v_readPieces : Int32) (v_packedBits : Int32) (v_tokens : Int32) (v_steps : Int32) (v_sourceFrom : Int32) (v_sourceBits : Int32) (v_readBits : Int32) (v_wrong : Int32) (v_made : Int32) (v_room : Int32) (res : Unit × (Nat → Int32)) (hm : M_makeFixed F c_fixed = some res) : Met l y_M_makeFixed (Cond.code y_M_makeFixed b_M_makeFixed 2 none :: x_tb) M_makeFixed_rm (va_Pc [.ref a_this] (xPre E (M_makeFixed_w E a_this a_fixed x_row x_starts x_image x_readRow x_readStart x_readAt x_readMany x_piece x_packed x_pairBefore x_pairLast x_tokenLength x_tokenValue x_counts x_lengths x_ranked x_weight x_weightBefore x_items x_lengthRow x_step x_stepMore x_codes x_symbolTree x_distanceTree x_smallTree x_readLengths x_source x_target c_fixed v_plain v_closed v_rowSize v_pieces v_imageSize v_readSize v_readPieces v_packedBits v_tokens v_steps v_sourceFrom v_sourceBits v_readBits v_wrong v_made v_room) sz)) (xQv E (fun (u : (Nat → Int32)) => u = res.2) (fun (u : (Nat → Int32)) => (M_makeFixed_w E a_this a_fixed x_row x_starts x_image x_readRow x_readStart x_readAt x_readMany x_piece x_packed x_pairBefore x_pairLast x_tokenLength x_tokenValue x_counts x_lengths x_ranked x_weight x_weightBefore x_items x_lengthRow x_step x_stepMore x_codes x_symbolTree x_distanceTree x_smallTree x_readLengths x_source x_target u v_plain v_closed v_rowSize v_pieces v_imageSize v_readSize v_readPieces v_packedBits v_tokens v_steps v_sourceFrom v_sourceBits v_readBits v_wrong v_made v_room)) (va_A (M_makeFixed_w E a_this a_fixed x_row x_starts x_image x_readRow x_readStart x_readAt x_readMany x_piece x_packed x_pairBefore x_pairLast x_tokenLength x_tokenValue x_counts x_lengths x_ranked x_weight x_weightBefore x_items x_lengthRow x_step x_stepMore x_codes x_symbolTree x_distanceTree x_smallTree x_readLengths x_source x_target c_fixed v_plain v_closed v_rowSize v_pieces v_imageSize v_readSize v_readPieces v_packedBits v_tokens v_steps v_sourceFrom v_sourceBits v_readBits v_wrong v_made v_room) sz)) 0 0 (va_A (M_makeFixed_w E a_this a_fixed x_row x_starts x_image x_readRow x_readStart x_readAt x_readMany x_piece x_packed x_pairBefore x_pairLast x_tokenLength x_tokenValue x_counts x_lengths x_ranked x_weight x_weightBefore x_items x_lengthRow x_step x_stepMore x_codes x_symbolTree x_distanceTree x_smallTree x_readLengths x_source x_target c_fixed v_plain v_closed v_rowSize v_pieces v_imageSize v_readSize v_readPieces v_packedBits v_tokens v_steps v_sourceFrom v_sourceBits v_readBits v_wrong v_made v_room) sz) := by
  refine xEnV (by decide) (Nat.le_of_ble_eq_true rfl) ?_
  intro p e s m args below meth c A ls Q hx hb hnm hts hown hml hK hA hI hN hret hP hD hS hl
  replace hown : s.vm.findClass R_M = some m.cls := hown
  replace hl : lv_has ls 2 [(0, .ref a_this)] := hl
  obtain ⟨H, eH⟩ : ∃ z, z = s.heap := ⟨_, rfl⟩
  obtain ⟨locs, eL⟩ : ∃ z : List Loc, z = [] := ⟨_, rfl⟩
  rw [show W p l e M_makeFixed_rm s m args below meth c s.heap [] 0 0 Q (F0 m 0 ls []) = W p l e M_makeFixed_rm s m args below meth c H locs 0 0 Q (F0 m 0 ls []) by rw [eH, eL]]
  replace hP : va_P E.1 vwCl (M_makeFixed_w E a_this a_fixed x_row x_starts x_image x_readRow x_readStart x_readAt x_readMany x_piece x_packed x_pairBefore x_pairLast x_tokenLength x_tokenValue x_counts x_lengths x_ranked x_weight x_weightBefore x_items x_lengthRow x_step x_stepMore x_codes x_symbolTree x_distanceTree x_smallTree x_readLengths x_source x_target c_fixed v_plain v_closed v_rowSize v_pieces v_imageSize v_readSize v_readPieces v_packedBits v_tokens v_steps v_sourceFrom v_sourceBits v_readBits v_wrong v_made v_room) H := by rw [eH]; exact hP
  replace hS : va_S A s.heap H locs := by rw [eH, eL]; exact hS
  clear eH eL
  rw [M_makeFixed] at hm
  have h_2 : ∀ (n_2 : Nat) (c_fixed : Nat → Int32) (x1 : Int32) (H : Heap) (locs : List Loc) (ls : Array Slot), (mW2 (M_makeFixed_2 F) n_2) c_fixed x1 = some res → va_P E.1 vwCl (M_makeFixed_w E a_this a_fixed x_row x_starts x_image x_readRow x_readStart x_readAt x_readMany x_piece x_packed x_pairBefore x_pairLast x_tokenLength x_tokenValue x_counts x_lengths x_ranked x_weight x_weightBefore x_items x_lengthRow x_step x_stepMore x_codes x_symbolTree x_distanceTree x_smallTree x_readLengths x_source x_target c_fixed v_plain v_closed v_rowSize v_pieces v_imageSize v_readSize v_readPieces v_packedBits v_tokens v_steps v_sourceFrom v_sourceBits v_readBits v_wrong v_made v_room) H → va_D A (M_makeFixed_w E a_this a_fixed x_row x_starts x_image x_readRow x_readStart x_readAt x_readMany x_piece x_packed x_pairBefore x_pairLast x_tokenLength x_tokenValue x_counts x_lengths x_ranked x_weight x_weightBefore x_items x_lengthRow x_step x_stepMore x_codes x_symbolTree x_distanceTree x_smallTree x_readLengths x_source x_target c_fixed v_plain v_closed v_rowSize v_pieces v_imageSize v_readSize v_readPieces v_packedBits v_tokens v_steps v_sourceFrom v_sourceBits v_readBits v_wrong v_made v_room) → va_S A s.heap H locs → lv_has ls 2 [(0, .ref a_this), (1, .int x1)] → W p l e M_makeFixed_rm s m args below meth c H locs 0 0 Q (F0 m 2 ls []) := by
    intro n_2
    induction n_2 with
    | zero => exact fun _ _ _ _ _ hm _ _ _ _ => (mW2_z hm).elim
    | succ n_2 ih_2 =>
      intro c_fixed x1 H locs ls hm hP hD hS hl
      replace hm := mW2_s hm
      rw [M_makeFixed_2] at hm
      refine lv_iload_n hx hb d_M_makeFixed_2 rfl (lv_at hl 1 rfl) ?_
      refine lv_sipush (v := 320) hx hb d_M_makeFixed_3 (by decide) ?_
      refine lv_icmp_ge (tgt := 70) hx hb d_M_makeFixed_6 (by decide) (fun c6 => ?_) (fun c6 => ?_)
      · replace hm := mC_t hm c6
        replace hm := Option.some.inj hm
        subst hm
        exact hret d_M_makeFixed_70 (u := c_fixed) rfl hP hD hS
      · replace hm := mC_f hm c6
        have h_63 : ∀ (c_fixed : Nat → Int32) (x1 : Int32) (s1 : Int32) (s2 : Int32) (H : Heap) (locs : List Loc) (ls : Array Slot), (M_makeFixed_63 F (mW2 (M_makeFixed_2 F) n_2)) c_fixed x1 s1 s2 = some res → va_P E.1 vwCl (M_makeFixed_w E a_this a_fixed x_row x_starts x_image x_readRow x_readStart x_readAt x_readMany x_piece x_packed x_pairBefore x_pairLast x_tokenLength x_tokenValue x_counts x_lengths x_ranked x_weight x_weightBefore x_items x_lengthRow x_step x_stepMore x_codes x_symbolTree x_distanceTree x_smallTree x_readLengths x_source x_target c_fixed v_plain v_closed v_rowSize v_pieces v_imageSize v_readSize v_readPieces v_packedBits v_tokens v_steps v_sourceFrom v_sourceBits v_readBits v_wrong v_made v_room) H → va_D A (M_makeFixed_w E a_this a_fixed x_row x_starts x_image x_readRow x_readStart x_readAt x_readMany x_piece x_packed x_pairBefore x_pairLast x_tokenLength x_tokenValue x_counts x_lengths x_ranked x_weight x_weightBefore x_items x_lengthRow x_step x_stepMore x_codes x_symbolTree x_distanceTree x_smallTree x_readLengths x_source x_target c_fixed v_plain v_closed v_rowSize v_pieces v_imageSize v_readSize v_readPieces v_packedBits v_tokens v_steps v_sourceFrom v_sourceBits v_readBits v_wrong v_made v_room) → va_S A s.heap H locs → lv_has ls 2 [(0, .ref a_this), (1, .int x1)] → W p l e M_makeFixed_rm s m args below meth c H locs 0 0 Q (F0 m 63 ls [.int s2, .int s1, .ref a_fixed]) := by
          intro c_fixed x1 s1 s2 H locs ls hm hP hD hS hl
          rw [M_makeFixed_63] at hm
          obtain ⟨hi63, hm⟩ := mG_e hm
          obtain ⟨c_1, ec_1⟩ : ∃ z : Nat → Int32, z = upd c_fixed s1.toNatClampNeg s2 := ⟨_, rfl⟩
          replace hm := mL_e hm c_1 ec_1
          refine va_iast hx hb hK hP hD hS 1 0 rfl rfl hi63 d_M_makeFixed_63 (fun H locs hP hD hS => ?_)
          rw [← ec_1] at hP hD
          replace hP : va_P E.1 vwCl (M_makeFixed_w E a_this a_fixed x_row x_starts x_image x_readRow x_readStart x_readAt x_readMany x_piece x_packed x_pairBefore x_pairLast x_tokenLength x_tokenValue x_counts x_lengths x_ranked x_weight x_weightBefore x_items x_lengthRow x_step x_stepMore x_codes x_symbolTree x_distanceTree x_smallTree x_readLengths x_source x_target c_1 v_plain v_closed v_rowSize v_pieces v_imageSize v_readSize v_readPieces v_packedBits v_tokens v_steps v_sourceFrom v_sourceBits v_readBits v_wrong v_made v_room) H := hP
          replace hD : va_D A (M_makeFixed_w E a_this a_fixed x_row x_starts x_image x_readRow x_readStart x_readAt x_readMany x_piece x_packed x_pairBefore x_pairLast x_tokenLength x_tokenValue x_counts x_lengths x_ranked x_weight x_weightBefore x_items x_lengthRow x_step x_stepMore x_codes x_symbolTree x_distanceTree x_smallTree x_readLengths x_source x_target c_1 v_plain v_closed v_rowSize v_pieces v_imageSize v_readSize v_readPieces v_packedBits v_tokens v_steps v_sourceFrom v_sourceBits v_readBits v_wrong v_made v_room) := hD
          obtain ⟨y1_2, ey1_2⟩ : ∃ y : Int32, y = x1 + 1 := ⟨_, rfl⟩
          replace hm := mL_e hm y1_2 ey1_2
          refine lv_iinc (v := y1_2) (lv' := [(1, .int y1_2), (0, .ref a_this)]) hx hb d_M_makeFixed_64 hl (k := 1) rfl (by rw [ey1_2]; rfl) (by decide) rfl (fun ls hl => ?_)
          refine lv_goto (tgt := 2) hx hb d_M_makeFixed_67 (by decide) ?_
          exact ih_2 _ _ H locs ls hm hP hD hS (lv_sub hl [1, 0] rfl)
        refine lv_aload_n hx hb d_M_makeFixed_9 rfl (lv_at hl 0 rfl) ?_
        refine va_get (D := E.1) (ci := 12) (v := .ref a_fixed) (C := R_M) (T := F_M) (N := 46) hx hb hts i_M hown hK hP 0 rfl rfl 24 (by decide) (hts _ tw_819) (fun _ h9 => h9) rfl d_M_makeFixed_10 ?_
        refine lv_iload_n hx hb d_M_makeFixed_13 rfl (lv_at hl 1 rfl) ?_
        refine lv_iload_n hx hb d_M_makeFixed_14 rfl (lv_at hl 1 rfl) ?_
        refine lv_sipush (v := 144) hx hb d_M_makeFixed_15 (by decide) ?_
        refine lv_icmp_ge (tgt := 26) hx hb d_M_makeFixed_18 (by decide) (fun c18 => ?_) (fun c18 => ?_)
        · replace hm := mC_t hm c18
          refine lv_iload_n hx hb d_M_makeFixed_26 rfl (lv_at hl 1 rfl) ?_
          refine lv_sipush (v := 256) hx hb d_M_makeFixed_27 (by decide) ?_
          refine lv_icmp_ge (tgt := 38) hx hb d_M_makeFixed_30 (by decide) (fun c30 => ?_) (fun c30 => ?_)
          · replace hm := mC_t hm c30
            refine lv_iload_n hx hb d_M_makeFixed_38 rfl (lv_at hl 1 rfl) ?_
            refine lv_sipush (v := 280) hx hb d_M_makeFixed_39 (by decide) ?_
            refine lv_icmp_ge (tgt := 50) hx hb d_M_makeFixed_42 (by decide) (fun c42 => ?_) (fun c42 => ?_)
            · replace hm := mC_t hm c42
              refine lv_iload_n hx hb d_M_makeFixed_50 rfl (lv_at hl 1 rfl) ?_
              refine lv_sipush (v := 288) hx hb d_M_makeFixed_51 (by decide) ?_
              refine lv_icmp_ge (tgt := 62) hx hb d_M_makeFixed_54 (by decide) (fun c54 => ?_) (fun c54 => ?_)
              · replace hm := mC_t hm c54
                refine lv_iconst (v := 5) hx hb d_M_makeFixed_62 (by decide) ?_
                exact h_63 _ _ _ _ H locs ls hm hP hD hS hl
              · replace hm := mC_f hm c54
                refine lv_bipush (v := 8) hx hb d_M_makeFixed_57 (by decide) ?_
                refine lv_goto (tgt := 63) hx hb d_M_makeFixed_59 (by decide) ?_
                exact h_63 _ _ _ _ H locs ls hm hP hD hS hl
            · replace hm := mC_f hm c42
              refine lv_bipush (v := 7) hx hb d_M_makeFixed_45 (by decide) ?_
              refine lv_goto (tgt := 63) hx hb d_M_makeFixed_47 (by decide) ?_
              exact h_63 _ _ _ _ H locs ls hm hP hD hS hl
          · replace hm := mC_f hm c30
            refine lv_bipush (v := 9) hx hb d_M_makeFixed_33 (by decide) ?_
            refine lv_goto (tgt := 63) hx hb d_M_makeFixed_35 (by decide) ?_
            exact h_63 _ _ _ _ H locs ls hm hP hD hS hl
        · replace hm := mC_f hm c18
          refine lv_bipush (v := 8) hx hb d_M_makeFixed_21 (by decide) ?_
          refine lv_goto (tgt := 63) hx hb d_M_makeFixed_23 (by decide) ?_
          exact h_63 _ _ _ _ H locs ls hm hP hD hS hl
  refine lv_iconst (v := 0) hx hb d_M_makeFixed_0 (by decide) ?_
  refine lv_istore_n (lv' := [(1, .int 0), (0, .ref a_this)]) hx hb d_M_makeFixed_1 rfl hl (by decide) rfl (fun ls hl => ?_)
  exact h_2 F _ _ H locs ls hm hP hD hS (lv_sub hl [1, 0] rfl)
