theorem d_M_rank_0 : decode b_M_rank 0 = .ok (.iconst 0, 1) := by decide +kernel
theorem d_M_rank_1 : decode b_M_rank 1 = .ok (.istore_n 3, 1) := by decide +kernel
theorem d_M_rank_2 : decode b_M_rank 2 = .ok (.iconst 0, 1) := by decide +kernel
theorem d_M_rank_3 : decode b_M_rank 3 = .ok (.istore 4, 2) := by decide +kernel
theorem d_M_rank_5 : decode b_M_rank 5 = .ok (.iload 4, 2) := by decide +kernel
theorem d_M_rank_7 : decode b_M_rank 7 = .ok (.iload_n 2, 1) := by decide +kernel
theorem d_M_rank_8 : decode b_M_rank 8 = .ok (.if_icmp .ge 91, 3) := by decide +kernel
theorem d_M_rank_11 : decode b_M_rank 11 = .ok (.aload_n 0, 1) := by decide +kernel
theorem d_M_rank_12 : decode b_M_rank 12 = .ok (.getfield 52, 3) := by decide +kernel
theorem d_M_rank_15 : decode b_M_rank 15 = .ok (.iload_n 1, 1) := by decide +kernel
theorem d_M_rank_16 : decode b_M_rank 16 = .ok (.iload 4, 2) := by decide +kernel
theorem d_M_rank_18 : decode b_M_rank 18 = .ok (.iadd, 1) := by decide +kernel
theorem d_M_rank_19 : decode b_M_rank 19 = .ok (.iaload, 1) := by decide +kernel
theorem d_M_rank_20 : decode b_M_rank 20 = .ok (.ifCond .le 73, 3) := by decide +kernel
theorem d_M_rank_23 : decode b_M_rank 23 = .ok (.iload_n 3, 1) := by decide +kernel
theorem d_M_rank_24 : decode b_M_rank 24 = .ok (.istore 5, 2) := by decide +kernel
theorem d_M_rank_26 : decode b_M_rank 26 = .ok (.iload 5, 2) := by decide +kernel
theorem d_M_rank_28 : decode b_M_rank 28 = .ok (.ifCond .le 53, 3) := by decide +kernel
theorem d_M_rank_31 : decode b_M_rank 31 = .ok (.aload_n 0, 1) := by decide +kernel
theorem d_M_rank_32 : decode b_M_rank 32 = .ok (.getfield 52, 3) := by decide +kernel
theorem d_M_rank_35 : decode b_M_rank 35 = .ok (.iload_n 1, 1) := by decide +kernel
theorem d_M_rank_36 : decode b_M_rank 36 = .ok (.aload_n 0, 1) := by decide +kernel
theorem d_M_rank_37 : decode b_M_rank 37 = .ok (.getfield 61, 3) := by decide +kernel
theorem d_M_rank_40 : decode b_M_rank 40 = .ok (.iload 5, 2) := by decide +kernel
theorem d_M_rank_42 : decode b_M_rank 42 = .ok (.iconst 1, 1) := by decide +kernel
theorem d_M_rank_43 : decode b_M_rank 43 = .ok (.isub, 1) := by decide +kernel
theorem d_M_rank_44 : decode b_M_rank 44 = .ok (.iaload, 1) := by decide +kernel
theorem d_M_rank_45 : decode b_M_rank 45 = .ok (.iadd, 1) := by decide +kernel
theorem d_M_rank_46 : decode b_M_rank 46 = .ok (.iaload, 1) := by decide +kernel
theorem d_M_rank_47 : decode b_M_rank 47 = .ok (.aload_n 0, 1) := by decide +kernel
theorem d_M_rank_48 : decode b_M_rank 48 = .ok (.getfield 52, 3) := by decide +kernel
theorem d_M_rank_51 : decode b_M_rank 51 = .ok (.iload_n 1, 1) := by decide +kernel
theorem d_M_rank_52 : decode b_M_rank 52 = .ok (.iload 4, 2) := by decide +kernel
theorem d_M_rank_54 : decode b_M_rank 54 = .ok (.iadd, 1) := by decide +kernel
theorem d_M_rank_55 : decode b_M_rank 55 = .ok (.iaload, 1) := by decide +kernel
theorem d_M_rank_56 : decode b_M_rank 56 = .ok (.if_icmp .le 25, 3) := by decide +kernel
theorem d_M_rank_59 : decode b_M_rank 59 = .ok (.aload_n 0, 1) := by decide +kernel
theorem d_M_rank_60 : decode b_M_rank 60 = .ok (.getfield 61, 3) := by decide +kernel
theorem d_M_rank_63 : decode b_M_rank 63 = .ok (.iload 5, 2) := by decide +kernel
theorem d_M_rank_65 : decode b_M_rank 65 = .ok (.aload_n 0, 1) := by decide +kernel
theorem d_M_rank_66 : decode b_M_rank 66 = .ok (.getfield 61, 3) := by decide +kernel
theorem d_M_rank_69 : decode b_M_rank 69 = .ok (.iload 5, 2) := by decide +kernel
theorem d_M_rank_71 : decode b_M_rank 71 = .ok (.iconst 1, 1) := by decide +kernel
theorem d_M_rank_72 : decode b_M_rank 72 = .ok (.isub, 1) := by decide +kernel
theorem d_M_rank_73 : decode b_M_rank 73 = .ok (.iaload, 1) := by decide +kernel
theorem d_M_rank_74 : decode b_M_rank 74 = .ok (.iastore, 1) := by decide +kernel
theorem d_M_rank_75 : decode b_M_rank 75 = .ok (.iinc 5 (-1), 3) := by decide +kernel
theorem d_M_rank_78 : decode b_M_rank 78 = .ok (.goto (-52), 3) := by decide +kernel
theorem d_M_rank_81 : decode b_M_rank 81 = .ok (.aload_n 0, 1) := by decide +kernel
theorem d_M_rank_82 : decode b_M_rank 82 = .ok (.getfield 61, 3) := by decide +kernel
theorem d_M_rank_85 : decode b_M_rank 85 = .ok (.iload 5, 2) := by decide +kernel
theorem d_M_rank_87 : decode b_M_rank 87 = .ok (.iload 4, 2) := by decide +kernel
theorem d_M_rank_89 : decode b_M_rank 89 = .ok (.iastore, 1) := by decide +kernel
theorem d_M_rank_90 : decode b_M_rank 90 = .ok (.iinc 3 1, 3) := by decide +kernel
theorem d_M_rank_93 : decode b_M_rank 93 = .ok (.iinc 4 1, 3) := by decide +kernel
theorem d_M_rank_96 : decode b_M_rank 96 = .ok (.goto (-91), 3) := by decide +kernel
theorem d_M_rank_99 : decode b_M_rank 99 = .ok (.iload_n 3, 1) := by decide +kernel
theorem d_M_rank_100 : decode b_M_rank 100 = .ok (.ireturn, 1) := by decide +kernel
def M_rank_93 (F : Nat) (k_5 : (Nat → Int32) → Int32 → Int32 → Option (Int32 × (Nat → Int32))) (c_ranked : Nat → Int32) (x3 : Int32) (x4 : Int32) : Option (Int32 × (Nat → Int32)) :=
  mL (x4 + 1) fun y4_1 => k_5 c_ranked x3 y4_1
def M_rank_81 (F : Nat) (k_5 : (Nat → Int32) → Int32 → Int32 → Option (Int32 × (Nat → Int32))) (c_ranked : Nat → Int32) (x3 : Int32) (x4 : Int32) (x5 : Int32) : Option (Int32 × (Nat → Int32)) :=
  mG x5 288 (mL (upd c_ranked x5.toNatClampNeg x4) fun c_3 => mL (x3 + 1) fun y3_4 => (M_rank_93 F k_5) c_3 y3_4 x4)
def M_rank_26 (F : Nat) (c_counts : Nat → Int32) (x1 : Int32) (k_81 : (Nat → Int32) → Int32 → Int32 → Int32 → Option (Int32 × (Nat → Int32))) (k_26 : (Nat → Int32) → Int32 → Int32 → Int32 → Option (Int32 × (Nat → Int32))) (c_ranked : Nat → Int32) (x3 : Int32) (x4 : Int32) (x5 : Int32) : Option (Int32 × (Nat → Int32)) :=
  mC (x5 ≤ 0) (k_81 c_ranked x3 x4 x5) (mL (x5 - 1) fun i_5 => mG i_5 288 (mL (x1 + (c_ranked i_5.toNatClampNeg)) fun i_6 => mG i_6 339 (mL (x1 + x4) fun i_7 => mG i_7 339 (mC ((c_counts i_6.toNatClampNeg) ≤ (c_counts i_7.toNatClampNeg)) (k_81 c_ranked x3 x4 x5) (mL (x5 - 1) fun i_8 => mG i_8 288 (mL (c_ranked i_8.toNatClampNeg) fun v_9 => mG x5 288 (mL (upd c_ranked x5.toNatClampNeg v_9) fun c_10 => mL (x5 + (-1)) fun y5_11 => k_26 c_10 x3 x4 y5_11)))))))
def M_rank_5 (F : Nat) (c_counts : Nat → Int32) (x1 : Int32) (x2 : Int32) (k_5 : (Nat → Int32) → Int32 → Int32 → Option (Int32 × (Nat → Int32))) (c_ranked : Nat → Int32) (x3 : Int32) (x4 : Int32) : Option (Int32 × (Nat → Int32)) :=
  mC (x2 ≤ x4) (some (x3, c_ranked)) (mL (x1 + x4) fun i_2 => mG i_2 339 (mC ((c_counts i_2.toNatClampNeg) ≤ 0) ((M_rank_93 F k_5) c_ranked x3 x4) ((mW4 (M_rank_26 F c_counts x1 (M_rank_81 F k_5)) F) c_ranked x3 x4 x3)))
abbrev M_rank_w (E : xE) (a_this : Nat) (a_counts : Nat) (a_ranked : Nat) (x_row : Value) (x_starts : Value) (x_image : Value) (x_readRow : Value) (x_readStart : Value) (x_readAt : Value) (x_readMany : Value) (x_piece : Value) (x_packed : Value) (x_pairBefore : Value) (x_pairLast : Value) (x_tokenLength : Value) (x_tokenValue : Value) (x_lengths : Value) (x_fixed : Value) (x_weight : Value) (x_weightBefore : Value) (x_items : Value) (x_lengthRow : Value) (x_step : Value) (x_stepMore : Value) (x_codes : Value) (x_symbolTree : Value) (x_distanceTree : Value) (x_smallTree : Value) (x_readLengths : Value) (x_source : Value) (x_target : Value) (c_counts : Nat → Int32) (c_ranked : Nat → Int32) (v_plain : Int32) (v_closed : Int32) (v_rowSize : Int32) (v_pieces : Int32) (v_imageSize : Int32) (v_readSize : Int32) (v_readPieces : Int32) (v_packedBits : Int32) (v_tokens : Int32) (v_steps : Int32) (v_sourceFrom : Int32) (v_sourceBits : Int32) (v_readBits : Int32) (v_wrong : Int32) (v_made : Int32) (v_room : Int32) : va_W := [(a_this, .inr (12, [.int v_plain, .int v_closed, .int v_rowSize, x_row, .int v_pieces, x_starts, .int v_imageSize, x_image, .int v_readSize, x_readRow, .int v_readPieces, x_readStart, x_readAt, x_readMany, x_piece, x_packed, .int v_packedBits, x_pairBefore, x_pairLast, .int v_tokens, x_tokenLength, x_tokenValue, .ref a_counts, x_lengths, x_fixed, .ref a_ranked, x_weight, x_weightBefore, x_items, x_lengthRow, .int v_steps, x_step, x_stepMore, x_codes, x_symbolTree, x_distanceTree, x_smallTree, x_readLengths, x_source, .int v_sourceFrom, .int v_sourceBits, .int v_readBits, .int v_wrong, x_target, .int v_made, .int v_room])), (a_counts, .inl (E.2.1, 339, .inl c_counts)), (a_ranked, .inl (E.2.1, 288, .inl c_ranked))]
def M_rank (F : Nat) (c_counts : Nat → Int32) (c_ranked : Nat → Int32) (x1 : Int32) (x2 : Int32) : Option (Int32 × (Nat → Int32)) :=
  (mW3 (M_rank_5 F c_counts x1 x2) F) c_ranked 0 0
abbrev M_rank_rm : Room := { frames := 0, cells := 0, slots := 0, locals := 0 }
set_option maxHeartbeats 4000000 in
set_option maxRecDepth 100000 in
theorem c_M_rank (l : Launch) (E : xE) (F sz : Nat) (a_this : Nat) (a_counts : Nat) (a_ranked : Nat) (x_row : Value) (x_starts : Value) (x_image : Value) (x_readRow : Value) (x_readStart : Value) (x_readAt : Value) (x_readMany : Value) (x_piece : Value) (x_packed : Value) (x_pairBefore : Value) (x_pairLast : Value) (x_tokenLength : Value) (x_tokenValue : Value) (x_lengths : Value) (x_fixed : Value) (x_weight : Value) (x_weightBefore : Value) (x_items : Value) (x_lengthRow : Value) (x_step : Value) (x_stepMore : Value) (x_codes : Value) (x_symbolTree : Value) (x_distanceTree : Value) (x_smallTree : Value) (x_readLengths : Value) (x_source : Value) (x_target : Value) (c_counts : Nat → Int32) (c_ranked : Nat → Int32) (v_plain : Int32) (v_closed : Int32) (v_rowSize : Int32) (v_pieces : Int32) (v_imageSize : Int32) (v_readSize : Int32) (v_readPieces : Int32) (v_packedBits : Int32) (v_tokens : Int32) (v_steps : Int32) (v_sourceFrom : Int32) (v_sourceBits : Int32) (v_readBits : Int32) (v_wrong : Int32) (v_made : Int32) (v_room : Int32) (x1 : Int32) (x2 : Int32) (res : Int32 × (Nat → Int32)) (hm : M_rank F c_counts c_ranked x1 x2 = some res) : Met l y_M_rank (Cond.code y_M_rank b_M_rank 6 (some .int) :: x_tb) M_rank_rm (va_Pc [.ref a_this, .int x1, .int x2] (xPre E (M_rank_w E a_this a_counts a_ranked x_row x_starts x_image x_readRow x_readStart x_readAt x_readMany x_piece x_packed x_pairBefore x_pairLast x_tokenLength x_tokenValue x_lengths x_fixed x_weight x_weightBefore x_items x_lengthRow x_step x_stepMore x_codes x_symbolTree x_distanceTree x_smallTree x_readLengths x_source x_target c_counts c_ranked v_plain v_closed v_rowSize v_pieces v_imageSize v_readSize v_readPieces v_packedBits v_tokens v_steps v_sourceFrom v_sourceBits v_readBits v_wrong v_made v_room) sz)) (xQi E (fun (r : Int32) (u : (Nat → Int32)) => r = res.1 ∧ u = res.2) (fun (u : (Nat → Int32)) => (M_rank_w E a_this a_counts a_ranked x_row x_starts x_image x_readRow x_readStart x_readAt x_readMany x_piece x_packed x_pairBefore x_pairLast x_tokenLength x_tokenValue x_lengths x_fixed x_weight x_weightBefore x_items x_lengthRow x_step x_stepMore x_codes x_symbolTree x_distanceTree x_smallTree x_readLengths x_source x_target c_counts u v_plain v_closed v_rowSize v_pieces v_imageSize v_readSize v_readPieces v_packedBits v_tokens v_steps v_sourceFrom v_sourceBits v_readBits v_wrong v_made v_room)) (va_A (M_rank_w E a_this a_counts a_ranked x_row x_starts x_image x_readRow x_readStart x_readAt x_readMany x_piece x_packed x_pairBefore x_pairLast x_tokenLength x_tokenValue x_lengths x_fixed x_weight x_weightBefore x_items x_lengthRow x_step x_stepMore x_codes x_symbolTree x_distanceTree x_smallTree x_readLengths x_source x_target c_counts c_ranked v_plain v_closed v_rowSize v_pieces v_imageSize v_readSize v_readPieces v_packedBits v_tokens v_steps v_sourceFrom v_sourceBits v_readBits v_wrong v_made v_room) sz)) 0 0 (va_A (M_rank_w E a_this a_counts a_ranked x_row x_starts x_image x_readRow x_readStart x_readAt x_readMany x_piece x_packed x_pairBefore x_pairLast x_tokenLength x_tokenValue x_lengths x_fixed x_weight x_weightBefore x_items x_lengthRow x_step x_stepMore x_codes x_symbolTree x_distanceTree x_smallTree x_readLengths x_source x_target c_counts c_ranked v_plain v_closed v_rowSize v_pieces v_imageSize v_readSize v_readPieces v_packedBits v_tokens v_steps v_sourceFrom v_sourceBits v_readBits v_wrong v_made v_room) sz) := by
  refine xEnI (by decide) (Nat.le_of_ble_eq_true rfl) ?_
  intro p e s m args below meth c A ls Q hx hb hnm hts hown hml hK hA hI hN hret hP hD hS hl
  replace hown : s.vm.findClass R_M = some m.cls := hown
  replace hl : lv_has ls 6 [(0, .ref a_this), (1, .int x1), (2, .int x2)] := hl
  obtain ⟨H, eH⟩ : ∃ z, z = s.heap := ⟨_, rfl⟩
  obtain ⟨locs, eL⟩ : ∃ z : List Loc, z = [] := ⟨_, rfl⟩
  rw [show W p l e M_rank_rm s m args below meth c s.heap [] 0 0 Q (F0 m 0 ls []) = W p l e M_rank_rm s m args below meth c H locs 0 0 Q (F0 m 0 ls []) by rw [eH, eL]]
  replace hP : va_P E.1 vwCl (M_rank_w E a_this a_counts a_ranked x_row x_starts x_image x_readRow x_readStart x_readAt x_readMany x_piece x_packed x_pairBefore x_pairLast x_tokenLength x_tokenValue x_lengths x_fixed x_weight x_weightBefore x_items x_lengthRow x_step x_stepMore x_codes x_symbolTree x_distanceTree x_smallTree x_readLengths x_source x_target c_counts c_ranked v_plain v_closed v_rowSize v_pieces v_imageSize v_readSize v_readPieces v_packedBits v_tokens v_steps v_sourceFrom v_sourceBits v_readBits v_wrong v_made v_room) H := by rw [eH]; exact hP
  replace hS : va_S A s.heap H locs := by rw [eH, eL]; exact hS
  clear eH eL
  rw [M_rank] at hm
  have h_5 : ∀ (n_5 : Nat) (c_ranked : Nat → Int32) (x3 : Int32) (x4 : Int32) (H : Heap) (locs : List Loc) (ls : Array Slot), (mW3 (M_rank_5 F c_counts x1 x2) n_5) c_ranked x3 x4 = some res → va_P E.1 vwCl (M_rank_w E a_this a_counts a_ranked x_row x_starts x_image x_readRow x_readStart x_readAt x_readMany x_piece x_packed x_pairBefore x_pairLast x_tokenLength x_tokenValue x_lengths x_fixed x_weight x_weightBefore x_items x_lengthRow x_step x_stepMore x_codes x_symbolTree x_distanceTree x_smallTree x_readLengths x_source x_target c_counts c_ranked v_plain v_closed v_rowSize v_pieces v_imageSize v_readSize v_readPieces v_packedBits v_tokens v_steps v_sourceFrom v_sourceBits v_readBits v_wrong v_made v_room) H → va_D A (M_rank_w E a_this a_counts a_ranked x_row x_starts x_image x_readRow x_readStart x_readAt x_readMany x_piece x_packed x_pairBefore x_pairLast x_tokenLength x_tokenValue x_lengths x_fixed x_weight x_weightBefore x_items x_lengthRow x_step x_stepMore x_codes x_symbolTree x_distanceTree x_smallTree x_readLengths x_source x_target c_counts c_ranked v_plain v_closed v_rowSize v_pieces v_imageSize v_readSize v_readPieces v_packedBits v_tokens v_steps v_sourceFrom v_sourceBits v_readBits v_wrong v_made v_room) → va_S A s.heap H locs → lv_has ls 6 [(0, .ref a_this), (1, .int x1), (2, .int x2), (3, .int x3), (4, .int x4)] → W p l e M_rank_rm s m args below meth c H locs 0 0 Q (F0 m 5 ls []) := by
    intro n_5
    induction n_5 with
    | zero => exact fun _ _ _ _ _ _ hm _ _ _ _ => (mW3_z hm).elim
    | succ n_5 ih_5 =>
      intro c_ranked x3 x4 H locs ls hm hP hD hS hl
      replace hm := mW3_s hm
      rw [M_rank_5] at hm
      refine lv_iload hx hb d_M_rank_5 (lv_at hl 4 rfl) ?_
      refine lv_iload_n hx hb d_M_rank_7 rfl (lv_at hl 2 rfl) ?_
      refine lv_icmp_ge (tgt := 99) hx hb d_M_rank_8 (by decide) (fun c8 => ?_) (fun c8 => ?_)
      · replace hm := mC_t hm c8
        refine lv_iload_n hx hb d_M_rank_99 rfl (lv_at hl 3 rfl) ?_
        replace hm := Option.some.inj hm
        subst hm
        exact hret d_M_rank_100 (u := c_ranked) ⟨rfl, rfl⟩ hP hD hS
      · replace hm := mC_f hm c8
        have h_93 : ∀ (c_ranked : Nat → Int32) (x3 : Int32) (x4 : Int32) (H : Heap) (locs : List Loc) (ls : Array Slot), (M_rank_93 F (mW3 (M_rank_5 F c_counts x1 x2) n_5)) c_ranked x3 x4 = some res → va_P E.1 vwCl (M_rank_w E a_this a_counts a_ranked x_row x_starts x_image x_readRow x_readStart x_readAt x_readMany x_piece x_packed x_pairBefore x_pairLast x_tokenLength x_tokenValue x_lengths x_fixed x_weight x_weightBefore x_items x_lengthRow x_step x_stepMore x_codes x_symbolTree x_distanceTree x_smallTree x_readLengths x_source x_target c_counts c_ranked v_plain v_closed v_rowSize v_pieces v_imageSize v_readSize v_readPieces v_packedBits v_tokens v_steps v_sourceFrom v_sourceBits v_readBits v_wrong v_made v_room) H → va_D A (M_rank_w E a_this a_counts a_ranked x_row x_starts x_image x_readRow x_readStart x_readAt x_readMany x_piece x_packed x_pairBefore x_pairLast x_tokenLength x_tokenValue x_lengths x_fixed x_weight x_weightBefore x_items x_lengthRow x_step x_stepMore x_codes x_symbolTree x_distanceTree x_smallTree x_readLengths x_source x_target c_counts c_ranked v_plain v_closed v_rowSize v_pieces v_imageSize v_readSize v_readPieces v_packedBits v_tokens v_steps v_sourceFrom v_sourceBits v_readBits v_wrong v_made v_room) → va_S A s.heap H locs → lv_has ls 6 [(0, .ref a_this), (1, .int x1), (2, .int x2), (3, .int x3), (4, .int x4)] → W p l e M_rank_rm s m args below meth c H locs 0 0 Q (F0 m 93 ls []) := by
          intro c_ranked x3 x4 H locs ls hm hP hD hS hl
          rw [M_rank_93] at hm
          obtain ⟨y4_1, ey4_1⟩ : ∃ y : Int32, y = x4 + 1 := ⟨_, rfl⟩
          replace hm := mL_e hm y4_1 ey4_1
          refine lv_iinc (v := y4_1) (lv' := [(4, .int y4_1), (0, .ref a_this), (1, .int x1), (2, .int x2), (3, .int x3)]) hx hb d_M_rank_93 hl (k := 4) rfl (by rw [ey4_1]; rfl) (by decide) rfl (fun ls hl => ?_)
          refine lv_goto (tgt := 5) hx hb d_M_rank_96 (by decide) ?_
          exact ih_5 _ _ _ H locs ls hm hP hD hS (lv_sub hl [1, 2, 3, 4, 0] rfl)
        refine lv_aload_n hx hb d_M_rank_11 rfl (lv_at hl 0 rfl) ?_
        refine va_get (D := E.1) (ci := 12) (v := .ref a_counts) (C := R_M) (T := F_M) (N := 46) hx hb hts i_M hown hK hP 0 rfl rfl 22 (by decide) (hts _ tw_817) (fun _ h9 => h9) rfl d_M_rank_12 ?_
        refine lv_iload_n hx hb d_M_rank_15 rfl (lv_at hl 1 rfl) ?_
        refine lv_iload hx hb d_M_rank_16 (lv_at hl 4 rfl) ?_
        refine lv_iadd hx hb d_M_rank_18 ?_
        refine lv_topi (fun i_2 ei_2 => ?_)
        replace hm := mL_e hm i_2 ei_2
        obtain ⟨hi19, hm⟩ := mG_e hm
        refine va_iald hx hb hK hP 1 0 rfl rfl hi19 d_M_rank_19 ?_
        refine lv_if_le (tgt := 93) hx hb d_M_rank_20 (by decide) (fun c20 => ?_) (fun c20 => ?_)
        · replace hm := mC_t hm c20
          exact h_93 _ _ _ H locs ls hm hP hD hS hl
        · replace hm := mC_f hm c20
          have h_81 : ∀ (c_ranked : Nat → Int32) (x3 : Int32) (x4 : Int32) (x5 : Int32) (H : Heap) (locs : List Loc) (ls : Array Slot), (M_rank_81 F (mW3 (M_rank_5 F c_counts x1 x2) n_5)) c_ranked x3 x4 x5 = some res → va_P E.1 vwCl (M_rank_w E a_this a_counts a_ranked x_row x_starts x_image x_readRow x_readStart x_readAt x_readMany x_piece x_packed x_pairBefore x_pairLast x_tokenLength x_tokenValue x_lengths x_fixed x_weight x_weightBefore x_items x_lengthRow x_step x_stepMore x_codes x_symbolTree x_distanceTree x_smallTree x_readLengths x_source x_target c_counts c_ranked v_plain v_closed v_rowSize v_pieces v_imageSize v_readSize v_readPieces v_packedBits v_tokens v_steps v_sourceFrom v_sourceBits v_readBits v_wrong v_made v_room) H → va_D A (M_rank_w E a_this a_counts a_ranked x_row x_starts x_image x_readRow x_readStart x_readAt x_readMany x_piece x_packed x_pairBefore x_pairLast x_tokenLength x_tokenValue x_lengths x_fixed x_weight x_weightBefore x_items x_lengthRow x_step x_stepMore x_codes x_symbolTree x_distanceTree x_smallTree x_readLengths x_source x_target c_counts c_ranked v_plain v_closed v_rowSize v_pieces v_imageSize v_readSize v_readPieces v_packedBits v_tokens v_steps v_sourceFrom v_sourceBits v_readBits v_wrong v_made v_room) → va_S A s.heap H locs → lv_has ls 6 [(0, .ref a_this), (1, .int x1), (2, .int x2), (3, .int x3), (4, .int x4), (5, .int x5)] → W p l e M_rank_rm s m args below meth c H locs 0 0 Q (F0 m 81 ls []) := by
            intro c_ranked x3 x4 x5 H locs ls hm hP hD hS hl
            rw [M_rank_81] at hm
            refine lv_aload_n hx hb d_M_rank_81 rfl (lv_at hl 0 rfl) ?_
            refine va_get (D := E.1) (ci := 12) (v := .ref a_ranked) (C := R_M) (T := F_M) (N := 46) hx hb hts i_M hown hK hP 0 rfl rfl 25 (by decide) (hts _ tw_820) (fun _ h9 => h9) rfl d_M_rank_82 ?_
            refine lv_iload hx hb d_M_rank_85 (lv_at hl 5 rfl) ?_
            refine lv_iload hx hb d_M_rank_87 (lv_at hl 4 rfl) ?_
            obtain ⟨hi89, hm⟩ := mG_e hm
            obtain ⟨c_3, ec_3⟩ : ∃ z : Nat → Int32, z = upd c_ranked x5.toNatClampNeg x4 := ⟨_, rfl⟩
            replace hm := mL_e hm c_3 ec_3
            refine va_iast hx hb hK hP hD hS 2 0 rfl rfl hi89 d_M_rank_89 (fun H locs hP hD hS => ?_)
            rw [← ec_3] at hP hD
            replace hP : va_P E.1 vwCl (M_rank_w E a_this a_counts a_ranked x_row x_starts x_image x_readRow x_readStart x_readAt x_readMany x_piece x_packed x_pairBefore x_pairLast x_tokenLength x_tokenValue x_lengths x_fixed x_weight x_weightBefore x_items x_lengthRow x_step x_stepMore x_codes x_symbolTree x_distanceTree x_smallTree x_readLengths x_source x_target c_counts c_3 v_plain v_closed v_rowSize v_pieces v_imageSize v_readSize v_readPieces v_packedBits v_tokens v_steps v_sourceFrom v_sourceBits v_readBits v_wrong v_made v_room) H := hP
            replace hD : va_D A (M_rank_w E a_this a_counts a_ranked x_row x_starts x_image x_readRow x_readStart x_readAt x_readMany x_piece x_packed x_pairBefore x_pairLast x_tokenLength x_tokenValue x_lengths x_fixed x_weight x_weightBefore x_items x_lengthRow x_step x_stepMore x_codes x_symbolTree x_distanceTree x_smallTree x_readLengths x_source x_target c_counts c_3 v_plain v_closed v_rowSize v_pieces v_imageSize v_readSize v_readPieces v_packedBits v_tokens v_steps v_sourceFrom v_sourceBits v_readBits v_wrong v_made v_room) := hD
            obtain ⟨y3_4, ey3_4⟩ : ∃ y : Int32, y = x3 + 1 := ⟨_, rfl⟩
            replace hm := mL_e hm y3_4 ey3_4
            refine lv_iinc (v := y3_4) (lv' := [(3, .int y3_4), (0, .ref a_this), (1, .int x1), (2, .int x2), (4, .int x4), (5, .int x5)]) hx hb d_M_rank_90 hl (k := 3) rfl (by rw [ey3_4]; rfl) (by decide) rfl (fun ls hl => ?_)
            exact h_93 _ _ _ H locs ls hm hP hD hS (lv_sub hl [1, 2, 3, 0, 4] rfl)
          have h_26 : ∀ (n_26 : Nat) (c_ranked : Nat → Int32) (x3 : Int32) (x4 : Int32) (x5 : Int32) (H : Heap) (locs : List Loc) (ls : Array Slot), (mW4 (M_rank_26 F c_counts x1 (M_rank_81 F (mW3 (M_rank_5 F c_counts x1 x2) n_5))) n_26) c_ranked x3 x4 x5 = some res → va_P E.1 vwCl (M_rank_w E a_this a_counts a_ranked x_row x_starts x_image x_readRow x_readStart x_readAt x_readMany x_piece x_packed x_pairBefore x_pairLast x_tokenLength x_tokenValue x_lengths x_fixed x_weight x_weightBefore x_items x_lengthRow x_step x_stepMore x_codes x_symbolTree x_distanceTree x_smallTree x_readLengths x_source x_target c_counts c_ranked v_plain v_closed v_rowSize v_pieces v_imageSize v_readSize v_readPieces v_packedBits v_tokens v_steps v_sourceFrom v_sourceBits v_readBits v_wrong v_made v_room) H → va_D A (M_rank_w E a_this a_counts a_ranked x_row x_starts x_image x_readRow x_readStart x_readAt x_readMany x_piece x_packed x_pairBefore x_pairLast x_tokenLength x_tokenValue x_lengths x_fixed x_weight x_weightBefore x_items x_lengthRow x_step x_stepMore x_codes x_symbolTree x_distanceTree x_smallTree x_readLengths x_source x_target c_counts c_ranked v_plain v_closed v_rowSize v_pieces v_imageSize v_readSize v_readPieces v_packedBits v_tokens v_steps v_sourceFrom v_sourceBits v_readBits v_wrong v_made v_room) → va_S A s.heap H locs → lv_has ls 6 [(0, .ref a_this), (1, .int x1), (2, .int x2), (3, .int x3), (4, .int x4), (5, .int x5)] → W p l e M_rank_rm s m args below meth c H locs 0 0 Q (F0 m 26 ls []) := by
            intro n_26
            induction n_26 with
            | zero => exact fun _ _ _ _ _ _ _ hm _ _ _ _ => (mW4_z hm).elim
            | succ n_26 ih_26 =>
              intro c_ranked x3 x4 x5 H locs ls hm hP hD hS hl
              replace hm := mW4_s hm
              rw [M_rank_26] at hm
              refine lv_iload hx hb d_M_rank_26 (lv_at hl 5 rfl) ?_
              refine lv_if_le (tgt := 81) hx hb d_M_rank_28 (by decide) (fun c28 => ?_) (fun c28 => ?_)
              · replace hm := mC_t hm c28
                exact h_81 _ _ _ _ H locs ls hm hP hD hS hl
              · replace hm := mC_f hm c28
                refine lv_aload_n hx hb d_M_rank_31 rfl (lv_at hl 0 rfl) ?_
                refine va_get (D := E.1) (ci := 12) (v := .ref a_counts) (C := R_M) (T := F_M) (N := 46) hx hb hts i_M hown hK hP 0 rfl rfl 22 (by decide) (hts _ tw_817) (fun _ h9 => h9) rfl d_M_rank_32 ?_
                refine lv_iload_n hx hb d_M_rank_35 rfl (lv_at hl 1 rfl) ?_
                refine lv_aload_n hx hb d_M_rank_36 rfl (lv_at hl 0 rfl) ?_
                refine va_get (D := E.1) (ci := 12) (v := .ref a_ranked) (C := R_M) (T := F_M) (N := 46) hx hb hts i_M hown hK hP 0 rfl rfl 25 (by decide) (hts _ tw_820) (fun _ h9 => h9) rfl d_M_rank_37 ?_
                refine lv_iload hx hb d_M_rank_40 (lv_at hl 5 rfl) ?_
                refine lv_iconst (v := 1) hx hb d_M_rank_42 (by decide) ?_
                refine lv_isub hx hb d_M_rank_43 ?_
                refine lv_topi (fun i_5 ei_5 => ?_)
                replace hm := mL_e hm i_5 ei_5
                obtain ⟨hi44, hm⟩ := mG_e hm
                refine va_iald hx hb hK hP 2 0 rfl rfl hi44 d_M_rank_44 ?_
                refine lv_iadd hx hb d_M_rank_45 ?_
                refine lv_topi (fun i_6 ei_6 => ?_)
                replace hm := mL_e hm i_6 ei_6
                obtain ⟨hi46, hm⟩ := mG_e hm
                refine va_iald hx hb hK hP 1 0 rfl rfl hi46 d_M_rank_46 ?_
                refine lv_aload_n hx hb d_M_rank_47 rfl (lv_at hl 0 rfl) ?_
                refine va_get (D := E.1) (ci := 12) (v := .ref a_counts) (C := R_M) (T := F_M) (N := 46) hx hb hts i_M hown hK hP 0 rfl rfl 22 (by decide) (hts _ tw_817) (fun _ h9 => h9) rfl d_M_rank_48 ?_
                refine lv_iload_n hx hb d_M_rank_51 rfl (lv_at hl 1 rfl) ?_
                refine lv_iload hx hb d_M_rank_52 (lv_at hl 4 rfl) ?_
                refine lv_iadd hx hb d_M_rank_54 ?_
                refine lv_topi (fun i_7 ei_7 => ?_)
                replace hm := mL_e hm i_7 ei_7
                obtain ⟨hi55, hm⟩ := mG_e hm
                refine va_iald hx hb hK hP 1 0 rfl rfl hi55 d_M_rank_55 ?_
                refine lv_icmp_le (tgt := 81) hx hb d_M_rank_56 (by decide) (fun c56 => ?_) (fun c56 => ?_)
                · replace hm := mC_t hm c56
                  exact h_81 _ _ _ _ H locs ls hm hP hD hS hl
                · replace hm := mC_f hm c56
                  refine lv_aload_n hx hb d_M_rank_59 rfl (lv_at hl 0 rfl) ?_
                  refine va_get (D := E.1) (ci := 12) (v := .ref a_ranked) (C := R_M) (T := F_M) (N := 46) hx hb hts i_M hown hK hP 0 rfl rfl 25 (by decide) (hts _ tw_820) (fun _ h9 => h9) rfl d_M_rank_60 ?_
                  refine lv_iload hx hb d_M_rank_63 (lv_at hl 5 rfl) ?_
                  refine lv_aload_n hx hb d_M_rank_65 rfl (lv_at hl 0 rfl) ?_
                  refine va_get (D := E.1) (ci := 12) (v := .ref a_ranked) (C := R_M) (T := F_M) (N := 46) hx hb hts i_M hown hK hP 0 rfl rfl 25 (by decide) (hts _ tw_820) (fun _ h9 => h9) rfl d_M_rank_66 ?_
                  refine lv_iload hx hb d_M_rank_69 (lv_at hl 5 rfl) ?_
                  refine lv_iconst (v := 1) hx hb d_M_rank_71 (by decide) ?_
                  refine lv_isub hx hb d_M_rank_72 ?_
                  refine lv_topi (fun i_8 ei_8 => ?_)
                  replace hm := mL_e hm i_8 ei_8
                  obtain ⟨hi73, hm⟩ := mG_e hm
                  refine va_iald hx hb hK hP 2 0 rfl rfl hi73 d_M_rank_73 ?_
                  refine lv_topi (fun v_9 ev_9 => ?_)
                  replace hm := mL_e hm v_9 ev_9
                  obtain ⟨hi74, hm⟩ := mG_e hm
                  obtain ⟨c_10, ec_10⟩ : ∃ z : Nat → Int32, z = upd c_ranked x5.toNatClampNeg v_9 := ⟨_, rfl⟩
                  replace hm := mL_e hm c_10 ec_10
                  refine va_iast hx hb hK hP hD hS 2 0 rfl rfl hi74 d_M_rank_74 (fun H locs hP hD hS => ?_)
                  rw [← ec_10] at hP hD
                  replace hP : va_P E.1 vwCl (M_rank_w E a_this a_counts a_ranked x_row x_starts x_image x_readRow x_readStart x_readAt x_readMany x_piece x_packed x_pairBefore x_pairLast x_tokenLength x_tokenValue x_lengths x_fixed x_weight x_weightBefore x_items x_lengthRow x_step x_stepMore x_codes x_symbolTree x_distanceTree x_smallTree x_readLengths x_source x_target c_counts c_10 v_plain v_closed v_rowSize v_pieces v_imageSize v_readSize v_readPieces v_packedBits v_tokens v_steps v_sourceFrom v_sourceBits v_readBits v_wrong v_made v_room) H := hP
                  replace hD : va_D A (M_rank_w E a_this a_counts a_ranked x_row x_starts x_image x_readRow x_readStart x_readAt x_readMany x_piece x_packed x_pairBefore x_pairLast x_tokenLength x_tokenValue x_lengths x_fixed x_weight x_weightBefore x_items x_lengthRow x_step x_stepMore x_codes x_symbolTree x_distanceTree x_smallTree x_readLengths x_source x_target c_counts c_10 v_plain v_closed v_rowSize v_pieces v_imageSize v_readSize v_readPieces v_packedBits v_tokens v_steps v_sourceFrom v_sourceBits v_readBits v_wrong v_made v_room) := hD
                  obtain ⟨y5_11, ey5_11⟩ : ∃ y : Int32, y = x5 + (-1) := ⟨_, rfl⟩
                  replace hm := mL_e hm y5_11 ey5_11
                  refine lv_iinc (v := y5_11) (lv' := [(5, .int y5_11), (0, .ref a_this), (1, .int x1), (2, .int x2), (3, .int x3), (4, .int x4)]) hx hb d_M_rank_75 hl (k := 5) rfl (by rw [ey5_11]; rfl) (by decide) rfl (fun ls hl => ?_)
                  refine lv_goto (tgt := 26) hx hb d_M_rank_78 (by decide) ?_
                  exact ih_26 _ _ _ _ H locs ls hm hP hD hS (lv_sub hl [1, 2, 3, 4, 5, 0] rfl)
          refine lv_iload_n hx hb d_M_rank_23 rfl (lv_at hl 3 rfl) ?_
          refine lv_istore (lv' := [(5, .int x3), (0, .ref a_this), (1, .int x1), (2, .int x2), (3, .int x3), (4, .int x4)]) hx hb d_M_rank_24 hl (by decide) rfl (fun ls hl => ?_)
          exact h_26 F _ _ _ _ H locs ls hm hP hD hS (lv_sub hl [1, 2, 3, 4, 5, 0] rfl)
  refine lv_iconst (v := 0) hx hb d_M_rank_0 (by decide) ?_
  refine lv_istore_n (lv' := [(3, .int 0), (0, .ref a_this), (1, .int x1), (2, .int x2)]) hx hb d_M_rank_1 rfl hl (by decide) rfl (fun ls hl => ?_)
  refine lv_iconst (v := 0) hx hb d_M_rank_2 (by decide) ?_
  refine lv_istore (lv' := [(4, .int 0), (3, .int 0), (0, .ref a_this), (1, .int x1), (2, .int x2)]) hx hb d_M_rank_3 hl (by decide) rfl (fun ls hl => ?_)
  exact h_5 F _ _ _ H locs ls hm hP hD hS (lv_sub hl [2, 3, 4, 1, 0] rfl)
theorem d_M_takeItem_0 : decode b_M_takeItem 0 = .ok (.aload_n 0, 1) := by decide +kernel
theorem d_M_takeItem_1 : decode b_M_takeItem 1 = .ok (.getfield 70, 3) := by decide +kernel
theorem d_M_takeItem_4 : decode b_M_takeItem 4 = .ok (.sipush 600, 3) := by decide +kernel
theorem d_M_takeItem_7 : decode b_M_takeItem 7 = .ok (.iload_n 2, 1) := by decide +kernel
theorem d_M_takeItem_8 : decode b_M_takeItem 8 = .ok (.imul, 1) := by decide +kernel
theorem d_M_takeItem_9 : decode b_M_takeItem 9 = .ok (.iload_n 3, 1) := by decide +kernel
theorem d_M_takeItem_10 : decode b_M_takeItem 10 = .ok (.iadd, 1) := by decide +kernel
theorem d_M_takeItem_11 : decode b_M_takeItem 11 = .ok (.iaload, 1) := by decide +kernel
theorem d_M_takeItem_12 : decode b_M_takeItem 12 = .ok (.istore 4, 2) := by decide +kernel
theorem d_M_takeItem_14 : decode b_M_takeItem 14 = .ok (.iload 4, 2) := by decide +kernel
theorem d_M_takeItem_16 : decode b_M_takeItem 16 = .ok (.ifCond .lt 24, 3) := by decide +kernel
theorem d_M_takeItem_19 : decode b_M_takeItem 19 = .ok (.aload_n 0, 1) := by decide +kernel
theorem d_M_takeItem_20 : decode b_M_takeItem 20 = .ok (.getfield 55, 3) := by decide +kernel
theorem d_M_takeItem_23 : decode b_M_takeItem 23 = .ok (.iload_n 1, 1) := by decide +kernel
theorem d_M_takeItem_24 : decode b_M_takeItem 24 = .ok (.aload_n 0, 1) := by decide +kernel
theorem d_M_takeItem_25 : decode b_M_takeItem 25 = .ok (.getfield 61, 3) := by decide +kernel
theorem d_M_takeItem_28 : decode b_M_takeItem 28 = .ok (.iload 4, 2) := by decide +kernel
theorem d_M_takeItem_30 : decode b_M_takeItem 30 = .ok (.iaload, 1) := by decide +kernel
theorem d_M_takeItem_31 : decode b_M_takeItem 31 = .ok (.iadd, 1) := by decide +kernel
theorem d_M_takeItem_32 : decode b_M_takeItem 32 = .ok (.dup2, 1) := by decide +kernel
theorem d_M_takeItem_33 : decode b_M_takeItem 33 = .ok (.iaload, 1) := by decide +kernel
theorem d_M_takeItem_34 : decode b_M_takeItem 34 = .ok (.iconst 1, 1) := by decide +kernel
theorem d_M_takeItem_35 : decode b_M_takeItem 35 = .ok (.iadd, 1) := by decide +kernel
theorem d_M_takeItem_36 : decode b_M_takeItem 36 = .ok (.iastore, 1) := by decide +kernel
theorem d_M_takeItem_37 : decode b_M_takeItem 37 = .ok (.goto 26, 3) := by decide +kernel
theorem d_M_takeItem_40 : decode b_M_takeItem 40 = .ok (.aload_n 0, 1) := by decide +kernel
theorem d_M_takeItem_41 : decode b_M_takeItem 41 = .ok (.iload_n 1, 1) := by decide +kernel
theorem d_M_takeItem_42 : decode b_M_takeItem 42 = .ok (.iload_n 2, 1) := by decide +kernel
theorem d_M_takeItem_43 : decode b_M_takeItem 43 = .ok (.iconst 1, 1) := by decide +kernel
theorem d_M_takeItem_44 : decode b_M_takeItem 44 = .ok (.isub, 1) := by decide +kernel
theorem d_M_takeItem_45 : decode b_M_takeItem 45 = .ok (.iconst (-1), 1) := by decide +kernel
theorem d_M_takeItem_46 : decode b_M_takeItem 46 = .ok (.iload 4, 2) := by decide +kernel
theorem d_M_takeItem_48 : decode b_M_takeItem 48 = .ok (.isub, 1) := by decide +kernel
theorem d_M_takeItem_49 : decode b_M_takeItem 49 = .ok (.invokevirtual 140, 3) := by decide +kernel
theorem d_M_takeItem_52 : decode b_M_takeItem 52 = .ok (.aload_n 0, 1) := by decide +kernel
theorem d_M_takeItem_53 : decode b_M_takeItem 53 = .ok (.iload_n 1, 1) := by decide +kernel
theorem d_M_takeItem_54 : decode b_M_takeItem 54 = .ok (.iload_n 2, 1) := by decide +kernel
theorem d_M_takeItem_55 : decode b_M_takeItem 55 = .ok (.iconst 1, 1) := by decide +kernel
theorem d_M_takeItem_56 : decode b_M_takeItem 56 = .ok (.isub, 1) := by decide +kernel
theorem d_M_takeItem_57 : decode b_M_takeItem 57 = .ok (.iload 4, 2) := by decide +kernel
theorem d_M_takeItem_59 : decode b_M_takeItem 59 = .ok (.ineg, 1) := by decide +kernel
theorem d_M_takeItem_60 : decode b_M_takeItem 60 = .ok (.invokevirtual 140, 3) := by decide +kernel
theorem d_M_takeItem_63 : decode b_M_takeItem 63 = .ok (.return_, 1) := by decide +kernel
abbrev M_takeItem_w (E : xE) (a_this : Nat) (a_items : Nat) (a_ranked : Nat) (a_lengths : Nat) (x_row : Value) (x_starts : Value) (x_image : Value) (x_readRow : Value) (x_readStart : Value) (x_readAt : Value) (x_readMany : Value) (x_piece : Value) (x_packed : Value) (x_pairBefore : Value) (x_pairLast : Value) (x_tokenLength : Value) (x_tokenValue : Value) (x_counts : Value) (x_fixed : Value) (x_weight : Value) (x_weightBefore : Value) (x_lengthRow : Value) (x_step : Value) (x_stepMore : Value) (x_codes : Value) (x_symbolTree : Value) (x_distanceTree : Value) (x_smallTree : Value) (x_readLengths : Value) (x_source : Value) (x_target : Value) (c_items : Nat → Int32) (c_ranked : Nat → Int32) (c_lengths : Nat → Int32) (v_plain : Int32) (v_closed : Int32) (v_rowSize : Int32) (v_pieces : Int32) (v_imageSize : Int32) (v_readSize : Int32) (v_readPieces : Int32) (v_packedBits : Int32) (v_tokens : Int32) (v_steps : Int32) (v_sourceFrom : Int32) (v_sourceBits : Int32) (v_readBits : Int32) (v_wrong : Int32) (v_made : Int32) (v_room : Int32) : va_W := [(a_this, .inr (12, [.int v_plain, .int v_closed, .int v_rowSize, x_row, .int v_pieces, x_starts, .int v_imageSize, x_image, .int v_readSize, x_readRow, .int v_readPieces, x_readStart, x_readAt, x_readMany, x_piece, x_packed, .int v_packedBits, x_pairBefore, x_pairLast, .int v_tokens, x_tokenLength, x_tokenValue, x_counts, .ref a_lengths, x_fixed, .ref a_ranked, x_weight, x_weightBefore, .ref a_items, x_lengthRow, .int v_steps, x_step, x_stepMore, x_codes, x_symbolTree, x_distanceTree, x_smallTree, x_readLengths, x_source, .int v_sourceFrom, .int v_sourceBits, .int v_readBits, .int v_wrong, x_target, .int v_made, .int v_room])), (a_items, .inl (E.2.1, 9000, .inl c_items)), (a_ranked, .inl (E.2.1, 288, .inl c_ranked)), (a_lengths, .inl (E.2.1, 339, .inl c_lengths))]
def M_takeItem_r (F : Nat) (c_items : Nat → Int32) (c_ranked : Nat → Int32) (k_rec : (Nat → Int32) → Int32 → Int32 → Int32 → Option (Unit × (Nat → Int32))) (c_lengths : Nat → Int32) (x1 : Int32) (x2 : Int32) (x3 : Int32) : Option (Unit × (Nat → Int32)) :=
  mL ((600 * x2) + x3) fun i_1 => mG i_1 9000 (mL (c_items i_1.toNatClampNeg) fun y4_2 => mC (y4_2 < 0) (mL ((-1) - y4_2) fun t_3 => mL (x2 - 1) fun t_4 => mR1 (k_rec c_lengths x1 t_4 t_3) fun _ c_lengths_5 => mL (-y4_2) fun t_7 => mL (x2 - 1) fun t_8 => mR1 (k_rec c_lengths_5 x1 t_8 t_7) fun _ c_lengths_9 => some ((), c_lengths_9)) (mG y4_2 288 (mL (x1 + (c_ranked y4_2.toNatClampNeg)) fun t_11 => mG t_11 339 (mL ((c_lengths t_11.toNatClampNeg) + 1) fun v_12 => mG t_11 339 (mL (upd c_lengths t_11.toNatClampNeg v_12) fun c_13 => some ((), c_13))))))
def M_takeItem (F : Nat) (c_items : Nat → Int32) (c_ranked : Nat → Int32) (c_lengths : Nat → Int32) (x1 : Int32) (x2 : Int32) (x3 : Int32) : Option (Unit × (Nat → Int32)) := (mW4 (M_takeItem_r F c_items c_ranked) 16) c_lengths x1 x2 x3
abbrev M_takeItem_rm (n : Nat) : Room := { frames := n, cells := 0, slots := 0, locals := 24 * n }
set_option maxHeartbeats 4000000 in
set_option maxRecDepth 100000 in
theorem c_M_takeItem_n (l : Launch) (E : xE) (F : Nat) : ∀ (n sz : Nat) (a_this : Nat) (a_items : Nat) (a_ranked : Nat) (a_lengths : Nat) (x_row : Value) (x_starts : Value) (x_image : Value) (x_readRow : Value) (x_readStart : Value) (x_readAt : Value) (x_readMany : Value) (x_piece : Value) (x_packed : Value) (x_pairBefore : Value) (x_pairLast : Value) (x_tokenLength : Value) (x_tokenValue : Value) (x_counts : Value) (x_fixed : Value) (x_weight : Value) (x_weightBefore : Value) (x_lengthRow : Value) (x_step : Value) (x_stepMore : Value) (x_codes : Value) (x_symbolTree : Value) (x_distanceTree : Value) (x_smallTree : Value) (x_readLengths : Value) (x_source : Value) (x_target : Value) (c_items : Nat → Int32) (c_ranked : Nat → Int32) (c_lengths : Nat → Int32) (v_plain : Int32) (v_closed : Int32) (v_rowSize : Int32) (v_pieces : Int32) (v_imageSize : Int32) (v_readSize : Int32) (v_readPieces : Int32) (v_packedBits : Int32) (v_tokens : Int32) (v_steps : Int32) (v_sourceFrom : Int32) (v_sourceBits : Int32) (v_readBits : Int32) (v_wrong : Int32) (v_made : Int32) (v_room : Int32) (x1 : Int32) (x2 : Int32) (x3 : Int32) (res : Unit × (Nat → Int32)), (mW4 (M_takeItem_r F c_items c_ranked) n) c_lengths x1 x2 x3 = some res → Met l y_M_takeItem (Cond.code y_M_takeItem b_M_takeItem 5 none :: x_tb) (M_takeItem_rm n) (va_Pc [.ref a_this, .int x1, .int x2, .int x3] (xPre E (M_takeItem_w E a_this a_items a_ranked a_lengths x_row x_starts x_image x_readRow x_readStart x_readAt x_readMany x_piece x_packed x_pairBefore x_pairLast x_tokenLength x_tokenValue x_counts x_fixed x_weight x_weightBefore x_lengthRow x_step x_stepMore x_codes x_symbolTree x_distanceTree x_smallTree x_readLengths x_source x_target c_items c_ranked c_lengths v_plain v_closed v_rowSize v_pieces v_imageSize v_readSize v_readPieces v_packedBits v_tokens v_steps v_sourceFrom v_sourceBits v_readBits v_wrong v_made v_room) sz)) (xQv E (fun (u : (Nat → Int32)) => u = res.2) (fun (u : (Nat → Int32)) => (M_takeItem_w E a_this a_items a_ranked a_lengths x_row x_starts x_image x_readRow x_readStart x_readAt x_readMany x_piece x_packed x_pairBefore x_pairLast x_tokenLength x_tokenValue x_counts x_fixed x_weight x_weightBefore x_lengthRow x_step x_stepMore x_codes x_symbolTree x_distanceTree x_smallTree x_readLengths x_source x_target c_items c_ranked u v_plain v_closed v_rowSize v_pieces v_imageSize v_readSize v_readPieces v_packedBits v_tokens v_steps v_sourceFrom v_sourceBits v_readBits v_wrong v_made v_room)) (va_A (M_takeItem_w E a_this a_items a_ranked a_lengths x_row x_starts x_image x_readRow x_readStart x_readAt x_readMany x_piece x_packed x_pairBefore x_pairLast x_tokenLength x_tokenValue x_counts x_fixed x_weight x_weightBefore x_lengthRow x_step x_stepMore x_codes x_symbolTree x_distanceTree x_smallTree x_readLengths x_source x_target c_items c_ranked c_lengths v_plain v_closed v_rowSize v_pieces v_imageSize v_readSize v_readPieces v_packedBits v_tokens v_steps v_sourceFrom v_sourceBits v_readBits v_wrong v_made v_room) sz)) 0 0 (va_A (M_takeItem_w E a_this a_items a_ranked a_lengths x_row x_starts x_image x_readRow x_readStart x_readAt x_readMany x_piece x_packed x_pairBefore x_pairLast x_tokenLength x_tokenValue x_counts x_fixed x_weight x_weightBefore x_lengthRow x_step x_stepMore x_codes x_symbolTree x_distanceTree x_smallTree x_readLengths x_source x_target c_items c_ranked c_lengths v_plain v_closed v_rowSize v_pieces v_imageSize v_readSize v_readPieces v_packedBits v_tokens v_steps v_sourceFrom v_sourceBits v_readBits v_wrong v_made v_room) sz) := by
  intro n
  induction n with
  | zero => exact fun _ _ _ _ _ _ _ _ _ _ _ _ _ _ _ _ _ _ _ _ _ _ _ _ _ _ _ _ _ _ _ _ _ _ _ _ _ _ _ _ _ _ _ _ _ _ _ _ _ _ _ _ _ _ _ hm => (mW4_z hm).elim
  | succ n ih =>
  intro sz a_this a_items a_ranked a_lengths x_row x_starts x_image x_readRow x_readStart x_readAt x_readMany x_piece x_packed x_pairBefore x_pairLast x_tokenLength x_tokenValue x_counts x_fixed x_weight x_weightBefore x_lengthRow x_step x_stepMore x_codes x_symbolTree x_distanceTree x_smallTree x_readLengths x_source x_target c_items c_ranked c_lengths v_plain v_closed v_rowSize v_pieces v_imageSize v_readSize v_readPieces v_packedBits v_tokens v_steps v_sourceFrom v_sourceBits v_readBits v_wrong v_made v_room x1 x2 x3 res hm
  replace hm := mW4_s hm
  refine xEnV (by decide) (Nat.le_of_ble_eq_true rfl) ?_
  intro p e s m args below meth c A ls Q hx hb hnm hts hown hml hK hA hI hN hret hP hD hS hl
  replace hown : s.vm.findClass R_M = some m.cls := hown
  replace hl : lv_has ls 5 [(0, .ref a_this), (1, .int x1), (2, .int x2), (3, .int x3)] := hl
  obtain ⟨H, eH⟩ : ∃ z, z = s.heap := ⟨_, rfl⟩
  obtain ⟨locs, eL⟩ : ∃ z : List Loc, z = [] := ⟨_, rfl⟩
  rw [show W p l e (M_takeItem_rm (n + 1)) s m args below meth c s.heap [] 0 0 Q (F0 m 0 ls []) = W p l e (M_takeItem_rm (n + 1)) s m args below meth c H locs 0 0 Q (F0 m 0 ls []) by rw [eH, eL]]
  replace hP : va_P E.1 vwCl (M_takeItem_w E a_this a_items a_ranked a_lengths x_row x_starts x_image x_readRow x_readStart x_readAt x_readMany x_piece x_packed x_pairBefore x_pairLast x_tokenLength x_tokenValue x_counts x_fixed x_weight x_weightBefore x_lengthRow x_step x_stepMore x_codes x_symbolTree x_distanceTree x_smallTree x_readLengths x_source x_target c_items c_ranked c_lengths v_plain v_closed v_rowSize v_pieces v_imageSize v_readSize v_readPieces v_packedBits v_tokens v_steps v_sourceFrom v_sourceBits v_readBits v_wrong v_made v_room) H := by rw [eH]; exact hP
  replace hS : va_S A s.heap H locs := by rw [eH, eL]; exact hS
  clear eH eL
  rw [M_takeItem_r] at hm
  refine lv_aload_n hx hb d_M_takeItem_0 rfl (lv_at hl 0 rfl) ?_
  refine va_get (D := E.1) (ci := 12) (v := .ref a_items) (C := R_M) (T := F_M) (N := 46) hx hb hts i_M hown hK hP 0 rfl rfl 28 (by decide) (hts _ tw_823) (fun _ h9 => h9) rfl d_M_takeItem_1 ?_
  refine lv_sipush (v := 600) hx hb d_M_takeItem_4 (by decide) ?_
  refine lv_iload_n hx hb d_M_takeItem_7 rfl (lv_at hl 2 rfl) ?_
  refine lv_imul hx hb d_M_takeItem_8 ?_
  refine lv_iload_n hx hb d_M_takeItem_9 rfl (lv_at hl 3 rfl) ?_
  refine lv_iadd hx hb d_M_takeItem_10 ?_
  refine lv_topi (fun i_1 ei_1 => ?_)
  replace hm := mL_e hm i_1 ei_1
  obtain ⟨hi11, hm⟩ := mG_e hm
  refine va_iald hx hb hK hP 1 0 rfl rfl hi11 d_M_takeItem_11 ?_
  refine lv_topi (fun y4_2 ey4_2 => ?_)
  replace hm := mL_e hm y4_2 ey4_2
  refine lv_istore (lv' := [(4, .int y4_2), (0, .ref a_this), (1, .int x1), (2, .int x2), (3, .int x3)]) hx hb d_M_takeItem_12 hl (by decide) rfl (fun ls hl => ?_)
  refine lv_iload hx hb d_M_takeItem_14 (lv_at hl 0 rfl) ?_
  refine lv_if_lt (tgt := 40) hx hb d_M_takeItem_16 (by decide) (fun c16 => ?_) (fun c16 => ?_)
  · replace hm := mC_t hm c16
    refine lv_aload_n hx hb d_M_takeItem_40 rfl (lv_at hl 1 rfl) ?_
    refine lv_iload_n hx hb d_M_takeItem_41 rfl (lv_at hl 2 rfl) ?_
    refine lv_iload_n hx hb d_M_takeItem_42 rfl (lv_at hl 3 rfl) ?_
    refine lv_iconst (v := 1) hx hb d_M_takeItem_43 (by decide) ?_
    refine lv_isub hx hb d_M_takeItem_44 ?_
    refine lv_iconst (v := (-1)) hx hb d_M_takeItem_45 (by decide) ?_
    refine lv_iload hx hb d_M_takeItem_46 (lv_at hl 0 rfl) ?_
    refine lv_isub hx hb d_M_takeItem_48 ?_
    obtain ⟨t_3, et_3⟩ : ∃ z : Int32, z = (-1) - y4_2 := ⟨_, rfl⟩
    rw [← et_3]
    replace hm := mL_e hm t_3 et_3
    obtain ⟨t_4, et_4⟩ : ∃ z : Int32, z = x2 - 1 := ⟨_, rfl⟩
    rw [← et_4]
    replace hm := mL_e hm t_4 et_4
    obtain ⟨r_6, c_lengths_5, hc49, hm⟩ := mR1_e hm
    refine xmv (wc := (M_takeItem_w E a_this a_items a_ranked a_lengths x_row x_starts x_image x_readRow x_readStart x_readAt x_readMany x_piece x_packed x_pairBefore x_pairLast x_tokenLength x_tokenValue x_counts x_fixed x_weight x_weightBefore x_lengthRow x_step x_stepMore x_codes x_symbolTree x_distanceTree x_smallTree x_readLengths x_source x_target c_items c_ranked c_lengths v_plain v_closed v_rowSize v_pieces v_imageSize v_readSize v_readPieces v_packedBits v_tokens v_steps v_sourceFrom v_sourceBits v_readBits v_wrong v_made v_room)) [true, true, true, true] [0, 1, 2, 3] [0, 1, 2, 3] hP hD hS hA rfl (by decide) (by decide) 4 (by decide) (fun _ => rfl) (fun hPc hDc hFc => va_runV (As := [.int x1, .int t_4, .int t_3]) (rest := []) ⟨hx, hb, hml, hown, hts⟩ (ih H.size a_this a_items a_ranked a_lengths x_row x_starts x_image x_readRow x_readStart x_readAt x_readMany x_piece x_packed x_pairBefore x_pairLast x_tokenLength x_tokenValue x_counts x_fixed x_weight x_weightBefore x_lengthRow x_step x_stepMore x_codes x_symbolTree x_distanceTree x_smallTree x_readLengths x_source x_target c_items c_ranked c_lengths v_plain v_closed v_rowSize v_pieces v_imageSize v_readSize v_readPieces v_packedBits v_tokens v_steps v_sourceFrom v_sourceBits v_readBits v_wrong v_made v_room x1 t_4 t_3 (r_6, c_lengths_5) hc49) (cwV 3 hts (x_gV tw_1005 tw_1007 tw_41 tw_79 tw_1008) rfl rfl rfl (by decide +kernel) ⟨Nat.le_refl _, by show 8 + (5 + 11) + 24 * n ≤ 24 * (n + 1); omega⟩) (xPV 12 0 rfl rfl hPc hDc hFc hK hI hN hS) rfl rfl hl.1 rfl (lv_room (Nat.le_of_ble_eq_true rfl)) d_M_takeItem_49 ⟨Nat.le_of_ble_eq_true rfl, Nat.le_of_ble_eq_true rfl⟩) (fun u9 H locs hw hP hD hS => ?_)
    have hw2 : c_lengths_5 = u9 := hw.symm
    subst hw2
    replace hP : va_P E.1 vwCl (M_takeItem_w E a_this a_items a_ranked a_lengths x_row x_starts x_image x_readRow x_readStart x_readAt x_readMany x_piece x_packed x_pairBefore x_pairLast x_tokenLength x_tokenValue x_counts x_fixed x_weight x_weightBefore x_lengthRow x_step x_stepMore x_codes x_symbolTree x_distanceTree x_smallTree x_readLengths x_source x_target c_items c_ranked c_lengths_5 v_plain v_closed v_rowSize v_pieces v_imageSize v_readSize v_readPieces v_packedBits v_tokens v_steps v_sourceFrom v_sourceBits v_readBits v_wrong v_made v_room) H := hP
    replace hD : va_D A (M_takeItem_w E a_this a_items a_ranked a_lengths x_row x_starts x_image x_readRow x_readStart x_readAt x_readMany x_piece x_packed x_pairBefore x_pairLast x_tokenLength x_tokenValue x_counts x_fixed x_weight x_weightBefore x_lengthRow x_step x_stepMore x_codes x_symbolTree x_distanceTree x_smallTree x_readLengths x_source x_target c_items c_ranked c_lengths_5 v_plain v_closed v_rowSize v_pieces v_imageSize v_readSize v_readPieces v_packedBits v_tokens v_steps v_sourceFrom v_sourceBits v_readBits v_wrong v_made v_room) := hD
    refine lv_aload_n hx hb d_M_takeItem_52 rfl (lv_at hl 1 rfl) ?_
    refine lv_iload_n hx hb d_M_takeItem_53 rfl (lv_at hl 2 rfl) ?_
    refine lv_iload_n hx hb d_M_takeItem_54 rfl (lv_at hl 3 rfl) ?_
    refine lv_iconst (v := 1) hx hb d_M_takeItem_55 (by decide) ?_
    refine lv_isub hx hb d_M_takeItem_56 ?_
    refine lv_iload hx hb d_M_takeItem_57 (lv_at hl 0 rfl) ?_
    refine lv_ineg hx hb d_M_takeItem_59 ?_
    obtain ⟨t_7, et_7⟩ : ∃ z : Int32, z = -y4_2 := ⟨_, rfl⟩
    rw [← et_7]
    replace hm := mL_e hm t_7 et_7
    obtain ⟨t_8, et_8⟩ : ∃ z : Int32, z = x2 - 1 := ⟨_, rfl⟩
    rw [← et_8]
    replace hm := mL_e hm t_8 et_8
    obtain ⟨r_10, c_lengths_9, hc60, hm⟩ := mR1_e hm
    refine xmv (wc := (M_takeItem_w E a_this a_items a_ranked a_lengths x_row x_starts x_image x_readRow x_readStart x_readAt x_readMany x_piece x_packed x_pairBefore x_pairLast x_tokenLength x_tokenValue x_counts x_fixed x_weight x_weightBefore x_lengthRow x_step x_stepMore x_codes x_symbolTree x_distanceTree x_smallTree x_readLengths x_source x_target c_items c_ranked c_lengths_5 v_plain v_closed v_rowSize v_pieces v_imageSize v_readSize v_readPieces v_packedBits v_tokens v_steps v_sourceFrom v_sourceBits v_readBits v_wrong v_made v_room)) [true, true, true, true] [0, 1, 2, 3] [0, 1, 2, 3] hP hD hS hA rfl (by decide) (by decide) 4 (by decide) (fun _ => rfl) (fun hPc hDc hFc => va_runV (As := [.int x1, .int t_8, .int t_7]) (rest := []) ⟨hx, hb, hml, hown, hts⟩ (ih H.size a_this a_items a_ranked a_lengths x_row x_starts x_image x_readRow x_readStart x_readAt x_readMany x_piece x_packed x_pairBefore x_pairLast x_tokenLength x_tokenValue x_counts x_fixed x_weight x_weightBefore x_lengthRow x_step x_stepMore x_codes x_symbolTree x_distanceTree x_smallTree x_readLengths x_source x_target c_items c_ranked c_lengths_5 v_plain v_closed v_rowSize v_pieces v_imageSize v_readSize v_readPieces v_packedBits v_tokens v_steps v_sourceFrom v_sourceBits v_readBits v_wrong v_made v_room x1 t_8 t_7 (r_10, c_lengths_9) hc60) (cwV 3 hts (x_gV tw_1005 tw_1007 tw_41 tw_79 tw_1008) rfl rfl rfl (by decide +kernel) ⟨Nat.le_refl _, by show 8 + (5 + 11) + 24 * n ≤ 24 * (n + 1); omega⟩) (xPV 12 0 rfl rfl hPc hDc hFc hK hI hN hS) rfl rfl hl.1 rfl (lv_room (Nat.le_of_ble_eq_true rfl)) d_M_takeItem_60 ⟨Nat.le_of_ble_eq_true rfl, Nat.le_of_ble_eq_true rfl⟩) (fun u9 H locs hw hP hD hS => ?_)
    have hw2 : c_lengths_9 = u9 := hw.symm
    subst hw2
    replace hP : va_P E.1 vwCl (M_takeItem_w E a_this a_items a_ranked a_lengths x_row x_starts x_image x_readRow x_readStart x_readAt x_readMany x_piece x_packed x_pairBefore x_pairLast x_tokenLength x_tokenValue x_counts x_fixed x_weight x_weightBefore x_lengthRow x_step x_stepMore x_codes x_symbolTree x_distanceTree x_smallTree x_readLengths x_source x_target c_items c_ranked c_lengths_9 v_plain v_closed v_rowSize v_pieces v_imageSize v_readSize v_readPieces v_packedBits v_tokens v_steps v_sourceFrom v_sourceBits v_readBits v_wrong v_made v_room) H := hP
    replace hD : va_D A (M_takeItem_w E a_this a_items a_ranked a_lengths x_row x_starts x_image x_readRow x_readStart x_readAt x_readMany x_piece x_packed x_pairBefore x_pairLast x_tokenLength x_tokenValue x_counts x_fixed x_weight x_weightBefore x_lengthRow x_step x_stepMore x_codes x_symbolTree x_distanceTree x_smallTree x_readLengths x_source x_target c_items c_ranked c_lengths_9 v_plain v_closed v_rowSize v_pieces v_imageSize v_readSize v_readPieces v_packedBits v_tokens v_steps v_sourceFrom v_sourceBits v_readBits v_wrong v_made v_room) := hD
    replace hm := Option.some.inj hm
    subst hm
    exact hret d_M_takeItem_63 (u := c_lengths_9) rfl hP hD hS
  · replace hm := mC_f hm c16
    refine lv_aload_n hx hb d_M_takeItem_19 rfl (lv_at hl 1 rfl) ?_
    refine va_get (D := E.1) (ci := 12) (v := .ref a_lengths) (C := R_M) (T := F_M) (N := 46) hx hb hts i_M hown hK hP 0 rfl rfl 23 (by decide) (hts _ tw_818) (fun _ h9 => h9) rfl d_M_takeItem_20 ?_
    refine lv_iload_n hx hb d_M_takeItem_23 rfl (lv_at hl 2 rfl) ?_
    refine lv_aload_n hx hb d_M_takeItem_24 rfl (lv_at hl 1 rfl) ?_
    refine va_get (D := E.1) (ci := 12) (v := .ref a_ranked) (C := R_M) (T := F_M) (N := 46) hx hb hts i_M hown hK hP 0 rfl rfl 25 (by decide) (hts _ tw_820) (fun _ h9 => h9) rfl d_M_takeItem_25 ?_
    refine lv_iload hx hb d_M_takeItem_28 (lv_at hl 0 rfl) ?_
    obtain ⟨hi30, hm⟩ := mG_e hm
    refine va_iald hx hb hK hP 2 0 rfl rfl hi30 d_M_takeItem_30 ?_
    refine lv_iadd hx hb d_M_takeItem_31 ?_
    refine lv_topi (fun t_11 et_11 => ?_)
    replace hm := mL_e hm t_11 et_11
    refine lv_dup2_11 hx hb d_M_takeItem_32 rfl rfl ?_
    obtain ⟨hi33, hm⟩ := mG_e hm
    refine va_iald hx hb hK hP 3 0 rfl rfl hi33 d_M_takeItem_33 ?_
    refine lv_iconst (v := 1) hx hb d_M_takeItem_34 (by decide) ?_
    refine lv_iadd hx hb d_M_takeItem_35 ?_
    refine lv_topi (fun v_12 ev_12 => ?_)
    replace hm := mL_e hm v_12 ev_12
    obtain ⟨hi36, hm⟩ := mG_e hm
    obtain ⟨c_13, ec_13⟩ : ∃ z : Nat → Int32, z = upd c_lengths t_11.toNatClampNeg v_12 := ⟨_, rfl⟩
    replace hm := mL_e hm c_13 ec_13
    refine va_iast hx hb hK hP hD hS 3 0 rfl rfl hi36 d_M_takeItem_36 (fun H locs hP hD hS => ?_)
    rw [← ec_13] at hP hD
    replace hP : va_P E.1 vwCl (M_takeItem_w E a_this a_items a_ranked a_lengths x_row x_starts x_image x_readRow x_readStart x_readAt x_readMany x_piece x_packed x_pairBefore x_pairLast x_tokenLength x_tokenValue x_counts x_fixed x_weight x_weightBefore x_lengthRow x_step x_stepMore x_codes x_symbolTree x_distanceTree x_smallTree x_readLengths x_source x_target c_items c_ranked c_13 v_plain v_closed v_rowSize v_pieces v_imageSize v_readSize v_readPieces v_packedBits v_tokens v_steps v_sourceFrom v_sourceBits v_readBits v_wrong v_made v_room) H := hP
    replace hD : va_D A (M_takeItem_w E a_this a_items a_ranked a_lengths x_row x_starts x_image x_readRow x_readStart x_readAt x_readMany x_piece x_packed x_pairBefore x_pairLast x_tokenLength x_tokenValue x_counts x_fixed x_weight x_weightBefore x_lengthRow x_step x_stepMore x_codes x_symbolTree x_distanceTree x_smallTree x_readLengths x_source x_target c_items c_ranked c_13 v_plain v_closed v_rowSize v_pieces v_imageSize v_readSize v_readPieces v_packedBits v_tokens v_steps v_sourceFrom v_sourceBits v_readBits v_wrong v_made v_room) := hD
    refine lv_goto (tgt := 63) hx hb d_M_takeItem_37 (by decide) ?_
    replace hm := Option.some.inj hm
    subst hm
    exact hret d_M_takeItem_63 (u := c_13) rfl hP hD hS
theorem c_M_takeItem (l : Launch) (E : xE) (F sz : Nat) (a_this : Nat) (a_items : Nat) (a_ranked : Nat) (a_lengths : Nat) (x_row : Value) (x_starts : Value) (x_image : Value) (x_readRow : Value) (x_readStart : Value) (x_readAt : Value) (x_readMany : Value) (x_piece : Value) (x_packed : Value) (x_pairBefore : Value) (x_pairLast : Value) (x_tokenLength : Value) (x_tokenValue : Value) (x_counts : Value) (x_fixed : Value) (x_weight : Value) (x_weightBefore : Value) (x_lengthRow : Value) (x_step : Value) (x_stepMore : Value) (x_codes : Value) (x_symbolTree : Value) (x_distanceTree : Value) (x_smallTree : Value) (x_readLengths : Value) (x_source : Value) (x_target : Value) (c_items : Nat → Int32) (c_ranked : Nat → Int32) (c_lengths : Nat → Int32) (v_plain : Int32) (v_closed : Int32) (v_rowSize : Int32) (v_pieces : Int32) (v_imageSize : Int32) (v_readSize : Int32) (v_readPieces : Int32) (v_packedBits : Int32) (v_tokens : Int32) (v_steps : Int32) (v_sourceFrom : Int32) (v_sourceBits : Int32) (v_readBits : Int32) (v_wrong : Int32) (v_made : Int32) (v_room : Int32) (x1 : Int32) (x2 : Int32) (x3 : Int32) (res : Unit × (Nat → Int32)) (hm : M_takeItem F c_items c_ranked c_lengths x1 x2 x3 = some res) : Met l y_M_takeItem (Cond.code y_M_takeItem b_M_takeItem 5 none :: x_tb) (M_takeItem_rm 16) (va_Pc [.ref a_this, .int x1, .int x2, .int x3] (xPre E (M_takeItem_w E a_this a_items a_ranked a_lengths x_row x_starts x_image x_readRow x_readStart x_readAt x_readMany x_piece x_packed x_pairBefore x_pairLast x_tokenLength x_tokenValue x_counts x_fixed x_weight x_weightBefore x_lengthRow x_step x_stepMore x_codes x_symbolTree x_distanceTree x_smallTree x_readLengths x_source x_target c_items c_ranked c_lengths v_plain v_closed v_rowSize v_pieces v_imageSize v_readSize v_readPieces v_packedBits v_tokens v_steps v_sourceFrom v_sourceBits v_readBits v_wrong v_made v_room) sz)) (xQv E (fun (u : (Nat → Int32)) => u = res.2) (fun (u : (Nat → Int32)) => (M_takeItem_w E a_this a_items a_ranked a_lengths x_row x_starts x_image x_readRow x_readStart x_readAt x_readMany x_piece x_packed x_pairBefore x_pairLast x_tokenLength x_tokenValue x_counts x_fixed x_weight x_weightBefore x_lengthRow x_step x_stepMore x_codes x_symbolTree x_distanceTree x_smallTree x_readLengths x_source x_target c_items c_ranked u v_plain v_closed v_rowSize v_pieces v_imageSize v_readSize v_readPieces v_packedBits v_tokens v_steps v_sourceFrom v_sourceBits v_readBits v_wrong v_made v_room)) (va_A (M_takeItem_w E a_this a_items a_ranked a_lengths x_row x_starts x_image x_readRow x_readStart x_readAt x_readMany x_piece x_packed x_pairBefore x_pairLast x_tokenLength x_tokenValue x_counts x_fixed x_weight x_weightBefore x_lengthRow x_step x_stepMore x_codes x_symbolTree x_distanceTree x_smallTree x_readLengths x_source x_target c_items c_ranked c_lengths v_plain v_closed v_rowSize v_pieces v_imageSize v_readSize v_readPieces v_packedBits v_tokens v_steps v_sourceFrom v_sourceBits v_readBits v_wrong v_made v_room) sz)) 0 0 (va_A (M_takeItem_w E a_this a_items a_ranked a_lengths x_row x_starts x_image x_readRow x_readStart x_readAt x_readMany x_piece x_packed x_pairBefore x_pairLast x_tokenLength x_tokenValue x_counts x_fixed x_weight x_weightBefore x_lengthRow x_step x_stepMore x_codes x_symbolTree x_distanceTree x_smallTree x_readLengths x_source x_target c_items c_ranked c_lengths v_plain v_closed v_rowSize v_pieces v_imageSize v_readSize v_readPieces v_packedBits v_tokens v_steps v_sourceFrom v_sourceBits v_readBits v_wrong v_made v_room) sz) := by
  rw [M_takeItem] at hm
  exact c_M_takeItem_n l E F 16 sz a_this a_items a_ranked a_lengths x_row x_starts x_image x_readRow x_readStart x_readAt x_readMany x_piece x_packed x_pairBefore x_pairLast x_tokenLength x_tokenValue x_counts x_fixed x_weight x_weightBefore x_lengthRow x_step x_stepMore x_codes x_symbolTree x_distanceTree x_smallTree x_readLengths x_source x_target c_items c_ranked c_lengths v_plain v_closed v_rowSize v_pieces v_imageSize v_readSize v_readPieces v_packedBits v_tokens v_steps v_sourceFrom v_sourceBits v_readBits v_wrong v_made v_room x1 x2 x3 res hm
