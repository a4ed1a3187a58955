theorem d_M_notePairs_0 : decode b_M_notePairs 0 = .ok (.iconst 0, 1) := by decide +kernel
theorem d_M_notePairs_1 : decode b_M_notePairs 1 = .ok (.istore 4, 2) := by decide +kernel
theorem d_M_notePairs_3 : decode b_M_notePairs 3 = .ok (.iload 4, 2) := by decide +kernel
theorem d_M_notePairs_5 : decode b_M_notePairs 5 = .ok (.ldc 9, 2) := by decide +kernel
theorem d_M_notePairs_7 : decode b_M_notePairs 7 = .ok (.if_icmp .ge 17, 3) := by decide +kernel
theorem d_M_notePairs_10 : decode b_M_notePairs 10 = .ok (.aload_n 0, 1) := by decide +kernel
theorem d_M_notePairs_11 : decode b_M_notePairs 11 = .ok (.getfield 43, 3) := by decide +kernel
theorem d_M_notePairs_14 : decode b_M_notePairs 14 = .ok (.iload 4, 2) := by decide +kernel
theorem d_M_notePairs_16 : decode b_M_notePairs 16 = .ok (.iconst (-1), 1) := by decide +kernel
theorem d_M_notePairs_17 : decode b_M_notePairs 17 = .ok (.iastore, 1) := by decide +kernel
theorem d_M_notePairs_18 : decode b_M_notePairs 18 = .ok (.iinc 4 1, 3) := by decide +kernel
theorem d_M_notePairs_21 : decode b_M_notePairs 21 = .ok (.goto (-18), 3) := by decide +kernel
theorem d_M_notePairs_24 : decode b_M_notePairs 24 = .ok (.iconst 0, 1) := by decide +kernel
theorem d_M_notePairs_25 : decode b_M_notePairs 25 = .ok (.istore 4, 2) := by decide +kernel
theorem d_M_notePairs_27 : decode b_M_notePairs 27 = .ok (.iload 4, 2) := by decide +kernel
theorem d_M_notePairs_29 : decode b_M_notePairs 29 = .ok (.iconst 1, 1) := by decide +kernel
theorem d_M_notePairs_30 : decode b_M_notePairs 30 = .ok (.iadd, 1) := by decide +kernel
theorem d_M_notePairs_31 : decode b_M_notePairs 31 = .ok (.iload_n 3, 1) := by decide +kernel
theorem d_M_notePairs_32 : decode b_M_notePairs 32 = .ok (.if_icmp .ge 60, 3) := by decide +kernel
theorem d_M_notePairs_35 : decode b_M_notePairs 35 = .ok (.aload_n 1, 1) := by decide +kernel
theorem d_M_notePairs_36 : decode b_M_notePairs 36 = .ok (.iload_n 2, 1) := by decide +kernel
theorem d_M_notePairs_37 : decode b_M_notePairs 37 = .ok (.iload 4, 2) := by decide +kernel
theorem d_M_notePairs_39 : decode b_M_notePairs 39 = .ok (.iadd, 1) := by decide +kernel
theorem d_M_notePairs_40 : decode b_M_notePairs 40 = .ok (.baload, 1) := by decide +kernel
theorem d_M_notePairs_41 : decode b_M_notePairs 41 = .ok (.sipush 255, 3) := by decide +kernel
theorem d_M_notePairs_44 : decode b_M_notePairs 44 = .ok (.iand, 1) := by decide +kernel
theorem d_M_notePairs_45 : decode b_M_notePairs 45 = .ok (.bipush 8, 2) := by decide +kernel
theorem d_M_notePairs_47 : decode b_M_notePairs 47 = .ok (.ishl, 1) := by decide +kernel
theorem d_M_notePairs_48 : decode b_M_notePairs 48 = .ok (.aload_n 1, 1) := by decide +kernel
theorem d_M_notePairs_49 : decode b_M_notePairs 49 = .ok (.iload_n 2, 1) := by decide +kernel
theorem d_M_notePairs_50 : decode b_M_notePairs 50 = .ok (.iload 4, 2) := by decide +kernel
theorem d_M_notePairs_52 : decode b_M_notePairs 52 = .ok (.iadd, 1) := by decide +kernel
theorem d_M_notePairs_53 : decode b_M_notePairs 53 = .ok (.iconst 1, 1) := by decide +kernel
theorem d_M_notePairs_54 : decode b_M_notePairs 54 = .ok (.iadd, 1) := by decide +kernel
theorem d_M_notePairs_55 : decode b_M_notePairs 55 = .ok (.baload, 1) := by decide +kernel
theorem d_M_notePairs_56 : decode b_M_notePairs 56 = .ok (.sipush 255, 3) := by decide +kernel
theorem d_M_notePairs_59 : decode b_M_notePairs 59 = .ok (.iand, 1) := by decide +kernel
theorem d_M_notePairs_60 : decode b_M_notePairs 60 = .ok (.ior, 1) := by decide +kernel
theorem d_M_notePairs_61 : decode b_M_notePairs 61 = .ok (.istore 5, 2) := by decide +kernel
theorem d_M_notePairs_63 : decode b_M_notePairs 63 = .ok (.aload_n 0, 1) := by decide +kernel
theorem d_M_notePairs_64 : decode b_M_notePairs 64 = .ok (.getfield 40, 3) := by decide +kernel
theorem d_M_notePairs_67 : decode b_M_notePairs 67 = .ok (.iload 4, 2) := by decide +kernel
theorem d_M_notePairs_69 : decode b_M_notePairs 69 = .ok (.aload_n 0, 1) := by decide +kernel
theorem d_M_notePairs_70 : decode b_M_notePairs 70 = .ok (.getfield 43, 3) := by decide +kernel
theorem d_M_notePairs_73 : decode b_M_notePairs 73 = .ok (.iload 5, 2) := by decide +kernel
theorem d_M_notePairs_75 : decode b_M_notePairs 75 = .ok (.iaload, 1) := by decide +kernel
theorem d_M_notePairs_76 : decode b_M_notePairs 76 = .ok (.iastore, 1) := by decide +kernel
theorem d_M_notePairs_77 : decode b_M_notePairs 77 = .ok (.aload_n 0, 1) := by decide +kernel
theorem d_M_notePairs_78 : decode b_M_notePairs 78 = .ok (.getfield 43, 3) := by decide +kernel
theorem d_M_notePairs_81 : decode b_M_notePairs 81 = .ok (.iload 5, 2) := by decide +kernel
theorem d_M_notePairs_83 : decode b_M_notePairs 83 = .ok (.iload 4, 2) := by decide +kernel
theorem d_M_notePairs_85 : decode b_M_notePairs 85 = .ok (.iastore, 1) := by decide +kernel
theorem d_M_notePairs_86 : decode b_M_notePairs 86 = .ok (.iinc 4 1, 3) := by decide +kernel
theorem d_M_notePairs_89 : decode b_M_notePairs 89 = .ok (.goto (-62), 3) := by decide +kernel
theorem d_M_notePairs_92 : decode b_M_notePairs 92 = .ok (.return_, 1) := by decide +kernel
def M_notePairs_27 (F : Nat) (n_p1 : Nat) (c_p1 : Nat → Int32) (x2 : Int32) (x3 : Int32) (k_27 : (Nat → Int32) → (Nat → Int32) → Int32 → Option (Unit × (Nat → Int32) × (Nat → Int32))) (c_pairLast : Nat → Int32) (c_pairBefore : Nat → Int32) (x4 : Int32) : Option (Unit × (Nat → Int32) × (Nat → Int32)) :=
  mC (x3 ≤ (x4 + 1)) (some ((), c_pairLast, c_pairBefore)) (mL (x2 + x4) fun i_1 => mG i_1 n_p1 (mL ((x2 + x4) + 1) fun i_2 => mG i_2 n_p1 (mL ((((c_p1 i_1.toNatClampNeg) &&& 255) <<< ((8 : Int32) &&& 31)) ||| ((c_p1 i_2.toNatClampNeg) &&& 255)) fun y5_3 => mG y5_3 65536 (mL (c_pairLast y5_3.toNatClampNeg) fun v_4 => mG x4 65536 (mL (upd c_pairBefore x4.toNatClampNeg v_4) fun c_5 => mG y5_3 65536 (mL (upd c_pairLast y5_3.toNatClampNeg x4) fun c_6 => mL (x4 + 1) fun y4_7 => k_27 c_6 c_5 y4_7))))))
def M_notePairs_24 (F : Nat) (n_p1 : Nat) (c_p1 : Nat → Int32) (x2 : Int32) (x3 : Int32) (c_pairLast : Nat → Int32) (c_pairBefore : Nat → Int32) : Option (Unit × (Nat → Int32) × (Nat → Int32)) :=
  (mW3 (M_notePairs_27 F n_p1 c_p1 x2 x3) F) c_pairLast c_pairBefore 0
def M_notePairs_3 (F : Nat) (k_24 : (Nat → Int32) → (Nat → Int32) → Option (Unit × (Nat → Int32) × (Nat → Int32))) (k_3 : (Nat → Int32) → (Nat → Int32) → Int32 → Option (Unit × (Nat → Int32) × (Nat → Int32))) (c_pairLast : Nat → Int32) (c_pairBefore : Nat → Int32) (x4 : Int32) : Option (Unit × (Nat → Int32) × (Nat → Int32)) :=
  mC (65536 ≤ x4) (k_24 c_pairLast c_pairBefore) (mG x4 65536 (mL (upd c_pairLast x4.toNatClampNeg (-1)) fun c_8 => mL (x4 + 1) fun y4_9 => k_3 c_8 c_pairBefore y4_9))
abbrev M_notePairs_w (E : xE) (a_this : Nat) (a_pairLast : Nat) (a_p1 : Nat) (a_pairBefore : Nat) (n_p1 : Nat) (x_row : Value) (x_starts : Value) (x_image : Value) (x_readRow : Value) (x_readStart : Value) (x_readAt : Value) (x_readMany : Value) (x_piece : Value) (x_packed : Value) (x_tokenLength : Value) (x_tokenValue : Value) (x_counts : Value) (x_lengths : Value) (x_fixed : Value) (x_ranked : Value) (x_weight : Value) (x_weightBefore : Value) (x_items : Value) (x_lengthRow : Value) (x_step : Value) (x_stepMore : Value) (x_codes : Value) (x_symbolTree : Value) (x_distanceTree : Value) (x_smallTree : Value) (x_readLengths : Value) (x_source : Value) (x_target : Value) (c_p1 : Nat → Int32) (c_pairLast : Nat → Int32) (c_pairBefore : Nat → Int32) (v_plain : Int32) (v_closed : Int32) (v_rowSize : Int32) (v_pieces : Int32) (v_imageSize : Int32) (v_readSize : Int32) (v_readPieces : Int32) (v_packedBits : Int32) (v_tokens : Int32) (v_steps : Int32) (v_sourceFrom : Int32) (v_sourceBits : Int32) (v_readBits : Int32) (v_wrong : Int32) (v_made : Int32) (v_room : Int32) : va_W := [(a_this, .inr (12, [.int v_plain, .int v_closed, .int v_rowSize, x_row, .int v_pieces, x_starts, .int v_imageSize, x_image, .int v_readSize, x_readRow, .int v_readPieces, x_readStart, x_readAt, x_readMany, x_piece, x_packed, .int v_packedBits, .ref a_pairBefore, .ref a_pairLast, .int v_tokens, x_tokenLength, x_tokenValue, x_counts, x_lengths, x_fixed, x_ranked, x_weight, x_weightBefore, x_items, x_lengthRow, .int v_steps, x_step, x_stepMore, x_codes, x_symbolTree, x_distanceTree, x_smallTree, x_readLengths, x_source, .int v_sourceFrom, .int v_sourceBits, .int v_readBits, .int v_wrong, x_target, .int v_made, .int v_room])), (a_pairLast, .inl (E.2.1, 65536, .inl c_pairLast)), (a_p1, .inl (E.2.2.1, n_p1, .inl c_p1)), (a_pairBefore, .inl (E.2.1, 65536, .inl c_pairBefore))]
def M_notePairs (F : Nat) (n_p1 : Nat) (c_p1 : Nat → Int32) (c_pairLast : Nat → Int32) (c_pairBefore : Nat → Int32) (x2 : Int32) (x3 : Int32) : Option (Unit × (Nat → Int32) × (Nat → Int32)) :=
  (mW3 (M_notePairs_3 F (M_notePairs_24 F n_p1 c_p1 x2 x3)) F) c_pairLast c_pairBefore 0
abbrev M_notePairs_rm : Room := { frames := 0, cells := 0, slots := 0, locals := 0 }
set_option maxHeartbeats 4000000 in
set_option maxRecDepth 100000 in
theorem c_M_notePairs (l : Launch) (E : xE) (F sz : Nat) (a_this : Nat) (a_pairLast : Nat) (a_p1 : Nat) (a_pairBefore : Nat) (n_p1 : Nat) (x_row : Value) (x_starts : Value) (x_image : Value) (x_readRow : Value) (x_readStart : Value) (x_readAt : Value) (x_readMany : Value) (x_piece : Value) (x_packed : Value) (x_tokenLength : Value) (x_tokenValue : Value) (x_counts : Value) (x_lengths : Value) (x_fixed : Value) (x_ranked : Value) (x_weight : Value) (x_weightBefore : Value) (x_items : Value) (x_lengthRow : Value) (x_step : Value) (x_stepMore : Value) (x_codes : Value) (x_symbolTree : Value) (x_distanceTree : Value) (x_smallTree : Value) (x_readLengths : Value) (x_source : Value) (x_target : Value) (c_p1 : Nat → Int32) (c_pairLast : Nat → Int32) (c_pairBefore : Nat → Int32) (v_plain : Int32) (v_closed : Int32) (v_rowSize : Int32) (v_pieces : Int32) (v_imageSize : Int32) (v_readSize : Int32) (v_readPieces : Int32) (v_packedBits : Int32) (v_tokens : Int32) (v_steps : Int32) (v_sourceFrom : Int32) (v_sourceBits : Int32) (v_readBits : Int32) (v_wrong : Int32) (v_made : Int32) (v_room : Int32) (x2 : Int32) (x3 : Int32) (res : Unit × (Nat → Int32) × (Nat → Int32)) (hm : M_notePairs F n_p1 c_p1 c_pairLast c_pairBefore x2 x3 = some res) : Met l y_M_notePairs (Cond.code y_M_notePairs b_M_notePairs 6 none :: x_tb) M_notePairs_rm (va_Pc [.ref a_this, .ref a_p1, .int x2, .int x3] (xPre E (M_notePairs_w E a_this a_pairLast a_p1 a_pairBefore n_p1 x_row x_starts x_image x_readRow x_readStart x_readAt x_readMany x_piece x_packed x_tokenLength x_tokenValue x_counts x_lengths x_fixed x_ranked x_weight x_weightBefore x_items x_lengthRow x_step x_stepMore x_codes x_symbolTree x_distanceTree x_smallTree x_readLengths x_source x_target c_p1 c_pairLast c_pairBefore v_plain v_closed v_rowSize v_pieces v_imageSize v_readSize v_readPieces v_packedBits v_tokens v_steps v_sourceFrom v_sourceBits v_readBits v_wrong v_made v_room) sz)) (xQv E (fun (u : (Nat → Int32) × (Nat → Int32)) => u = res.2) (fun (u : (Nat → Int32) × (Nat → Int32)) => (M_notePairs_w E a_this a_pairLast a_p1 a_pairBefore n_p1 x_row x_starts x_image x_readRow x_readStart x_readAt x_readMany x_piece x_packed x_tokenLength x_tokenValue x_counts x_lengths x_fixed x_ranked x_weight x_weightBefore x_items x_lengthRow x_step x_stepMore x_codes x_symbolTree x_distanceTree x_smallTree x_readLengths x_source x_target c_p1 u.1 u.2 v_plain v_closed v_rowSize v_pieces v_imageSize v_readSize v_readPieces v_packedBits v_tokens v_steps v_sourceFrom v_sourceBits v_readBits v_wrong v_made v_room)) (va_A (M_notePairs_w E a_this a_pairLast a_p1 a_pairBefore n_p1 x_row x_starts x_image x_readRow x_readStart x_readAt x_readMany x_piece x_packed x_tokenLength x_tokenValue x_counts x_lengths x_fixed x_ranked x_weight x_weightBefore x_items x_lengthRow x_step x_stepMore x_codes x_symbolTree x_distanceTree x_smallTree x_readLengths x_source x_target c_p1 c_pairLast c_pairBefore v_plain v_closed v_rowSize v_pieces v_imageSize v_readSize v_readPieces v_packedBits v_tokens v_steps v_sourceFrom v_sourceBits v_readBits v_wrong v_made v_room) sz)) 0 0 (va_A (M_notePairs_w E a_this a_pairLast a_p1 a_pairBefore n_p1 x_row x_starts x_image x_readRow x_readStart x_readAt x_readMany x_piece x_packed x_tokenLength x_tokenValue x_counts x_lengths x_fixed x_ranked x_weight x_weightBefore x_items x_lengthRow x_step x_stepMore x_codes x_symbolTree x_distanceTree x_smallTree x_readLengths x_source x_target c_p1 c_pairLast c_pairBefore v_plain v_closed v_rowSize v_pieces v_imageSize v_readSize v_readPieces v_packedBits v_tokens v_steps v_sourceFrom v_sourceBits v_readBits v_wrong v_made v_room) sz) := by
  refine xEnV (by decide) (Nat.le_of_ble_eq_true rfl) ?_
  intro p e s m args below meth c A ls Q hx hb hnm hts hown hml hK hA hI hN hret hP hD hS hl
  replace hown : s.vm.findClass R_M = some m.cls := hown
  replace hl : lv_has ls 6 [(0, .ref a_this), (1, .ref a_p1), (2, .int x2), (3, .int x3)] := hl
  obtain ⟨H, eH⟩ : ∃ z, z = s.heap := ⟨_, rfl⟩
  obtain ⟨locs, eL⟩ : ∃ z : List Loc, z = [] := ⟨_, rfl⟩
  rw [show W p l e M_notePairs_rm s m args below meth c s.heap [] 0 0 Q (F0 m 0 ls []) = W p l e M_notePairs_rm s m args below meth c H locs 0 0 Q (F0 m 0 ls []) by rw [eH, eL]]
  replace hP : va_P E.1 vwCl (M_notePairs_w E a_this a_pairLast a_p1 a_pairBefore n_p1 x_row x_starts x_image x_readRow x_readStart x_readAt x_readMany x_piece x_packed x_tokenLength x_tokenValue x_counts x_lengths x_fixed x_ranked x_weight x_weightBefore x_items x_lengthRow x_step x_stepMore x_codes x_symbolTree x_distanceTree x_smallTree x_readLengths x_source x_target c_p1 c_pairLast c_pairBefore v_plain v_closed v_rowSize v_pieces v_imageSize v_readSize v_readPieces v_packedBits v_tokens v_steps v_sourceFrom v_sourceBits v_readBits v_wrong v_made v_room) H := by rw [eH]; exact hP
  replace hS : va_S A s.heap H locs := by rw [eH, eL]; exact hS
  clear eH eL
  rw [M_notePairs] at hm
  have h_24 : ∀ (c_pairLast : Nat → Int32) (c_pairBefore : Nat → Int32) (H : Heap) (locs : List Loc) (ls : Array Slot), (M_notePairs_24 F n_p1 c_p1 x2 x3) c_pairLast c_pairBefore = some res → va_P E.1 vwCl (M_notePairs_w E a_this a_pairLast a_p1 a_pairBefore n_p1 x_row x_starts x_image x_readRow x_readStart x_readAt x_readMany x_piece x_packed x_tokenLength x_tokenValue x_counts x_lengths x_fixed x_ranked x_weight x_weightBefore x_items x_lengthRow x_step x_stepMore x_codes x_symbolTree x_distanceTree x_smallTree x_readLengths x_source x_target c_p1 c_pairLast c_pairBefore v_plain v_closed v_rowSize v_pieces v_imageSize v_readSize v_readPieces v_packedBits v_tokens v_steps v_sourceFrom v_sourceBits v_readBits v_wrong v_made v_room) H → va_D A (M_notePairs_w E a_this a_pairLast a_p1 a_pairBefore n_p1 x_row x_starts x_image x_readRow x_readStart x_readAt x_readMany x_piece x_packed x_tokenLength x_tokenValue x_counts x_lengths x_fixed x_ranked x_weight x_weightBefore x_items x_lengthRow x_step x_stepMore x_codes x_symbolTree x_distanceTree x_smallTree x_readLengths x_source x_target c_p1 c_pairLast c_pairBefore v_plain v_closed v_rowSize v_pieces v_imageSize v_readSize v_readPieces v_packedBits v_tokens v_steps v_sourceFrom v_sourceBits v_readBits v_wrong v_made v_room) → va_S A s.heap H locs → lv_has ls 6 [(0, .ref a_this), (1, .ref a_p1), (2, .int x2), (3, .int x3)] → W p l e M_notePairs_rm s m args below meth c H locs 0 0 Q (F0 m 24 ls []) := by
    intro c_pairLast c_pairBefore H locs ls hm hP hD hS hl
    rw [M_notePairs_24] at hm
    have h_27 : ∀ (n_27 : Nat) (c_pairLast : Nat → Int32) (c_pairBefore : Nat → Int32) (x4 : Int32) (H : Heap) (locs : List Loc) (ls : Array Slot), (mW3 (M_notePairs_27 F n_p1 c_p1 x2 x3) n_27) c_pairLast c_pairBefore x4 = some res → va_P E.1 vwCl (M_notePairs_w E a_this a_pairLast a_p1 a_pairBefore n_p1 x_row x_starts x_image x_readRow x_readStart x_readAt x_readMany x_piece x_packed x_tokenLength x_tokenValue x_counts x_lengths x_fixed x_ranked x_weight x_weightBefore x_items x_lengthRow x_step x_stepMore x_codes x_symbolTree x_distanceTree x_smallTree x_readLengths x_source x_target c_p1 c_pairLast c_pairBefore v_plain v_closed v_rowSize v_pieces v_imageSize v_readSize v_readPieces v_packedBits v_tokens v_steps v_sourceFrom v_sourceBits v_readBits v_wrong v_made v_room) H → va_D A (M_notePairs_w E a_this a_pairLast a_p1 a_pairBefore n_p1 x_row x_starts x_image x_readRow x_readStart x_readAt x_readMany x_piece x_packed x_tokenLength x_tokenValue x_counts x_lengths x_fixed x_ranked x_weight x_weightBefore x_items x_lengthRow x_step x_stepMore x_codes x_symbolTree x_distanceTree x_smallTree x_readLengths x_source x_target c_p1 c_pairLast c_pairBefore v_plain v_closed v_rowSize v_pieces v_imageSize v_readSize v_readPieces v_packedBits v_tokens v_steps v_sourceFrom v_sourceBits v_readBits v_wrong v_made v_room) → va_S A s.heap H locs → lv_has ls 6 [(0, .ref a_this), (1, .ref a_p1), (2, .int x2), (3, .int x3), (4, .int x4)] → W p l e M_notePairs_rm s m args below meth c H locs 0 0 Q (F0 m 27 ls []) := by
      intro n_27
      induction n_27 with
      | zero => exact fun _ _ _ _ _ _ hm _ _ _ _ => (mW3_z hm).elim
      | succ n_27 ih_27 =>
        intro c_pairLast c_pairBefore x4 H locs ls hm hP hD hS hl
        replace hm := mW3_s hm
        rw [M_notePairs_27] at hm
        refine lv_iload hx hb d_M_notePairs_27 (lv_at hl 4 rfl) ?_
        refine lv_iconst (v := 1) hx hb d_M_notePairs_29 (by decide) ?_
        refine lv_iadd hx hb d_M_notePairs_30 ?_
        refine lv_iload_n hx hb d_M_notePairs_31 rfl (lv_at hl 3 rfl) ?_
        refine lv_icmp_ge (tgt := 92) hx hb d_M_notePairs_32 (by decide) (fun c32 => ?_) (fun c32 => ?_)
        · replace hm := mC_t hm c32
          replace hm := Option.some.inj hm
          subst hm
          exact hret d_M_notePairs_92 (u := (c_pairLast, c_pairBefore)) rfl hP hD hS
        · replace hm := mC_f hm c32
          refine lv_aload_n hx hb d_M_notePairs_35 rfl (lv_at hl 1 rfl) ?_
          refine lv_iload_n hx hb d_M_notePairs_36 rfl (lv_at hl 2 rfl) ?_
          refine lv_iload hx hb d_M_notePairs_37 (lv_at hl 4 rfl) ?_
          refine lv_iadd hx hb d_M_notePairs_39 ?_
          refine lv_topi (fun i_1 ei_1 => ?_)
          replace hm := mL_e hm i_1 ei_1
          obtain ⟨hi40, hm⟩ := mG_e hm
          refine va_bald hx hb hK hP 2 1 rfl rfl hi40 d_M_notePairs_40 ?_
          refine lv_sipush (v := 255) hx hb d_M_notePairs_41 (by decide) ?_
          refine lv_iand hx hb d_M_notePairs_44 ?_
          refine lv_bipush (v := 8) hx hb d_M_notePairs_45 (by decide) ?_
          refine lv_ishl hx hb d_M_notePairs_47 ?_
          refine lv_aload_n hx hb d_M_notePairs_48 rfl (lv_at hl 1 rfl) ?_
          refine lv_iload_n hx hb d_M_notePairs_49 rfl (lv_at hl 2 rfl) ?_
          refine lv_iload hx hb d_M_notePairs_50 (lv_at hl 4 rfl) ?_
          refine lv_iadd hx hb d_M_notePairs_52 ?_
          refine lv_iconst (v := 1) hx hb d_M_notePairs_53 (by decide) ?_
          refine lv_iadd hx hb d_M_notePairs_54 ?_
          refine lv_topi (fun i_2 ei_2 => ?_)
          replace hm := mL_e hm i_2 ei_2
          obtain ⟨hi55, hm⟩ := mG_e hm
          refine va_bald hx hb hK hP 2 1 rfl rfl hi55 d_M_notePairs_55 ?_
          refine lv_sipush (v := 255) hx hb d_M_notePairs_56 (by decide) ?_
          refine lv_iand hx hb d_M_notePairs_59 ?_
          refine lv_ior hx hb d_M_notePairs_60 ?_
          refine lv_topi (fun y5_3 ey5_3 => ?_)
          replace hm := mL_e hm y5_3 ey5_3
          refine lv_istore (lv' := [(5, .int y5_3), (0, .ref a_this), (1, .ref a_p1), (2, .int x2), (3, .int x3), (4, .int x4)]) hx hb d_M_notePairs_61 hl (by decide) rfl (fun ls hl => ?_)
          refine lv_aload_n hx hb d_M_notePairs_63 rfl (lv_at hl 1 rfl) ?_
          refine va_get (D := E.1) (ci := 12) (v := .ref a_pairBefore) (C := R_M) (T := F_M) (N := 46) hx hb hts i_M hown hK hP 0 rfl rfl 17 (by decide) (hts _ tw_812) (fun _ h9 => h9) rfl d_M_notePairs_64 ?_
          refine lv_iload hx hb d_M_notePairs_67 (lv_at hl 5 rfl) ?_
          refine lv_aload_n hx hb d_M_notePairs_69 rfl (lv_at hl 1 rfl) ?_
          refine va_get (D := E.1) (ci := 12) (v := .ref a_pairLast) (C := R_M) (T := F_M) (N := 46) hx hb hts i_M hown hK hP 0 rfl rfl 18 (by decide) (hts _ tw_813) (fun _ h9 => h9) rfl d_M_notePairs_70 ?_
          refine lv_iload hx hb d_M_notePairs_73 (lv_at hl 0 rfl) ?_
          obtain ⟨hi75, hm⟩ := mG_e hm
          refine va_iald hx hb hK hP 1 0 rfl rfl hi75 d_M_notePairs_75 ?_
          refine lv_topi (fun v_4 ev_4 => ?_)
          replace hm := mL_e hm v_4 ev_4
          obtain ⟨hi76, hm⟩ := mG_e hm
          obtain ⟨c_5, ec_5⟩ : ∃ z : Nat → Int32, z = upd c_pairBefore x4.toNatClampNeg v_4 := ⟨_, rfl⟩
          replace hm := mL_e hm c_5 ec_5
          refine va_iast hx hb hK hP hD hS 3 0 rfl rfl hi76 d_M_notePairs_76 (fun H locs hP hD hS => ?_)
          rw [← ec_5] at hP hD
          replace hP : va_P E.1 vwCl (M_notePairs_w E a_this a_pairLast a_p1 a_pairBefore n_p1 x_row x_starts x_image x_readRow x_readStart x_readAt x_readMany x_piece x_packed x_tokenLength x_tokenValue x_counts x_lengths x_fixed x_ranked x_weight x_weightBefore x_items x_lengthRow x_step x_stepMore x_codes x_symbolTree x_distanceTree x_smallTree x_readLengths x_source x_target c_p1 c_pairLast c_5 v_plain v_closed v_rowSize v_pieces v_imageSize v_readSize v_readPieces v_packedBits v_tokens v_steps v_sourceFrom v_sourceBits v_readBits v_wrong v_made v_room) H := hP
          replace hD : va_D A (M_notePairs_w E a_this a_pairLast a_p1 a_pairBefore n_p1 x_row x_starts x_image x_readRow x_readStart x_readAt x_readMany x_piece x_packed x_tokenLength x_tokenValue x_counts x_lengths x_fixed x_ranked x_weight x_weightBefore x_items x_lengthRow x_step x_stepMore x_codes x_symbolTree x_distanceTree x_smallTree x_readLengths x_source x_target c_p1 c_pairLast c_5 v_plain v_closed v_rowSize v_pieces v_imageSize v_readSize v_readPieces v_packedBits v_tokens v_steps v_sourceFrom v_sourceBits v_readBits v_wrong v_made v_room) := hD
          refine lv_aload_n hx hb d_M_notePairs_77 rfl (lv_at hl 1 rfl) ?_
          refine va_get (D := E.1) (ci := 12) (v := .ref a_pairLast) (C := R_M) (T := F_M) (N := 46) hx hb hts i_M hown hK hP 0 rfl rfl 18 (by decide) (hts _ tw_813) (fun _ h9 => h9) rfl d_M_notePairs_78 ?_
          refine lv_iload hx hb d_M_notePairs_81 (lv_at hl 0 rfl) ?_
          refine lv_iload hx hb d_M_notePairs_83 (lv_at hl 5 rfl) ?_
          obtain ⟨hi85, hm⟩ := mG_e hm
          obtain ⟨c_6, ec_6⟩ : ∃ z : Nat → Int32, z = upd c_pairLast y5_3.toNatClampNeg x4 := ⟨_, rfl⟩
          replace hm := mL_e hm c_6 ec_6
          refine va_iast hx hb hK hP hD hS 1 0 rfl rfl hi85 d_M_notePairs_85 (fun H locs hP hD hS => ?_)
          rw [← ec_6] at hP hD
          replace hP : va_P E.1 vwCl (M_notePairs_w E a_this a_pairLast a_p1 a_pairBefore n_p1 x_row x_starts x_image x_readRow x_readStart x_readAt x_readMany x_piece x_packed x_tokenLength x_tokenValue x_counts x_lengths x_fixed x_ranked x_weight x_weightBefore x_items x_lengthRow x_step x_stepMore x_codes x_symbolTree x_distanceTree x_smallTree x_readLengths x_source x_target c_p1 c_6 c_5 v_plain v_closed v_rowSize v_pieces v_imageSize v_readSize v_readPieces v_packedBits v_tokens v_steps v_sourceFrom v_sourceBits v_readBits v_wrong v_made v_room) H := hP
          replace hD : va_D A (M_notePairs_w E a_this a_pairLast a_p1 a_pairBefore n_p1 x_row x_starts x_image x_readRow x_readStart x_readAt x_readMany x_piece x_packed x_tokenLength x_tokenValue x_counts x_lengths x_fixed x_ranked x_weight x_weightBefore x_items x_lengthRow x_step x_stepMore x_codes x_symbolTree x_distanceTree x_smallTree x_readLengths x_source x_target c_p1 c_6 c_5 v_plain v_closed v_rowSize v_pieces v_imageSize v_readSize v_readPieces v_packedBits v_tokens v_steps v_sourceFrom v_sourceBits v_readBits v_wrong v_made v_room) := hD
          obtain ⟨y4_7, ey4_7⟩ : ∃ y : Int32, y = x4 + 1 := ⟨_, rfl⟩
          replace hm := mL_e hm y4_7 ey4_7
          refine lv_iinc (v := y4_7) (lv' := [(4, .int y4_7), (5, .int y5_3), (0, .ref a_this), (1, .ref a_p1), (2, .int x2), (3, .int x3)]) hx hb d_M_notePairs_86 hl (k := 5) rfl (by rw [ey4_7]; rfl) (by decide) rfl (fun ls hl => ?_)
          refine lv_goto (tgt := 27) hx hb d_M_notePairs_89 (by decide) ?_
          exact ih_27 _ _ _ H locs ls hm hP hD hS (lv_sub hl [2, 3, 4, 5, 0] rfl)
    refine lv_iconst (v := 0) hx hb d_M_notePairs_24 (by decide) ?_
    refine lv_istore (lv' := [(4, .int 0), (0, .ref a_this), (1, .ref a_p1), (2, .int x2), (3, .int x3)]) hx hb d_M_notePairs_25 hl (by decide) rfl (fun ls hl => ?_)
    exact h_27 F _ _ _ H locs ls hm hP hD hS (lv_sub hl [1, 2, 3, 4, 0] rfl)
  have h_3 : ∀ (n_3 : Nat) (c_pairLast : Nat → Int32) (c_pairBefore : Nat → Int32) (x4 : Int32) (H : Heap) (locs : List Loc) (ls : Array Slot), (mW3 (M_notePairs_3 F (M_notePairs_24 F n_p1 c_p1 x2 x3)) n_3) c_pairLast c_pairBefore x4 = some res → va_P E.1 vwCl (M_notePairs_w E a_this a_pairLast a_p1 a_pairBefore n_p1 x_row x_starts x_image x_readRow x_readStart x_readAt x_readMany x_piece x_packed x_tokenLength x_tokenValue x_counts x_lengths x_fixed x_ranked x_weight x_weightBefore x_items x_lengthRow x_step x_stepMore x_codes x_symbolTree x_distanceTree x_smallTree x_readLengths x_source x_target c_p1 c_pairLast c_pairBefore v_plain v_closed v_rowSize v_pieces v_imageSize v_readSize v_readPieces v_packedBits v_tokens v_steps v_sourceFrom v_sourceBits v_readBits v_wrong v_made v_room) H → va_D A (M_notePairs_w E a_this a_pairLast a_p1 a_pairBefore n_p1 x_row x_starts x_image x_readRow x_readStart x_readAt x_readMany x_piece x_packed x_tokenLength x_tokenValue x_counts x_lengths x_fixed x_ranked x_weight x_weightBefore x_items x_lengthRow x_step x_stepMore x_codes x_symbolTree x_distanceTree x_smallTree x_readLengths x_source x_target c_p1 c_pairLast c_pairBefore v_plain v_closed v_rowSize v_pieces v_imageSize v_readSize v_readPieces v_packedBits v_tokens v_steps v_sourceFrom v_sourceBits v_readBits v_wrong v_made v_room) → va_S A s.heap H locs → lv_has ls 6 [(0, .ref a_this), (1, .ref a_p1), (2, .int x2), (3, .int x3), (4, .int x4)] → W p l e M_notePairs_rm s m args below meth c H locs 0 0 Q (F0 m 3 ls []) := by
    intro n_3
    induction n_3 with
    | zero => exact fun _ _ _ _ _ _ hm _ _ _ _ => (mW3_z hm).elim
    | succ n_3 ih_3 =>
      intro c_pairLast c_pairBefore x4 H locs ls hm hP hD hS hl
      replace hm := mW3_s hm
      rw [M_notePairs_3] at hm
      refine lv_iload hx hb d_M_notePairs_3 (lv_at hl 4 rfl) ?_
      refine lv_ldc (v := 65536) hx hb hown (hts _ tw_779) d_M_notePairs_5 ?_
      refine lv_icmp_ge (tgt := 24) hx hb d_M_notePairs_7 (by decide) (fun c7 => ?_) (fun c7 => ?_)
      · replace hm := mC_t hm c7
        exact h_24 _ _ H locs ls hm hP hD hS (lv_sub hl [0, 1, 2, 3] rfl)
      · replace hm := mC_f hm c7
        refine lv_aload_n hx hb d_M_notePairs_10 rfl (lv_at hl 0 rfl) ?_
        refine va_get (D := E.1) (ci := 12) (v := .ref a_pairLast) (C := R_M) (T := F_M) (N := 46) hx hb hts i_M hown hK hP 0 rfl rfl 18 (by decide) (hts _ tw_813) (fun _ h9 => h9) rfl d_M_notePairs_11 ?_
        refine lv_iload hx hb d_M_notePairs_14 (lv_at hl 4 rfl) ?_
        refine lv_iconst (v := (-1)) hx hb d_M_notePairs_16 (by decide) ?_
        obtain ⟨hi17, hm⟩ := mG_e hm
        obtain ⟨c_8, ec_8⟩ : ∃ z : Nat → Int32, z = upd c_pairLast x4.toNatClampNeg (-1) := ⟨_, rfl⟩
        replace hm := mL_e hm c_8 ec_8
        refine va_iast hx hb hK hP hD hS 1 0 rfl rfl hi17 d_M_notePairs_17 (fun H locs hP hD hS => ?_)
        rw [← ec_8] at hP hD
        replace hP : va_P E.1 vwCl (M_notePairs_w E a_this a_pairLast a_p1 a_pairBefore n_p1 x_row x_starts x_image x_readRow x_readStart x_readAt x_readMany x_piece x_packed x_tokenLength x_tokenValue x_counts x_lengths x_fixed x_ranked x_weight x_weightBefore x_items x_lengthRow x_step x_stepMore x_codes x_symbolTree x_distanceTree x_smallTree x_readLengths x_source x_target c_p1 c_8 c_pairBefore v_plain v_closed v_rowSize v_pieces v_imageSize v_readSize v_readPieces v_packedBits v_tokens v_steps v_sourceFrom v_sourceBits v_readBits v_wrong v_made v_room) H := hP
        replace hD : va_D A (M_notePairs_w E a_this a_pairLast a_p1 a_pairBefore n_p1 x_row x_starts x_image x_readRow x_readStart x_readAt x_readMany x_piece x_packed x_tokenLength x_tokenValue x_counts x_lengths x_fixed x_ranked x_weight x_weightBefore x_items x_lengthRow x_step x_stepMore x_codes x_symbolTree x_distanceTree x_smallTree x_readLengths x_source x_target c_p1 c_8 c_pairBefore v_plain v_closed v_rowSize v_pieces v_imageSize v_readSize v_readPieces v_packedBits v_tokens v_steps v_sourceFrom v_sourceBits v_readBits v_wrong v_made v_room) := hD
        obtain ⟨y4_9, ey4_9⟩ : ∃ y : Int32, y = x4 + 1 := ⟨_, rfl⟩
        replace hm := mL_e hm y4_9 ey4_9
        refine lv_iinc (v := y4_9) (lv' := [(4, .int y4_9), (0, .ref a_this), (1, .ref a_p1), (2, .int x2), (3, .int x3)]) hx hb d_M_notePairs_18 hl (k := 4) rfl (by rw [ey4_9]; rfl) (by decide) rfl (fun ls hl => ?_)
        refine lv_goto (tgt := 3) hx hb d_M_notePairs_21 (by decide) ?_
        exact ih_3 _ _ _ H locs ls hm hP hD hS (lv_sub hl [1, 2, 3, 4, 0] rfl)
  refine lv_iconst (v := 0) hx hb d_M_notePairs_0 (by decide) ?_
  refine lv_istore (lv' := [(4, .int 0), (0, .ref a_this), (1, .ref a_p1), (2, .int x2), (3, .int x3)]) hx hb d_M_notePairs_1 hl (by decide) rfl (fun ls hl => ?_)
  exact h_3 F _ _ _ H locs ls hm hP hD hS (lv_sub hl [1, 2, 3, 4, 0] rfl)
theorem d_M_cutPart_0 : decode b_M_cutPart 0 = .ok (.aload_n 0, 1) := by decide +kernel
theorem d_M_cutPart_1 : decode b_M_cutPart 1 = .ok (.iconst 0, 1) := by decide +kernel
theorem d_M_cutPart_2 : decode b_M_cutPart 2 = .ok (.putfield 126, 3) := by decide +kernel
theorem d_M_cutPart_5 : decode b_M_cutPart 5 = .ok (.iload_n 3, 1) := by decide +kernel
theorem d_M_cutPart_6 : decode b_M_cutPart 6 = .ok (.istore 5, 2) := by decide +kernel
theorem d_M_cutPart_8 : decode b_M_cutPart 8 = .ok (.iload 5, 2) := by decide +kernel
theorem d_M_cutPart_10 : decode b_M_cutPart 10 = .ok (.iload 4, 2) := by decide +kernel
theorem d_M_cutPart_12 : decode b_M_cutPart 12 = .ok (.if_icmp .ge 252, 3) := by decide +kernel
theorem d_M_cutPart_15 : decode b_M_cutPart 15 = .ok (.iconst 0, 1) := by decide +kernel
theorem d_M_cutPart_16 : decode b_M_cutPart 16 = .ok (.istore 6, 2) := by decide +kernel
theorem d_M_cutPart_18 : decode b_M_cutPart 18 = .ok (.iconst 0, 1) := by decide +kernel
theorem d_M_cutPart_19 : decode b_M_cutPart 19 = .ok (.istore 7, 2) := by decide +kernel
theorem d_M_cutPart_21 : decode b_M_cutPart 21 = .ok (.iconst 0, 1) := by decide +kernel
theorem d_M_cutPart_22 : decode b_M_cutPart 22 = .ok (.istore 8, 2) := by decide +kernel
theorem d_M_cutPart_24 : decode b_M_cutPart 24 = .ok (.iload 5, 2) := by decide +kernel
theorem d_M_cutPart_26 : decode b_M_cutPart 26 = .ok (.iconst 3, 1) := by decide +kernel
theorem d_M_cutPart_27 : decode b_M_cutPart 27 = .ok (.iadd, 1) := by decide +kernel
theorem d_M_cutPart_28 : decode b_M_cutPart 28 = .ok (.iload 4, 2) := by decide +kernel
theorem d_M_cutPart_30 : decode b_M_cutPart 30 = .ok (.if_icmp .gt 13, 3) := by decide +kernel
theorem d_M_cutPart_33 : decode b_M_cutPart 33 = .ok (.aload_n 0, 1) := by decide +kernel
theorem d_M_cutPart_34 : decode b_M_cutPart 34 = .ok (.getfield 40, 3) := by decide +kernel
theorem d_M_cutPart_37 : decode b_M_cutPart 37 = .ok (.iload 5, 2) := by decide +kernel
theorem d_M_cutPart_39 : decode b_M_cutPart 39 = .ok (.iaload, 1) := by decide +kernel
theorem d_M_cutPart_40 : decode b_M_cutPart 40 = .ok (.goto 4, 3) := by decide +kernel
theorem d_M_cutPart_43 : decode b_M_cutPart 43 = .ok (.iconst (-1), 1) := by decide +kernel
theorem d_M_cutPart_44 : decode b_M_cutPart 44 = .ok (.istore 9, 2) := by decide +kernel
theorem d_M_cutPart_46 : decode b_M_cutPart 46 = .ok (.iload 9, 2) := by decide +kernel
theorem d_M_cutPart_48 : decode b_M_cutPart 48 = .ok (.ifCond .lt 144, 3) := by decide +kernel
theorem d_M_cutPart_51 : decode b_M_cutPart 51 = .ok (.iload 5, 2) := by decide +kernel
theorem d_M_cutPart_53 : decode b_M_cutPart 53 = .ok (.iload 9, 2) := by decide +kernel
theorem d_M_cutPart_55 : decode b_M_cutPart 55 = .ok (.isub, 1) := by decide +kernel
theorem d_M_cutPart_56 : decode b_M_cutPart 56 = .ok (.ldc 129, 2) := by decide +kernel
theorem d_M_cutPart_58 : decode b_M_cutPart 58 = .ok (.if_icmp .gt 134, 3) := by decide +kernel
theorem d_M_cutPart_61 : decode b_M_cutPart 61 = .ok (.iload 8, 2) := by decide +kernel
theorem d_M_cutPart_63 : decode b_M_cutPart 63 = .ok (.bipush 16, 2) := by decide +kernel
theorem d_M_cutPart_65 : decode b_M_cutPart 65 = .ok (.if_icmp .ge 127, 3) := by decide +kernel
theorem d_M_cutPart_68 : decode b_M_cutPart 68 = .ok (.iconst 2, 1) := by decide +kernel
theorem d_M_cutPart_69 : decode b_M_cutPart 69 = .ok (.istore 10, 2) := by decide +kernel
theorem d_M_cutPart_71 : decode b_M_cutPart 71 = .ok (.iload 5, 2) := by decide +kernel
theorem d_M_cutPart_73 : decode b_M_cutPart 73 = .ok (.iload 10, 2) := by decide +kernel
theorem d_M_cutPart_75 : decode b_M_cutPart 75 = .ok (.iadd, 1) := by decide +kernel
theorem d_M_cutPart_76 : decode b_M_cutPart 76 = .ok (.iload 4, 2) := by decide +kernel
theorem d_M_cutPart_78 : decode b_M_cutPart 78 = .ok (.if_icmp .ge 38, 3) := by decide +kernel
theorem d_M_cutPart_81 : decode b_M_cutPart 81 = .ok (.iload 10, 2) := by decide +kernel
theorem d_M_cutPart_83 : decode b_M_cutPart 83 = .ok (.sipush 258, 3) := by decide +kernel
theorem d_M_cutPart_86 : decode b_M_cutPart 86 = .ok (.if_icmp .ge 30, 3) := by decide +kernel
theorem d_M_cutPart_89 : decode b_M_cutPart 89 = .ok (.aload_n 1, 1) := by decide +kernel
theorem d_M_cutPart_90 : decode b_M_cutPart 90 = .ok (.iload_n 2, 1) := by decide +kernel
theorem d_M_cutPart_91 : decode b_M_cutPart 91 = .ok (.iload 9, 2) := by decide +kernel
theorem d_M_cutPart_93 : decode b_M_cutPart 93 = .ok (.iadd, 1) := by decide +kernel
theorem d_M_cutPart_94 : decode b_M_cutPart 94 = .ok (.iload 10, 2) := by decide +kernel
theorem d_M_cutPart_96 : decode b_M_cutPart 96 = .ok (.iadd, 1) := by decide +kernel
theorem d_M_cutPart_97 : decode b_M_cutPart 97 = .ok (.baload, 1) := by decide +kernel
theorem d_M_cutPart_98 : decode b_M_cutPart 98 = .ok (.aload_n 1, 1) := by decide +kernel
theorem d_M_cutPart_99 : decode b_M_cutPart 99 = .ok (.iload_n 2, 1) := by decide +kernel
theorem d_M_cutPart_100 : decode b_M_cutPart 100 = .ok (.iload 5, 2) := by decide +kernel
theorem d_M_cutPart_102 : decode b_M_cutPart 102 = .ok (.iadd, 1) := by decide +kernel
theorem d_M_cutPart_103 : decode b_M_cutPart 103 = .ok (.iload 10, 2) := by decide +kernel
theorem d_M_cutPart_105 : decode b_M_cutPart 105 = .ok (.iadd, 1) := by decide +kernel
theorem d_M_cutPart_106 : decode b_M_cutPart 106 = .ok (.baload, 1) := by decide +kernel
theorem d_M_cutPart_107 : decode b_M_cutPart 107 = .ok (.if_icmp .ne 9, 3) := by decide +kernel
theorem d_M_cutPart_110 : decode b_M_cutPart 110 = .ok (.iinc 10 1, 3) := by decide +kernel
theorem d_M_cutPart_113 : decode b_M_cutPart 113 = .ok (.goto (-42), 3) := by decide +kernel
theorem d_M_cutPart_116 : decode b_M_cutPart 116 = .ok (.iload 10, 2) := by decide +kernel
theorem d_M_cutPart_118 : decode b_M_cutPart 118 = .ok (.iconst 2, 1) := by decide +kernel
theorem d_M_cutPart_119 : decode b_M_cutPart 119 = .ok (.if_icmp .le 10, 3) := by decide +kernel
theorem d_M_cutPart_122 : decode b_M_cutPart 122 = .ok (.iload 8, 2) := by decide +kernel
theorem d_M_cutPart_124 : decode b_M_cutPart 124 = .ok (.iconst 1, 1) := by decide +kernel
theorem d_M_cutPart_125 : decode b_M_cutPart 125 = .ok (.iadd, 1) := by decide +kernel
theorem d_M_cutPart_126 : decode b_M_cutPart 126 = .ok (.goto 5, 3) := by decide +kernel
theorem d_M_cutPart_129 : decode b_M_cutPart 129 = .ok (.iload 8, 2) := by decide +kernel
theorem d_M_cutPart_131 : decode b_M_cutPart 131 = .ok (.istore 8, 2) := by decide +kernel
theorem d_M_cutPart_133 : decode b_M_cutPart 133 = .ok (.iload 10, 2) := by decide +kernel
theorem d_M_cutPart_135 : decode b_M_cutPart 135 = .ok (.iconst 2, 1) := by decide +kernel
theorem d_M_cutPart_136 : decode b_M_cutPart 136 = .ok (.if_icmp .le 18, 3) := by decide +kernel
theorem d_M_cutPart_139 : decode b_M_cutPart 139 = .ok (.iload 10, 2) := by decide +kernel
theorem d_M_cutPart_141 : decode b_M_cutPart 141 = .ok (.iload 6, 2) := by decide +kernel
theorem d_M_cutPart_143 : decode b_M_cutPart 143 = .ok (.if_icmp .le 11, 3) := by decide +kernel
theorem d_M_cutPart_146 : decode b_M_cutPart 146 = .ok (.iload 5, 2) := by decide +kernel
theorem d_M_cutPart_148 : decode b_M_cutPart 148 = .ok (.iload 9, 2) := by decide +kernel
theorem d_M_cutPart_150 : decode b_M_cutPart 150 = .ok (.isub, 1) := by decide +kernel
theorem d_M_cutPart_151 : decode b_M_cutPart 151 = .ok (.goto 5, 3) := by decide +kernel
theorem d_M_cutPart_154 : decode b_M_cutPart 154 = .ok (.iload 7, 2) := by decide +kernel
theorem d_M_cutPart_156 : decode b_M_cutPart 156 = .ok (.istore 7, 2) := by decide +kernel
theorem d_M_cutPart_158 : decode b_M_cutPart 158 = .ok (.iload 10, 2) := by decide +kernel
theorem d_M_cutPart_160 : decode b_M_cutPart 160 = .ok (.iconst 2, 1) := by decide +kernel
theorem d_M_cutPart_161 : decode b_M_cutPart 161 = .ok (.if_icmp .le 15, 3) := by decide +kernel
theorem d_M_cutPart_164 : decode b_M_cutPart 164 = .ok (.iload 10, 2) := by decide +kernel
theorem d_M_cutPart_166 : decode b_M_cutPart 166 = .ok (.iload 6, 2) := by decide +kernel
theorem d_M_cutPart_168 : decode b_M_cutPart 168 = .ok (.if_icmp .le 8, 3) := by decide +kernel
theorem d_M_cutPart_171 : decode b_M_cutPart 171 = .ok (.iload 10, 2) := by decide +kernel
theorem d_M_cutPart_173 : decode b_M_cutPart 173 = .ok (.goto 5, 3) := by decide +kernel
theorem d_M_cutPart_176 : decode b_M_cutPart 176 = .ok (.iload 6, 2) := by decide +kernel
theorem d_M_cutPart_178 : decode b_M_cutPart 178 = .ok (.istore 6, 2) := by decide +kernel
theorem d_M_cutPart_180 : decode b_M_cutPart 180 = .ok (.aload_n 0, 1) := by decide +kernel
theorem d_M_cutPart_181 : decode b_M_cutPart 181 = .ok (.getfield 40, 3) := by decide +kernel
theorem d_M_cutPart_184 : decode b_M_cutPart 184 = .ok (.iload 9, 2) := by decide +kernel
theorem d_M_cutPart_186 : decode b_M_cutPart 186 = .ok (.iaload, 1) := by decide +kernel
theorem d_M_cutPart_187 : decode b_M_cutPart 187 = .ok (.istore 9, 2) := by decide +kernel
theorem d_M_cutPart_189 : decode b_M_cutPart 189 = .ok (.goto (-143), 3) := by decide +kernel
theorem d_M_cutPart_192 : decode b_M_cutPart 192 = .ok (.aload_n 0, 1) := by decide +kernel
theorem d_M_cutPart_193 : decode b_M_cutPart 193 = .ok (.getfield 46, 3) := by decide +kernel
theorem d_M_cutPart_196 : decode b_M_cutPart 196 = .ok (.aload_n 0, 1) := by decide +kernel
theorem d_M_cutPart_197 : decode b_M_cutPart 197 = .ok (.getfield 126, 3) := by decide +kernel
theorem d_M_cutPart_200 : decode b_M_cutPart 200 = .ok (.iload 6, 2) := by decide +kernel
theorem d_M_cutPart_202 : decode b_M_cutPart 202 = .ok (.iastore, 1) := by decide +kernel
theorem d_M_cutPart_203 : decode b_M_cutPart 203 = .ok (.aload_n 0, 1) := by decide +kernel
theorem d_M_cutPart_204 : decode b_M_cutPart 204 = .ok (.getfield 49, 3) := by decide +kernel
theorem d_M_cutPart_207 : decode b_M_cutPart 207 = .ok (.aload_n 0, 1) := by decide +kernel
theorem d_M_cutPart_208 : decode b_M_cutPart 208 = .ok (.getfield 126, 3) := by decide +kernel
theorem d_M_cutPart_211 : decode b_M_cutPart 211 = .ok (.iload 6, 2) := by decide +kernel
theorem d_M_cutPart_213 : decode b_M_cutPart 213 = .ok (.ifCond .le 8, 3) := by decide +kernel
theorem d_M_cutPart_216 : decode b_M_cutPart 216 = .ok (.iload 7, 2) := by decide +kernel
theorem d_M_cutPart_218 : decode b_M_cutPart 218 = .ok (.goto 13, 3) := by decide +kernel
theorem d_M_cutPart_221 : decode b_M_cutPart 221 = .ok (.aload_n 1, 1) := by decide +kernel
theorem d_M_cutPart_222 : decode b_M_cutPart 222 = .ok (.iload_n 2, 1) := by decide +kernel
theorem d_M_cutPart_223 : decode b_M_cutPart 223 = .ok (.iload 5, 2) := by decide +kernel
theorem d_M_cutPart_225 : decode b_M_cutPart 225 = .ok (.iadd, 1) := by decide +kernel
theorem d_M_cutPart_226 : decode b_M_cutPart 226 = .ok (.baload, 1) := by decide +kernel
theorem d_M_cutPart_227 : decode b_M_cutPart 227 = .ok (.sipush 255, 3) := by decide +kernel
theorem d_M_cutPart_230 : decode b_M_cutPart 230 = .ok (.iand, 1) := by decide +kernel
theorem d_M_cutPart_231 : decode b_M_cutPart 231 = .ok (.iastore, 1) := by decide +kernel
theorem d_M_cutPart_232 : decode b_M_cutPart 232 = .ok (.aload_n 0, 1) := by decide +kernel
theorem d_M_cutPart_233 : decode b_M_cutPart 233 = .ok (.dup, 1) := by decide +kernel
theorem d_M_cutPart_234 : decode b_M_cutPart 234 = .ok (.getfield 126, 3) := by decide +kernel
theorem d_M_cutPart_237 : decode b_M_cutPart 237 = .ok (.iconst 1, 1) := by decide +kernel
theorem d_M_cutPart_238 : decode b_M_cutPart 238 = .ok (.iadd, 1) := by decide +kernel
theorem d_M_cutPart_239 : decode b_M_cutPart 239 = .ok (.putfield 126, 3) := by decide +kernel
theorem d_M_cutPart_242 : decode b_M_cutPart 242 = .ok (.iload 6, 2) := by decide +kernel
theorem d_M_cutPart_244 : decode b_M_cutPart 244 = .ok (.ifCond .le 11, 3) := by decide +kernel
theorem d_M_cutPart_247 : decode b_M_cutPart 247 = .ok (.iload 5, 2) := by decide +kernel
theorem d_M_cutPart_249 : decode b_M_cutPart 249 = .ok (.iload 6, 2) := by decide +kernel
theorem d_M_cutPart_251 : decode b_M_cutPart 251 = .ok (.iadd, 1) := by decide +kernel
theorem d_M_cutPart_252 : decode b_M_cutPart 252 = .ok (.goto 7, 3) := by decide +kernel
theorem d_M_cutPart_255 : decode b_M_cutPart 255 = .ok (.iload 5, 2) := by decide +kernel
theorem d_M_cutPart_257 : decode b_M_cutPart 257 = .ok (.iconst 1, 1) := by decide +kernel
theorem d_M_cutPart_258 : decode b_M_cutPart 258 = .ok (.iadd, 1) := by decide +kernel
theorem d_M_cutPart_259 : decode b_M_cutPart 259 = .ok (.istore 5, 2) := by decide +kernel
theorem d_M_cutPart_261 : decode b_M_cutPart 261 = .ok (.goto (-253), 3) := by decide +kernel
theorem d_M_cutPart_264 : decode b_M_cutPart 264 = .ok (.return_, 1) := by decide +kernel
def M_cutPart_259 (F : Nat) (k_8 : Int32 → (Nat → Int32) → (Nat → Int32) → Int32 → Option (Unit × Int32 × (Nat → Int32) × (Nat → Int32))) (v_tokens : Int32) (c_tokenLength : Nat → Int32) (c_tokenValue : Nat → Int32) (s0 : Int32) : Option (Unit × Int32 × (Nat → Int32) × (Nat → Int32)) :=
  k_8 v_tokens c_tokenLength c_tokenValue s0
def M_cutPart_231 (F : Nat) (k_8 : Int32 → (Nat → Int32) → (Nat → Int32) → Int32 → Option (Unit × Int32 × (Nat → Int32) × (Nat → Int32))) (v_tokens : Int32) (c_tokenLength : Nat → Int32) (c_tokenValue : Nat → Int32) (x5 : Int32) (x6 : Int32) (s1 : Int32) (s2 : Int32) : Option (Unit × Int32 × (Nat → Int32) × (Nat → Int32)) :=
  mG s1 4096 (mL (upd c_tokenValue s1.toNatClampNeg s2) fun c_1 => mL (v_tokens + 1) fun v_2 => mC (x6 ≤ 0) ((M_cutPart_259 F k_8) v_2 c_tokenLength c_1 (x5 + 1)) ((M_cutPart_259 F k_8) v_2 c_tokenLength c_1 (x5 + x6)))
def M_cutPart_192 (F : Nat) (n_p1 : Nat) (c_p1 : Nat → Int32) (x2 : Int32) (k_8 : Int32 → (Nat → Int32) → (Nat → Int32) → Int32 → Option (Unit × Int32 × (Nat → Int32) × (Nat → Int32))) (v_tokens : Int32) (c_tokenLength : Nat → Int32) (c_tokenValue : Nat → Int32) (x5 : Int32) (x6 : Int32) (x7 : Int32) : Option (Unit × Int32 × (Nat → Int32) × (Nat → Int32)) :=
  mG v_tokens 4096 (mL (upd c_tokenLength v_tokens.toNatClampNeg x6) fun c_3 => mC (x6 ≤ 0) (mL (x2 + x5) fun i_4 => mG i_4 n_p1 ((M_cutPart_231 F k_8) v_tokens c_3 c_tokenValue x5 x6 v_tokens ((c_p1 i_4.toNatClampNeg) &&& 255))) ((M_cutPart_231 F k_8) v_tokens c_3 c_tokenValue x5 x6 v_tokens x7))
def M_cutPart_178 (F : Nat) (c_pairBefore : Nat → Int32) (k_46 : Int32 → (Nat → Int32) → (Nat → Int32) → Int32 → Int32 → Int32 → Int32 → Int32 → Option (Unit × Int32 × (Nat → Int32) × (Nat → Int32))) (v_tokens : Int32) (c_tokenLength : Nat → Int32) (c_tokenValue : Nat → Int32) (x5 : Int32) (x7 : Int32) (x8 : Int32) (x9 : Int32) (s0 : Int32) : Option (Unit × Int32 × (Nat → Int32) × (Nat → Int32)) :=
  mG x9 65536 (mL (c_pairBefore x9.toNatClampNeg) fun y9_5 => k_46 v_tokens c_tokenLength c_tokenValue x5 s0 x7 x8 y9_5)
def M_cutPart_176 (F : Nat) (c_pairBefore : Nat → Int32) (k_46 : Int32 → (Nat → Int32) → (Nat → Int32) → Int32 → Int32 → Int32 → Int32 → Int32 → Option (Unit × Int32 × (Nat → Int32) × (Nat → Int32))) (v_tokens : Int32) (c_tokenLength : Nat → Int32) (c_tokenValue : Nat → Int32) (x5 : Int32) (x6 : Int32) (x7 : Int32) (x8 : Int32) (x9 : Int32) : Option (Unit × Int32 × (Nat → Int32) × (Nat → Int32)) :=
  (M_cutPart_178 F c_pairBefore k_46) v_tokens c_tokenLength c_tokenValue x5 x7 x8 x9 x6
def M_cutPart_156 (F : Nat) (c_pairBefore : Nat → Int32) (k_46 : Int32 → (Nat → Int32) → (Nat → Int32) → Int32 → Int32 → Int32 → Int32 → Int32 → Option (Unit × Int32 × (Nat → Int32) × (Nat → Int32))) (v_tokens : Int32) (c_tokenLength : Nat → Int32) (c_tokenValue : Nat → Int32) (x5 : Int32) (x6 : Int32) (x8 : Int32) (x9 : Int32) (x10 : Int32) (s0 : Int32) : Option (Unit × Int32 × (Nat → Int32) × (Nat → Int32)) :=
  mC (x10 ≤ 2) ((M_cutPart_176 F c_pairBefore k_46) v_tokens c_tokenLength c_tokenValue x5 x6 s0 x8 x9) (mC (x10 ≤ x6) ((M_cutPart_176 F c_pairBefore k_46) v_tokens c_tokenLength c_tokenValue x5 x6 s0 x8 x9) ((M_cutPart_178 F c_pairBefore k_46) v_tokens c_tokenLength c_tokenValue x5 s0 x8 x9 x10))
def M_cutPart_154 (F : Nat) (c_pairBefore : Nat → Int32) (k_46 : Int32 → (Nat → Int32) → (Nat → Int32) → Int32 → Int32 → Int32 → Int32 → Int32 → Option (Unit × Int32 × (Nat → Int32) × (Nat → Int32))) (v_tokens : Int32) (c_tokenLength : Nat → Int32) (c_tokenValue : Nat → Int32) (x5 : Int32) (x6 : Int32) (x7 : Int32) (x8 : Int32) (x9 : Int32) (x10 : Int32) : Option (Unit × Int32 × (Nat → Int32) × (Nat → Int32)) :=
  (M_cutPart_156 F c_pairBefore k_46) v_tokens c_tokenLength c_tokenValue x5 x6 x8 x9 x10 x7
def M_cutPart_131 (F : Nat) (c_pairBefore : Nat → Int32) (k_46 : Int32 → (Nat → Int32) → (Nat → Int32) → Int32 → Int32 → Int32 → Int32 → Int32 → Option (Unit × Int32 × (Nat → Int32) × (Nat → Int32))) (v_tokens : Int32) (c_tokenLength : Nat → Int32) (c_tokenValue : Nat → Int32) (x5 : Int32) (x6 : Int32) (x7 : Int32) (x9 : Int32) (x10 : Int32) (s0 : Int32) : Option (Unit × Int32 × (Nat → Int32) × (Nat → Int32)) :=
  mC (x10 ≤ 2) ((M_cutPart_154 F c_pairBefore k_46) v_tokens c_tokenLength c_tokenValue x5 x6 x7 s0 x9 x10) (mC (x10 ≤ x6) ((M_cutPart_154 F c_pairBefore k_46) v_tokens c_tokenLength c_tokenValue x5 x6 x7 s0 x9 x10) ((M_cutPart_156 F c_pairBefore k_46) v_tokens c_tokenLength c_tokenValue x5 x6 s0 x9 x10 (x5 - x9)))
def M_cutPart_116 (F : Nat) (c_pairBefore : Nat → Int32) (k_46 : Int32 → (Nat → Int32) → (Nat → Int32) → Int32 → Int32 → Int32 → Int32 → Int32 → Option (Unit × Int32 × (Nat → Int32) × (Nat → Int32))) (v_tokens : Int32) (c_tokenLength : Nat → Int32) (c_tokenValue : Nat → Int32) (x5 : Int32) (x6 : Int32) (x7 : Int32) (x8 : Int32) (x9 : Int32) (x10 : Int32) : Option (Unit × Int32 × (Nat → Int32) × (Nat → Int32)) :=
  mC (x10 ≤ 2) ((M_cutPart_131 F c_pairBefore k_46) v_tokens c_tokenLength c_tokenValue x5 x6 x7 x9 x10 x8) ((M_cutPart_131 F c_pairBefore k_46) v_tokens c_tokenLength c_tokenValue x5 x6 x7 x9 x10 (x8 + 1))
def M_cutPart_71 (F : Nat) (n_p1 : Nat) (c_p1 : Nat → Int32) (x2 : Int32) (x4 : Int32) (k_116 : Int32 → (Nat → Int32) → (Nat → Int32) → Int32 → Int32 → Int32 → Int32 → Int32 → Int32 → Option (Unit × Int32 × (Nat → Int32) × (Nat → Int32))) (k_71 : Int32 → (Nat → Int32) → (Nat → Int32) → Int32 → Int32 → Int32 → Int32 → Int32 → Int32 → Option (Unit × Int32 × (Nat → Int32) × (Nat → Int32))) (v_tokens : Int32) (c_tokenLength : Nat → Int32) (c_tokenValue : Nat → Int32) (x5 : Int32) (x6 : Int32) (x7 : Int32) (x8 : Int32) (x9 : Int32) (x10 : Int32) : Option (Unit × Int32 × (Nat → Int32) × (Nat → Int32)) :=
  mC (x4 ≤ (x5 + x10)) (k_116 v_tokens c_tokenLength c_tokenValue x5 x6 x7 x8 x9 x10) (mC (258 ≤ x10) (k_116 v_tokens c_tokenLength c_tokenValue x5 x6 x7 x8 x9 x10) (mL ((x2 + x9) + x10) fun i_6 => mG i_6 n_p1 (mL ((x2 + x5) + x10) fun i_7 => mG i_7 n_p1 (mC ((c_p1 i_6.toNatClampNeg) = (c_p1 i_7.toNatClampNeg)) (mL (x10 + 1) fun y10_8 => k_71 v_tokens c_tokenLength c_tokenValue x5 x6 x7 x8 x9 y10_8) (k_116 v_tokens c_tokenLength c_tokenValue x5 x6 x7 x8 x9 x10)))))
def M_cutPart_46 (F : Nat) (n_p1 : Nat) (c_pairBefore : Nat → Int32) (c_p1 : Nat → Int32) (x2 : Int32) (x4 : Int32) (k_192 : Int32 → (Nat → Int32) → (Nat → Int32) → Int32 → Int32 → Int32 → Option (Unit × Int32 × (Nat → Int32) × (Nat → Int32))) (k_46 : Int32 → (Nat → Int32) → (Nat → Int32) → Int32 → Int32 → Int32 → Int32 → Int32 → Option (Unit × Int32 × (Nat → Int32) × (Nat → Int32))) (v_tokens : Int32) (c_tokenLength : Nat → Int32) (c_tokenValue : Nat → Int32) (x5 : Int32) (x6 : Int32) (x7 : Int32) (x8 : Int32) (x9 : Int32) : Option (Unit × Int32 × (Nat → Int32) × (Nat → Int32)) :=
  mC (x9 < 0) (k_192 v_tokens c_tokenLength c_tokenValue x5 x6 x7) (mC (32768 < (x5 - x9)) (k_192 v_tokens c_tokenLength c_tokenValue x5 x6 x7) (mC (16 ≤ x8) (k_192 v_tokens c_tokenLength c_tokenValue x5 x6 x7) ((mW9 (M_cutPart_71 F n_p1 c_p1 x2 x4 (M_cutPart_116 F c_pairBefore k_46)) F) v_tokens c_tokenLength c_tokenValue x5 x6 x7 x8 x9 2)))
def M_cutPart_44 (F : Nat) (n_p1 : Nat) (c_pairBefore : Nat → Int32) (c_p1 : Nat → Int32) (x2 : Int32) (x4 : Int32) (k_8 : Int32 → (Nat → Int32) → (Nat → Int32) → Int32 → Option (Unit × Int32 × (Nat → Int32) × (Nat → Int32))) (v_tokens : Int32) (c_tokenLength : Nat → Int32) (c_tokenValue : Nat → Int32) (x5 : Int32) (x6 : Int32) (x7 : Int32) (x8 : Int32) (s0 : Int32) : Option (Unit × Int32 × (Nat → Int32) × (Nat → Int32)) :=
  (mW8 (M_cutPart_46 F n_p1 c_pairBefore c_p1 x2 x4 (M_cutPart_192 F n_p1 c_p1 x2 k_8)) F) v_tokens c_tokenLength c_tokenValue x5 x6 x7 x8 s0
def M_cutPart_8 (F : Nat) (n_p1 : Nat) (c_pairBefore : Nat → Int32) (c_p1 : Nat → Int32) (x2 : Int32) (x4 : Int32) (k_8 : Int32 → (Nat → Int32) → (Nat → Int32) → Int32 → Option (Unit × Int32 × (Nat → Int32) × (Nat → Int32))) (v_tokens : Int32) (c_tokenLength : Nat → Int32) (c_tokenValue : Nat → Int32) (x5 : Int32) : Option (Unit × Int32 × (Nat → Int32) × (Nat → Int32)) :=
  mC (x4 ≤ x5) (some ((), v_tokens, c_tokenLength, c_tokenValue)) (mC (x4 < (x5 + 3)) ((M_cutPart_44 F n_p1 c_pairBefore c_p1 x2 x4 k_8) v_tokens c_tokenLength c_tokenValue x5 0 0 0 (-1)) (mG x5 65536 ((M_cutPart_44 F n_p1 c_pairBefore c_p1 x2 x4 k_8) v_tokens c_tokenLength c_tokenValue x5 0 0 0 (c_pairBefore x5.toNatClampNeg))))
abbrev M_cutPart_w (E : xE) (a_this : Nat) (a_pairBefore : Nat) (a_p1 : Nat) (a_tokenLength : Nat) (a_tokenValue : Nat) (n_p1 : Nat) (x_row : Value) (x_starts : Value) (x_image : Value) (x_readRow : Value) (x_readStart : Value) (x_readAt : Value) (x_readMany : Value) (x_piece : Value) (x_packed : Value) (x_pairLast : Value) (x_counts : Value) (x_lengths : Value) (x_fixed : Value) (x_ranked : Value) (x_weight : Value) (x_weightBefore : Value) (x_items : Value) (x_lengthRow : Value) (x_step : Value) (x_stepMore : Value) (x_codes : Value) (x_symbolTree : Value) (x_distanceTree : Value) (x_smallTree : Value) (x_readLengths : Value) (x_source : Value) (x_target : Value) (c_pairBefore : Nat → Int32) (c_p1 : Nat → Int32) (v_tokens : Int32) (c_tokenLength : Nat → Int32) (c_tokenValue : Nat → Int32) (v_plain : Int32) (v_closed : Int32) (v_rowSize : Int32) (v_pieces : Int32) (v_imageSize : Int32) (v_readSize : Int32) (v_readPieces : Int32) (v_packedBits : Int32) (v_steps : Int32) (v_sourceFrom : Int32) (v_sourceBits : Int32) (v_readBits : Int32) (v_wrong : Int32) (v_made : Int32) (v_room : Int32) : va_W := [(a_this, .inr (12, [.int v_plain, .int v_closed, .int v_rowSize, x_row, .int v_pieces, x_starts, .int v_imageSize, x_image, .int v_readSize, x_readRow, .int v_readPieces, x_readStart, x_readAt, x_readMany, x_piece, x_packed, .int v_packedBits, .ref a_pairBefore, x_pairLast, .int v_tokens, .ref a_tokenLength, .ref a_tokenValue, x_counts, x_lengths, x_fixed, x_ranked, x_weight, x_weightBefore, x_items, x_lengthRow, .int v_steps, x_step, x_stepMore, x_codes, x_symbolTree, x_distanceTree, x_smallTree, x_readLengths, x_source, .int v_sourceFrom, .int v_sourceBits, .int v_readBits, .int v_wrong, x_target, .int v_made, .int v_room])), (a_pairBefore, .inl (E.2.1, 65536, .inl c_pairBefore)), (a_p1, .inl (E.2.2.1, n_p1, .inl c_p1)), (a_tokenLength, .inl (E.2.1, 4096, .inl c_tokenLength)), (a_tokenValue, .inl (E.2.1, 4096, .inl c_tokenValue))]
def M_cutPart (F : Nat) (n_p1 : Nat) (c_pairBefore : Nat → Int32) (c_p1 : Nat → Int32) (v_tokens : Int32) (c_tokenLength : Nat → Int32) (c_tokenValue : Nat → Int32) (x2 : Int32) (x3 : Int32) (x4 : Int32) : Option (Unit × Int32 × (Nat → Int32) × (Nat → Int32)) :=
  (mW4 (M_cutPart_8 F n_p1 c_pairBefore c_p1 x2 x4) F) 0 c_tokenLength c_tokenValue x3
abbrev M_cutPart_rm : Room := { frames := 0, cells := 0, slots := 0, locals := 0 }
set_option maxHeartbeats 4000000 in
set_option maxRecDepth 100000 in
theorem c_M_cutPart (l : Launch) (E : xE) (F sz : Nat) (a_this : Nat) (a_pairBefore : Nat) (a_p1 : Nat) (a_tokenLength : Nat) (a_tokenValue : Nat) (n_p1 : Nat) (x_row : Value) (x_starts : Value) (x_image : Value) (x_readRow : Value) (x_readStart : Value) (x_readAt : Value) (x_readMany : Value) (x_piece : Value) (x_packed : Value) (x_pairLast : Value) (x_counts : Value) (x_lengths : Value) (x_fixed : Value) (x_ranked : Value) (x_weight : Value) (x_weightBefore : Value) (x_items : Value) (x_lengthRow : Value) (x_step : Value) (x_stepMore : Value) (x_codes : Value) (x_symbolTree : Value) (x_distanceTree : Value) (x_smallTree : Value) (x_readLengths : Value) (x_source : Value) (x_target : Value) (c_pairBefore : Nat → Int32) (c_p1 : Nat → Int32) (v_tokens : Int32) (c_tokenLength : Nat → Int32) (c_tokenValue : Nat → Int32) (v_plain : Int32) (v_closed : Int32) (v_rowSize : Int32) (v_pieces : Int32) (v_imageSize : Int32) (v_readSize : Int32) (v_readPieces : Int32) (v_packedBits : Int32) (v_steps : Int32) (v_sourceFrom : Int32) (v_sourceBits : Int32) (v_readBits : Int32) (v_wrong : Int32) (v_made : Int32) (v_room : Int32) (x2 : Int32) (x3 : Int32) (x4 : Int32) (res : Unit × Int32 × (Nat → Int32) × (Nat → Int32)) (hm : M_cutPart F n_p1 c_pairBefore c_p1 v_tokens c_tokenLength c_tokenValue x2 x3 x4 = some res) : Met l y_M_cutPart (Cond.code y_M_cutPart b_M_cutPart 11 none :: x_tb) M_cutPart_rm (va_Pc [.ref a_this, .ref a_p1, .int x2, .int x3, .int x4] (xPre E (M_cutPart_w E a_this a_pairBefore a_p1 a_tokenLength a_tokenValue n_p1 x_row x_starts x_image x_readRow x_readStart x_readAt x_readMany x_piece x_packed x_pairLast x_counts x_lengths x_fixed x_ranked x_weight x_weightBefore x_items x_lengthRow x_step x_stepMore x_codes x_symbolTree x_distanceTree x_smallTree x_readLengths x_source x_target c_pairBefore c_p1 v_tokens c_tokenLength c_tokenValue v_plain v_closed v_rowSize v_pieces v_imageSize v_readSize v_readPieces v_packedBits v_steps v_sourceFrom v_sourceBits v_readBits v_wrong v_made v_room) sz)) (xQv E (fun (u : Int32 × (Nat → Int32) × (Nat → Int32)) => u = res.2) (fun (u : Int32 × (Nat → Int32) × (Nat → Int32)) => (M_cutPart_w E a_this a_pairBefore a_p1 a_tokenLength a_tokenValue n_p1 x_row x_starts x_image x_readRow x_readStart x_readAt x_readMany x_piece x_packed x_pairLast x_counts x_lengths x_fixed x_ranked x_weight x_weightBefore x_items x_lengthRow x_step x_stepMore x_codes x_symbolTree x_distanceTree x_smallTree x_readLengths x_source x_target c_pairBefore c_p1 u.1 u.2.1 u.2.2 v_plain v_closed v_rowSize v_pieces v_imageSize v_readSize v_readPieces v_packedBits v_steps v_sourceFrom v_sourceBits v_readBits v_wrong v_made v_room)) (va_A (M_cutPart_w E a_this a_pairBefore a_p1 a_tokenLength a_tokenValue n_p1 x_row x_starts x_image x_readRow x_readStart x_readAt x_readMany x_piece x_packed x_pairLast x_counts x_lengths x_fixed x_ranked x_weight x_weightBefore x_items x_lengthRow x_step x_stepMore x_codes x_symbolTree x_distanceTree x_smallTree x_readLengths x_source x_target c_pairBefore c_p1 v_tokens c_tokenLength c_tokenValue v_plain v_closed v_rowSize v_pieces v_imageSize v_readSize v_readPieces v_packedBits v_steps v_sourceFrom v_sourceBits v_readBits v_wrong v_made v_room) sz)) 0 0 (va_A (M_cutPart_w E a_this a_pairBefore a_p1 a_tokenLength a_tokenValue n_p1 x_row x_starts x_image x_readRow x_readStart x_readAt x_readMany x_piece x_packed x_pairLast x_counts x_lengths x_fixed x_ranked x_weight x_weightBefore x_items x_lengthRow x_step x_stepMore x_codes x_symbolTree x_distanceTree x_smallTree x_readLengths x_source x_target c_pairBefore c_p1 v_tokens c_tokenLength c_tokenValue v_plain v_closed v_rowSize v_pieces v_imageSize v_readSize v_readPieces v_packedBits v_steps v_sourceFrom v_sourceBits v_readBits v_wrong v_made v_room) sz) := by
  refine xEnV (by decide) (Nat.le_of_ble_eq_true rfl) ?_
  intro p e s m args below meth c A ls Q hx hb hnm hts hown hml hK hA hI hN hret hP hD hS hl
  replace hown : s.vm.findClass R_M = some m.cls := hown
  replace hl : lv_has ls 11 [(0, .ref a_this), (1, .ref a_p1), (2, .int x2), (3, .int x3), (4, .int x4)] := hl
  obtain ⟨H, eH⟩ : ∃ z, z = s.heap := ⟨_, rfl⟩
  obtain ⟨locs, eL⟩ : ∃ z : List Loc, z = [] := ⟨_, rfl⟩
  rw [show W p l e M_cutPart_rm s m args below meth c s.heap [] 0 0 Q (F0 m 0 ls []) = W p l e M_cutPart_rm s m args below meth c H locs 0 0 Q (F0 m 0 ls []) by rw [eH, eL]]
  replace hP : va_P E.1 vwCl (M_cutPart_w E a_this a_pairBefore a_p1 a_tokenLength a_tokenValue n_p1 x_row x_starts x_image x_readRow x_readStart x_readAt x_readMany x_piece x_packed x_pairLast x_counts x_lengths x_fixed x_ranked x_weight x_weightBefore x_items x_lengthRow x_step x_stepMore x_codes x_symbolTree x_distanceTree x_smallTree x_readLengths x_source x_target c_pairBefore c_p1 v_tokens c_tokenLength c_tokenValue v_plain v_closed v_rowSize v_pieces v_imageSize v_readSize v_readPieces v_packedBits v_steps v_sourceFrom v_sourceBits v_readBits v_wrong v_made v_room) H := by rw [eH]; exact hP
  replace hS : va_S A s.heap H locs := by rw [eH, eL]; exact hS
  clear eH eL
  rw [M_cutPart] at hm
  have h_8 : ∀ (n_8 : Nat) (v_tokens : Int32) (c_tokenLength : Nat → Int32) (c_tokenValue : Nat → Int32) (x5 : Int32) (H : Heap) (locs : List Loc) (ls : Array Slot), (mW4 (M_cutPart_8 F n_p1 c_pairBefore c_p1 x2 x4) n_8) v_tokens c_tokenLength c_tokenValue x5 = some res → va_P E.1 vwCl (M_cutPart_w E a_this a_pairBefore a_p1 a_tokenLength a_tokenValue n_p1 x_row x_starts x_image x_readRow x_readStart x_readAt x_readMany x_piece x_packed x_pairLast x_counts x_lengths x_fixed x_ranked x_weight x_weightBefore x_items x_lengthRow x_step x_stepMore x_codes x_symbolTree x_distanceTree x_smallTree x_readLengths x_source x_target c_pairBefore c_p1 v_tokens c_tokenLength c_tokenValue v_plain v_closed v_rowSize v_pieces v_imageSize v_readSize v_readPieces v_packedBits v_steps v_sourceFrom v_sourceBits v_readBits v_wrong v_made v_room) H → va_D A (M_cutPart_w E a_this a_pairBefore a_p1 a_tokenLength a_tokenValue n_p1 x_row x_starts x_image x_readRow x_readStart x_readAt x_readMany x_piece x_packed x_pairLast x_counts x_lengths x_fixed x_ranked x_weight x_weightBefore x_items x_lengthRow x_step x_stepMore x_codes x_symbolTree x_distanceTree x_smallTree x_readLengths x_source x_target c_pairBefore c_p1 v_tokens c_tokenLength c_tokenValue v_plain v_closed v_rowSize v_pieces v_imageSize v_readSize v_readPieces v_packedBits v_steps v_sourceFrom v_sourceBits v_readBits v_wrong v_made v_room) → va_S A s.heap H locs → lv_has ls 11 [(0, .ref a_this), (1, .ref a_p1), (2, .int x2), (4, .int x4), (5, .int x5)] → W p l e M_cutPart_rm s m args below meth c H locs 0 0 Q (F0 m 8 ls []) := by
    intro n_8
    induction n_8 with
    | zero => exact fun _ _ _ _ _ _ _ hm _ _ _ _ => (mW4_z hm).elim
    | succ n_8 ih_8 =>
      intro v_tokens c_tokenLength c_tokenValue x5 H locs ls hm hP hD hS hl
      replace hm := mW4_s hm
      rw [M_cutPart_8] at hm
      refine lv_iload hx hb d_M_cutPart_8 (lv_at hl 4 rfl) ?_
      refine lv_iload hx hb d_M_cutPart_10 (lv_at hl 3 rfl) ?_
      refine lv_icmp_ge (tgt := 264) hx hb d_M_cutPart_12 (by decide) (fun c12 => ?_) (fun c12 => ?_)
      · replace hm := mC_t hm c12
        replace hm := Option.some.inj hm
        subst hm
        exact hret d_M_cutPart_264 (u := (v_tokens, c_tokenLength, c_tokenValue)) rfl hP hD hS
      · replace hm := mC_f hm c12
        have h_44 : ∀ (v_tokens : Int32) (c_tokenLength : Nat → Int32) (c_tokenValue : Nat → Int32) (x5 : Int32) (x6 : Int32) (x7 : Int32) (x8 : Int32) (s0 : Int32) (H : Heap) (locs : List Loc) (ls : Array Slot), (M_cutPart_44 F n_p1 c_pairBefore c_p1 x2 x4 (mW4 (M_cutPart_8 F n_p1 c_pairBefore c_p1 x2 x4) n_8)) v_tokens c_tokenLength c_tokenValue x5 x6 x7 x8 s0 = some res → va_P E.1 vwCl (M_cutPart_w E a_this a_pairBefore a_p1 a_tokenLength a_tokenValue n_p1 x_row x_starts x_image x_readRow x_readStart x_readAt x_readMany x_piece x_packed x_pairLast x_counts x_lengths x_fixed x_ranked x_weight x_weightBefore x_items x_lengthRow x_step x_stepMore x_codes x_symbolTree x_distanceTree x_smallTree x_readLengths x_source x_target c_pairBefore c_p1 v_tokens c_tokenLength c_tokenValue v_plain v_closed v_rowSize v_pieces v_imageSize v_readSize v_readPieces v_packedBits v_steps v_sourceFrom v_sourceBits v_readBits v_wrong v_made v_room) H → va_D A (M_cutPart_w E a_this a_pairBefore a_p1 a_tokenLength a_tokenValue n_p1 x_row x_starts x_image x_readRow x_readStart x_readAt x_readMany x_piece x_packed x_pairLast x_counts x_lengths x_fixed x_ranked x_weight x_weightBefore x_items x_lengthRow x_step x_stepMore x_codes x_symbolTree x_distanceTree x_smallTree x_readLengths x_source x_target c_pairBefore c_p1 v_tokens c_tokenLength c_tokenValue v_plain v_closed v_rowSize v_pieces v_imageSize v_readSize v_readPieces v_packedBits v_steps v_sourceFrom v_sourceBits v_readBits v_wrong v_made v_room) → va_S A s.heap H locs → lv_has ls 11 [(0, .ref a_this), (1, .ref a_p1), (2, .int x2), (4, .int x4), (5, .int x5), (6, .int x6), (7, .int x7), (8, .int x8)] → W p l e M_cutPart_rm s m args below meth c H locs 0 0 Q (F0 m 44 ls [.int s0]) := by
          intro v_tokens c_tokenLength c_tokenValue x5 x6 x7 x8 s0 H locs ls hm hP hD hS hl
          rw [M_cutPart_44] at hm
          have h_192 : ∀ (v_tokens : Int32) (c_tokenLength : Nat → Int32) (c_tokenValue : Nat → Int32) (x5 : Int32) (x6 : Int32) (x7 : Int32) (H : Heap) (locs : List Loc) (ls : Array Slot), (M_cutPart_192 F n_p1 c_p1 x2 (mW4 (M_cutPart_8 F n_p1 c_pairBefore c_p1 x2 x4) n_8)) v_tokens c_tokenLength c_tokenValue x5 x6 x7 = some res → va_P E.1 vwCl (M_cutPart_w E a_this a_pairBefore a_p1 a_tokenLength a_tokenValue n_p1 x_row x_starts x_image x_readRow x_readStart x_readAt x_readMany x_piece x_packed x_pairLast x_counts x_lengths x_fixed x_ranked x_weight x_weightBefore x_items x_lengthRow x_step x_stepMore x_codes x_symbolTree x_distanceTree x_smallTree x_readLengths x_source x_target c_pairBefore c_p1 v_tokens c_tokenLength c_tokenValue v_plain v_closed v_rowSize v_pieces v_imageSize v_readSize v_readPieces v_packedBits v_steps v_sourceFrom v_sourceBits v_readBits v_wrong v_made v_room) H → va_D A (M_cutPart_w E a_this a_pairBefore a_p1 a_tokenLength a_tokenValue n_p1 x_row x_starts x_image x_readRow x_readStart x_readAt x_readMany x_piece x_packed x_pairLast x_counts x_lengths x_fixed x_ranked x_weight x_weightBefore x_items x_lengthRow x_step x_stepMore x_codes x_symbolTree x_distanceTree x_smallTree x_readLengths x_source x_target c_pairBefore c_p1 v_tokens c_tokenLength c_tokenValue v_plain v_closed v_rowSize v_pieces v_imageSize v_readSize v_readPieces v_packedBits v_steps v_sourceFrom v_sourceBits v_readBits v_wrong v_made v_room) → va_S A s.heap H locs → lv_has ls 11 [(0, .ref a_this), (1, .ref a_p1), (2, .int x2), (4, .int x4), (5, .int x5), (6, .int x6), (7, .int x7)] → W p l e M_cutPart_rm s m args below meth c H locs 0 0 Q (F0 m 192 ls []) := by
            intro v_tokens c_tokenLength c_tokenValue x5 x6 x7 H locs ls hm hP hD hS hl
            rw [M_cutPart_192] at hm
            have h_231 : ∀ (v_tokens : Int32) (c_tokenLength : Nat → Int32) (c_tokenValue : Nat → Int32) (x5 : Int32) (x6 : Int32) (s1 : Int32) (s2 : Int32) (H : Heap) (locs : List Loc) (ls : Array Slot), (M_cutPart_231 F (mW4 (M_cutPart_8 F n_p1 c_pairBefore c_p1 x2 x4) n_8)) v_tokens c_tokenLength c_tokenValue x5 x6 s1 s2 = some res → va_P E.1 vwCl (M_cutPart_w E a_this a_pairBefore a_p1 a_tokenLength a_tokenValue n_p1 x_row x_starts x_image x_readRow x_readStart x_readAt x_readMany x_piece x_packed x_pairLast x_counts x_lengths x_fixed x_ranked x_weight x_weightBefore x_items x_lengthRow x_step x_stepMore x_codes x_symbolTree x_distanceTree x_smallTree x_readLengths x_source x_target c_pairBefore c_p1 v_tokens c_tokenLength c_tokenValue v_plain v_closed v_rowSize v_pieces v_imageSize v_readSize v_readPieces v_packedBits v_steps v_sourceFrom v_sourceBits v_readBits v_wrong v_made v_room) H → va_D A (M_cutPart_w E a_this a_pairBefore a_p1 a_tokenLength a_tokenValue n_p1 x_row x_starts x_image x_readRow x_readStart x_readAt x_readMany x_piece x_packed x_pairLast x_counts x_lengths x_fixed x_ranked x_weight x_weightBefore x_items x_lengthRow x_step x_stepMore x_codes x_symbolTree x_distanceTree x_smallTree x_readLengths x_source x_target c_pairBefore c_p1 v_tokens c_tokenLength c_tokenValue v_plain v_closed v_rowSize v_pieces v_imageSize v_readSize v_readPieces v_packedBits v_steps v_sourceFrom v_sourceBits v_readBits v_wrong v_made v_room) → va_S A s.heap H locs → lv_has ls 11 [(0, .ref a_this), (1, .ref a_p1), (2, .int x2), (4, .int x4), (5, .int x5), (6, .int x6)] → W p l e M_cutPart_rm s m args below meth c H locs 0 0 Q (F0 m 231 ls [.int s2, .int s1, .ref a_tokenValue]) := by
              intro v_tokens c_tokenLength c_tokenValue x5 x6 s1 s2 H locs ls hm hP hD hS hl
              rw [M_cutPart_231] at hm
              have h_259 : ∀ (v_tokens : Int32) (c_tokenLength : Nat → Int32) (c_tokenValue : Nat → Int32) (s0 : Int32) (H : Heap) (locs : List Loc) (ls : Array Slot), (M_cutPart_259 F (mW4 (M_cutPart_8 F n_p1 c_pairBefore c_p1 x2 x4) n_8)) v_tokens c_tokenLength c_tokenValue s0 = some res → va_P E.1 vwCl (M_cutPart_w E a_this a_pairBefore a_p1 a_tokenLength a_tokenValue n_p1 x_row x_starts x_image x_readRow x_readStart x_readAt x_readMany x_piece x_packed x_pairLast x_counts x_lengths x_fixed x_ranked x_weight x_weightBefore x_items x_lengthRow x_step x_stepMore x_codes x_symbolTree x_distanceTree x_smallTree x_readLengths x_source x_target c_pairBefore c_p1 v_tokens c_tokenLength c_tokenValue v_plain v_closed v_rowSize v_pieces v_imageSize v_readSize v_readPieces v_packedBits v_steps v_sourceFrom v_sourceBits v_readBits v_wrong v_made v_room) H → va_D A (M_cutPart_w E a_this a_pairBefore a_p1 a_tokenLength a_tokenValue n_p1 x_row x_starts x_image x_readRow x_readStart x_readAt x_readMany x_piece x_packed x_pairLast x_counts x_lengths x_fixed x_ranked x_weight x_weightBefore x_items x_lengthRow x_step x_stepMore x_codes x_symbolTree x_distanceTree x_smallTree x_readLengths x_source x_target c_pairBefore c_p1 v_tokens c_tokenLength c_tokenValue v_plain v_closed v_rowSize v_pieces v_imageSize v_readSize v_readPieces v_packedBits v_steps v_sourceFrom v_sourceBits v_readBits v_wrong v_made v_room) → va_S A s.heap H locs → lv_has ls 11 [(0, .ref a_this), (1, .ref a_p1), (2, .int x2), (4, .int x4)] → W p l e M_cutPart_rm s m args below meth c H locs 0 0 Q (F0 m 259 ls [.int s0]) := by
                intro v_tokens c_tokenLength c_tokenValue s0 H locs ls hm hP hD hS hl
                rw [M_cutPart_259] at hm
                refine lv_istore (lv' := [(5, .int s0), (0, .ref a_this), (1, .ref a_p1), (2, .int x2), (4, .int x4)]) hx hb d_M_cutPart_259 hl (by decide) rfl (fun ls hl => ?_)
                refine lv_goto (tgt := 8) hx hb d_M_cutPart_261 (by decide) ?_
                exact ih_8 _ _ _ _ H locs ls hm hP hD hS (lv_sub hl [1, 2, 3, 4, 0] rfl)
              obtain ⟨hi231, hm⟩ := mG_e hm
              obtain ⟨c_1, ec_1⟩ : ∃ z : Nat → Int32, z = upd c_tokenValue s1.toNatClampNeg s2 := ⟨_, rfl⟩
              replace hm := mL_e hm c_1 ec_1
              refine va_iast hx hb hK hP hD hS 4 0 rfl rfl hi231 d_M_cutPart_231 (fun H locs hP hD hS => ?_)
              rw [← ec_1] at hP hD
              replace hP : va_P E.1 vwCl (M_cutPart_w E a_this a_pairBefore a_p1 a_tokenLength a_tokenValue n_p1 x_row x_starts x_image x_readRow x_readStart x_readAt x_readMany x_piece x_packed x_pairLast x_counts x_lengths x_fixed x_ranked x_weight x_weightBefore x_items x_lengthRow x_step x_stepMore x_codes x_symbolTree x_distanceTree x_smallTree x_readLengths x_source x_target c_pairBefore c_p1 v_tokens c_tokenLength c_1 v_plain v_closed v_rowSize v_pieces v_imageSize v_readSize v_readPieces v_packedBits v_steps v_sourceFrom v_sourceBits v_readBits v_wrong v_made v_room) H := hP
              replace hD : va_D A (M_cutPart_w E a_this a_pairBefore a_p1 a_tokenLength a_tokenValue n_p1 x_row x_starts x_image x_readRow x_readStart x_readAt x_readMany x_piece x_packed x_pairLast x_counts x_lengths x_fixed x_ranked x_weight x_weightBefore x_items x_lengthRow x_step x_stepMore x_codes x_symbolTree x_distanceTree x_smallTree x_readLengths x_source x_target c_pairBefore c_p1 v_tokens c_tokenLength c_1 v_plain v_closed v_rowSize v_pieces v_imageSize v_readSize v_readPieces v_packedBits v_steps v_sourceFrom v_sourceBits v_readBits v_wrong v_made v_room) := hD
              refine lv_aload_n hx hb d_M_cutPart_232 rfl (lv_at hl 0 rfl) ?_
              refine lv_dup hx hb d_M_cutPart_233 rfl ?_
              refine va_get (D := E.1) (ci := 12) (v := .int v_tokens) (C := R_M) (T := F_M) (N := 46) hx hb hts i_M hown hK hP 0 rfl rfl 19 (by decide) (hts _ tw_814) (fun _ h9 => h9) rfl d_M_cutPart_234 ?_
              refine lv_iconst (v := 1) hx hb d_M_cutPart_237 (by decide) ?_
              refine lv_iadd hx hb d_M_cutPart_238 ?_
              refine lv_topi (fun v_2 ev_2 => ?_)
              replace hm := mL_e hm v_2 ev_2
              refine va_put (D := E.1) (ci := 12) (v := .int v_2) (ty := .int) (C := R_M) (T := F_M) (N := 46) hx hb hts i_M t_M t_M_ok n_M hown hK hP hD hS 0 rfl rfl 19 (by decide) (hts _ tw_814) (fun _ h9 => h9) rfl (by decide +kernel) rfl rfl (Nat.le_of_ble_eq_true rfl) d_M_cutPart_239 (fun H locs hP hD hS => ?_)
              replace hP : va_P E.1 vwCl (M_cutPart_w E a_this a_pairBefore a_p1 a_tokenLength a_tokenValue n_p1 x_row x_starts x_image x_readRow x_readStart x_readAt x_readMany x_piece x_packed x_pairLast x_counts x_lengths x_fixed x_ranked x_weight x_weightBefore x_items x_lengthRow x_step x_stepMore x_codes x_symbolTree x_distanceTree x_smallTree x_readLengths x_source x_target c_pairBefore c_p1 v_2 c_tokenLength c_1 v_plain v_closed v_rowSize v_pieces v_imageSize v_readSize v_readPieces v_packedBits v_steps v_sourceFrom v_sourceBits v_readBits v_wrong v_made v_room) H := hP
              replace hD : va_D A (M_cutPart_w E a_this a_pairBefore a_p1 a_tokenLength a_tokenValue n_p1 x_row x_starts x_image x_readRow x_readStart x_readAt x_readMany x_piece x_packed x_pairLast x_counts x_lengths x_fixed x_ranked x_weight x_weightBefore x_items x_lengthRow x_step x_stepMore x_codes x_symbolTree x_distanceTree x_smallTree x_readLengths x_source x_target c_pairBefore c_p1 v_2 c_tokenLength c_1 v_plain v_closed v_rowSize v_pieces v_imageSize v_readSize v_readPieces v_packedBits v_steps v_sourceFrom v_sourceBits v_readBits v_wrong v_made v_room) := hD
              refine lv_iload hx hb d_M_cutPart_242 (lv_at hl 5 rfl) ?_
              refine lv_if_le (tgt := 255) hx hb d_M_cutPart_244 (by decide) (fun c244 => ?_) (fun c244 => ?_)
              · replace hm := mC_t hm c244
                refine lv_iload hx hb d_M_cutPart_255 (lv_at hl 4 rfl) ?_
                refine lv_iconst (v := 1) hx hb d_M_cutPart_257 (by decide) ?_
                refine lv_iadd hx hb d_M_cutPart_258 ?_
                exact h_259 _ _ _ _ H locs ls hm hP hD hS (lv_sub hl [0, 1, 2, 3] rfl)
              · replace hm := mC_f hm c244
                refine lv_iload hx hb d_M_cutPart_247 (lv_at hl 4 rfl) ?_
                refine lv_iload hx hb d_M_cutPart_249 (lv_at hl 5 rfl) ?_
                refine lv_iadd hx hb d_M_cutPart_251 ?_
                refine lv_goto (tgt := 259) hx hb d_M_cutPart_252 (by decide) ?_
                exact h_259 _ _ _ _ H locs ls hm hP hD hS (lv_sub hl [0, 1, 2, 3] rfl)
            refine lv_aload_n hx hb d_M_cutPart_192 rfl (lv_at hl 0 rfl) ?_
            refine va_get (D := E.1) (ci := 12) (v := .ref a_tokenLength) (C := R_M) (T := F_M) (N := 46) hx hb hts i_M hown hK hP 0 rfl rfl 20 (by decide) (hts _ tw_815) (fun _ h9 => h9) rfl d_M_cutPart_193 ?_
            refine lv_aload_n hx hb d_M_cutPart_196 rfl (lv_at hl 0 rfl) ?_
            refine va_get (D := E.1) (ci := 12) (v := .int v_tokens) (C := R_M) (T := F_M) (N := 46) hx hb hts i_M hown hK hP 0 rfl rfl 19 (by decide) (hts _ tw_814) (fun _ h9 => h9) rfl d_M_cutPart_197 ?_
            refine lv_iload hx hb d_M_cutPart_200 (lv_at hl 5 rfl) ?_
            obtain ⟨hi202, hm⟩ := mG_e hm
            obtain ⟨c_3, ec_3⟩ : ∃ z : Nat → Int32, z = upd c_tokenLength v_tokens.toNatClampNeg x6 := ⟨_, rfl⟩
            replace hm := mL_e hm c_3 ec_3
            refine va_iast hx hb hK hP hD hS 3 0 rfl rfl hi202 d_M_cutPart_202 (fun H locs hP hD hS => ?_)
            rw [← ec_3] at hP hD
            replace hP : va_P E.1 vwCl (M_cutPart_w E a_this a_pairBefore a_p1 a_tokenLength a_tokenValue n_p1 x_row x_starts x_image x_readRow x_readStart x_readAt x_readMany x_piece x_packed x_pairLast x_counts x_lengths x_fixed x_ranked x_weight x_weightBefore x_items x_lengthRow x_step x_stepMore x_codes x_symbolTree x_distanceTree x_smallTree x_readLengths x_source x_target c_pairBefore c_p1 v_tokens c_3 c_tokenValue v_plain v_closed v_rowSize v_pieces v_imageSize v_readSize v_readPieces v_packedBits v_steps v_sourceFrom v_sourceBits v_readBits v_wrong v_made v_room) H := hP
            replace hD : va_D A (M_cutPart_w E a_this a_pairBefore a_p1 a_tokenLength a_tokenValue n_p1 x_row x_starts x_image x_readRow x_readStart x_readAt x_readMany x_piece x_packed x_pairLast x_counts x_lengths x_fixed x_ranked x_weight x_weightBefore x_items x_lengthRow x_step x_stepMore x_codes x_symbolTree x_distanceTree x_smallTree x_readLengths x_source x_target c_pairBefore c_p1 v_tokens c_3 c_tokenValue v_plain v_closed v_rowSize v_pieces v_imageSize v_readSize v_readPieces v_packedBits v_steps v_sourceFrom v_sourceBits v_readBits v_wrong v_made v_room) := hD
            refine lv_aload_n hx hb d_M_cutPart_203 rfl (lv_at hl 0 rfl) ?_
            refine va_get (D := E.1) (ci := 12) (v := .ref a_tokenValue) (C := R_M) (T := F_M) (N := 46) hx hb hts i_M hown hK hP 0 rfl rfl 21 (by decide) (hts _ tw_816) (fun _ h9 => h9) rfl d_M_cutPart_204 ?_
            refine lv_aload_n hx hb d_M_cutPart_207 rfl (lv_at hl 0 rfl) ?_
            refine va_get (D := E.1) (ci := 12) (v := .int v_tokens) (C := R_M) (T := F_M) (N := 46) hx hb hts i_M hown hK hP 0 rfl rfl 19 (by decide) (hts _ tw_814) (fun _ h9 => h9) rfl d_M_cutPart_208 ?_
            refine lv_iload hx hb d_M_cutPart_211 (lv_at hl 5 rfl) ?_
            refine lv_if_le (tgt := 221) hx hb d_M_cutPart_213 (by decide) (fun c213 => ?_) (fun c213 => ?_)
            · replace hm := mC_t hm c213
              refine lv_aload_n hx hb d_M_cutPart_221 rfl (lv_at hl 1 rfl) ?_
              refine lv_iload_n hx hb d_M_cutPart_222 rfl (lv_at hl 2 rfl) ?_
              refine lv_iload hx hb d_M_cutPart_223 (lv_at hl 4 rfl) ?_
              refine lv_iadd hx hb d_M_cutPart_225 ?_
              refine lv_topi (fun i_4 ei_4 => ?_)
              replace hm := mL_e hm i_4 ei_4
              obtain ⟨hi226, hm⟩ := mG_e hm
              refine va_bald hx hb hK hP 2 1 rfl rfl hi226 d_M_cutPart_226 ?_
              refine lv_sipush (v := 255) hx hb d_M_cutPart_227 (by decide) ?_
              refine lv_iand hx hb d_M_cutPart_230 ?_
              exact h_231 _ _ _ _ _ _ _ H locs ls hm hP hD hS (lv_sub hl [0, 1, 2, 3, 4, 5] rfl)
            · replace hm := mC_f hm c213
              refine lv_iload hx hb d_M_cutPart_216 (lv_at hl 6 rfl) ?_
              refine lv_goto (tgt := 231) hx hb d_M_cutPart_218 (by decide) ?_
              exact h_231 _ _ _ _ _ _ _ H locs ls hm hP hD hS (lv_sub hl [0, 1, 2, 3, 4, 5] rfl)
          have h_46 : ∀ (n_46 : Nat) (v_tokens : Int32) (c_tokenLength : Nat → Int32) (c_tokenValue : Nat → Int32) (x5 : Int32) (x6 : Int32) (x7 : Int32) (x8 : Int32) (x9 : Int32) (H : Heap) (locs : List Loc) (ls : Array Slot), (mW8 (M_cutPart_46 F n_p1 c_pairBefore c_p1 x2 x4 (M_cutPart_192 F n_p1 c_p1 x2 (mW4 (M_cutPart_8 F n_p1 c_pairBefore c_p1 x2 x4) n_8))) n_46) v_tokens c_tokenLength c_tokenValue x5 x6 x7 x8 x9 = some res → va_P E.1 vwCl (M_cutPart_w E a_this a_pairBefore a_p1 a_tokenLength a_tokenValue n_p1 x_row x_starts x_image x_readRow x_readStart x_readAt x_readMany x_piece x_packed x_pairLast x_counts x_lengths x_fixed x_ranked x_weight x_weightBefore x_items x_lengthRow x_step x_stepMore x_codes x_symbolTree x_distanceTree x_smallTree x_readLengths x_source x_target c_pairBefore c_p1 v_tokens c_tokenLength c_tokenValue v_plain v_closed v_rowSize v_pieces v_imageSize v_readSize v_readPieces v_packedBits v_steps v_sourceFrom v_sourceBits v_readBits v_wrong v_made v_room) H → va_D A (M_cutPart_w E a_this a_pairBefore a_p1 a_tokenLength a_tokenValue n_p1 x_row x_starts x_image x_readRow x_readStart x_readAt x_readMany x_piece x_packed x_pairLast x_counts x_lengths x_fixed x_ranked x_weight x_weightBefore x_items x_lengthRow x_step x_stepMore x_codes x_symbolTree x_distanceTree x_smallTree x_readLengths x_source x_target c_pairBefore c_p1 v_tokens c_tokenLength c_tokenValue v_plain v_closed v_rowSize v_pieces v_imageSize v_readSize v_readPieces v_packedBits v_steps v_sourceFrom v_sourceBits v_readBits v_wrong v_made v_room) → va_S A s.heap H locs → lv_has ls 11 [(0, .ref a_this), (1, .ref a_p1), (2, .int x2), (4, .int x4), (5, .int x5), (6, .int x6), (7, .int x7), (8, .int x8), (9, .int x9)] → W p l e M_cutPart_rm s m args below meth c H locs 0 0 Q (F0 m 46 ls []) := by
            intro n_46
            induction n_46 with
            | zero => exact fun _ _ _ _ _ _ _ _ _ _ _ hm _ _ _ _ => (mW8_z hm).elim
            | succ n_46 ih_46 =>
              intro v_tokens c_tokenLength c_tokenValue x5 x6 x7 x8 x9 H locs ls hm hP hD hS hl
              replace hm := mW8_s hm
              rw [M_cutPart_46] at hm
              refine lv_iload hx hb d_M_cutPart_46 (lv_at hl 8 rfl) ?_
              refine lv_if_lt (tgt := 192) hx hb d_M_cutPart_48 (by decide) (fun c48 => ?_) (fun c48 => ?_)
              · replace hm := mC_t hm c48
                exact h_192 _ _ _ _ _ _ H locs ls hm hP hD hS (lv_sub hl [0, 1, 2, 3, 4, 5, 6] rfl)
              · replace hm := mC_f hm c48
                refine lv_iload hx hb d_M_cutPart_51 (lv_at hl 4 rfl) ?_
                refine lv_iload hx hb d_M_cutPart_53 (lv_at hl 8 rfl) ?_
                refine lv_isub hx hb d_M_cutPart_55 ?_
                refine lv_ldc (v := 32768) hx hb hown (hts _ tw_974) d_M_cutPart_56 ?_
                refine lv_icmp_gt (tgt := 192) hx hb d_M_cutPart_58 (by decide) (fun c58 => ?_) (fun c58 => ?_)
                · replace hm := mC_t hm c58
                  exact h_192 _ _ _ _ _ _ H locs ls hm hP hD hS (lv_sub hl [0, 1, 2, 3, 4, 5, 6] rfl)
                · replace hm := mC_f hm c58
                  refine lv_iload hx hb d_M_cutPart_61 (lv_at hl 7 rfl) ?_
                  refine lv_bipush (v := 16) hx hb d_M_cutPart_63 (by decide) ?_
                  refine lv_icmp_ge (tgt := 192) hx hb d_M_cutPart_65 (by decide) (fun c65 => ?_) (fun c65 => ?_)
                  · replace hm := mC_t hm c65
                    exact h_192 _ _ _ _ _ _ H locs ls hm hP hD hS (lv_sub hl [0, 1, 2, 3, 4, 5, 6] rfl)
                  · replace hm := mC_f hm c65
                    have h_116 : ∀ (v_tokens : Int32) (c_tokenLength : Nat → Int32) (c_tokenValue : Nat → Int32) (x5 : Int32) (x6 : Int32) (x7 : Int32) (x8 : Int32) (x9 : Int32) (x10 : Int32) (H : Heap) (locs : List Loc) (ls : Array Slot), (M_cutPart_116 F c_pairBefore (mW8 (M_cutPart_46 F n_p1 c_pairBefore c_p1 x2 x4 (M_cutPart_192 F n_p1 c_p1 x2 (mW4 (M_cutPart_8 F n_p1 c_pairBefore c_p1 x2 x4) n_8))) n_46)) v_tokens c_tokenLength c_tokenValue x5 x6 x7 x8 x9 x10 = some res → va_P E.1 vwCl (M_cutPart_w E a_this a_pairBefore a_p1 a_tokenLength a_tokenValue n_p1 x_row x_starts x_image x_readRow x_readStart x_readAt x_readMany x_piece x_packed x_pairLast x_counts x_lengths x_fixed x_ranked x_weight x_weightBefore x_items x_lengthRow x_step x_stepMore x_codes x_symbolTree x_distanceTree x_smallTree x_readLengths x_source x_target c_pairBefore c_p1 v_tokens c_tokenLength c_tokenValue v_plain v_closed v_rowSize v_pieces v_imageSize v_readSize v_readPieces v_packedBits v_steps v_sourceFrom v_sourceBits v_readBits v_wrong v_made v_room) H → va_D A (M_cutPart_w E a_this a_pairBefore a_p1 a_tokenLength a_tokenValue n_p1 x_row x_starts x_image x_readRow x_readStart x_readAt x_readMany x_piece x_packed x_pairLast x_counts x_lengths x_fixed x_ranked x_weight x_weightBefore x_items x_lengthRow x_step x_stepMore x_codes x_symbolTree x_distanceTree x_smallTree x_readLengths x_source x_target c_pairBefore c_p1 v_tokens c_tokenLength c_tokenValue v_plain v_closed v_rowSize v_pieces v_imageSize v_readSize v_readPieces v_packedBits v_steps v_sourceFrom v_sourceBits v_readBits v_wrong v_made v_room) → va_S A s.heap H locs → lv_has ls 11 [(0, .ref a_this), (1, .ref a_p1), (2, .int x2), (4, .int x4), (5, .int x5), (6, .int x6), (7, .int x7), (8, .int x8), (9, .int x9), (10, .int x10)] → W p l e M_cutPart_rm s m args below meth c H locs 0 0 Q (F0 m 116 ls []) := by
                      intro v_tokens c_tokenLength c_tokenValue x5 x6 x7 x8 x9 x10 H locs ls hm hP hD hS hl
                      rw [M_cutPart_116] at hm
                      have h_131 : ∀ (v_tokens : Int32) (c_tokenLength : Nat → Int32) (c_tokenValue : Nat → Int32) (x5 : Int32) (x6 : Int32) (x7 : Int32) (x9 : Int32) (x10 : Int32) (s0 : Int32) (H : Heap) (locs : List Loc) (ls : Array Slot), (M_cutPart_131 F c_pairBefore (mW8 (M_cutPart_46 F n_p1 c_pairBefore c_p1 x2 x4 (M_cutPart_192 F n_p1 c_p1 x2 (mW4 (M_cutPart_8 F n_p1 c_pairBefore c_p1 x2 x4) n_8))) n_46)) v_tokens c_tokenLength c_tokenValue x5 x6 x7 x9 x10 s0 = some res → va_P E.1 vwCl (M_cutPart_w E a_this a_pairBefore a_p1 a_tokenLength a_tokenValue n_p1 x_row x_starts x_image x_readRow x_readStart x_readAt x_readMany x_piece x_packed x_pairLast x_counts x_lengths x_fixed x_ranked x_weight x_weightBefore x_items x_lengthRow x_step x_stepMore x_codes x_symbolTree x_distanceTree x_smallTree x_readLengths x_source x_target c_pairBefore c_p1 v_tokens c_tokenLength c_tokenValue v_plain v_closed v_rowSize v_pieces v_imageSize v_readSize v_readPieces v_packedBits v_steps v_sourceFrom v_sourceBits v_readBits v_wrong v_made v_room) H → va_D A (M_cutPart_w E a_this a_pairBefore a_p1 a_tokenLength a_tokenValue n_p1 x_row x_starts x_image x_readRow x_readStart x_readAt x_readMany x_piece x_packed x_pairLast x_counts x_lengths x_fixed x_ranked x_weight x_weightBefore x_items x_lengthRow x_step x_stepMore x_codes x_symbolTree x_distanceTree x_smallTree x_readLengths x_source x_target c_pairBefore c_p1 v_tokens c_tokenLength c_tokenValue v_plain v_closed v_rowSize v_pieces v_imageSize v_readSize v_readPieces v_packedBits v_steps v_sourceFrom v_sourceBits v_readBits v_wrong v_made v_room) → va_S A s.heap H locs → lv_has ls 11 [(0, .ref a_this), (1, .ref a_p1), (2, .int x2), (4, .int x4), (5, .int x5), (6, .int x6), (7, .int x7), (9, .int x9), (10, .int x10)] → W p l e M_cutPart_rm s m args below meth c H locs 0 0 Q (F0 m 131 ls [.int s0]) := by
                        intro v_tokens c_tokenLength c_tokenValue x5 x6 x7 x9 x10 s0 H locs ls hm hP hD hS hl
                        rw [M_cutPart_131] at hm
                        have h_156 : ∀ (v_tokens : Int32) (c_tokenLength : Nat → Int32) (c_tokenValue : Nat → Int32) (x5 : Int32) (x6 : Int32) (x8 : Int32) (x9 : Int32) (x10 : Int32) (s0 : Int32) (H : Heap) (locs : List Loc) (ls : Array Slot), (M_cutPart_156 F c_pairBefore (mW8 (M_cutPart_46 F n_p1 c_pairBefore c_p1 x2 x4 (M_cutPart_192 F n_p1 c_p1 x2 (mW4 (M_cutPart_8 F n_p1 c_pairBefore c_p1 x2 x4) n_8))) n_46)) v_tokens c_tokenLength c_tokenValue x5 x6 x8 x9 x10 s0 = some res → va_P E.1 vwCl (M_cutPart_w E a_this a_pairBefore a_p1 a_tokenLength a_tokenValue n_p1 x_row x_starts x_image x_readRow x_readStart x_readAt x_readMany x_piece x_packed x_pairLast x_counts x_lengths x_fixed x_ranked x_weight x_weightBefore x_items x_lengthRow x_step x_stepMore x_codes x_symbolTree x_distanceTree x_smallTree x_readLengths x_source x_target c_pairBefore c_p1 v_tokens c_tokenLength c_tokenValue v_plain v_closed v_rowSize v_pieces v_imageSize v_readSize v_readPieces v_packedBits v_steps v_sourceFrom v_sourceBits v_readBits v_wrong v_made v_room) H → va_D A (M_cutPart_w E a_this a_pairBefore a_p1 a_tokenLength a_tokenValue n_p1 x_row x_starts x_image x_readRow x_readStart x_readAt x_readMany x_piece x_packed x_pairLast x_counts x_lengths x_fixed x_ranked x_weight x_weightBefore x_items x_lengthRow x_step x_stepMore x_codes x_symbolTree x_distanceTree x_smallTree x_readLengths x_source x_target c_pairBefore c_p1 v_tokens c_tokenLength c_tokenValue v_plain v_closed v_rowSize v_pieces v_imageSize v_readSize v_readPieces v_packedBits v_steps v_sourceFrom v_sourceBits v_readBits v_wrong v_made v_room) → va_S A s.heap H locs → lv_has ls 11 [(0, .ref a_this), (1, .ref a_p1), (2, .int x2), (4, .int x4), (5, .int x5), (6, .int x6), (8, .int x8), (9, .int x9), (10, .int x10)] → W p l e M_cutPart_rm s m args below meth c H locs 0 0 Q (F0 m 156 ls [.int s0]) := by
                          intro v_tokens c_tokenLength c_tokenValue x5 x6 x8 x9 x10 s0 H locs ls hm hP hD hS hl
                          rw [M_cutPart_156] at hm
                          have h_178 : ∀ (v_tokens : Int32) (c_tokenLength : Nat → Int32) (c_tokenValue : Nat → Int32) (x5 : Int32) (x7 : Int32) (x8 : Int32) (x9 : Int32) (s0 : Int32) (H : Heap) (locs : List Loc) (ls : Array Slot), (M_cutPart_178 F c_pairBefore (mW8 (M_cutPart_46 F n_p1 c_pairBefore c_p1 x2 x4 (M_cutPart_192 F n_p1 c_p1 x2 (mW4 (M_cutPart_8 F n_p1 c_pairBefore c_p1 x2 x4) n_8))) n_46)) v_tokens c_tokenLength c_tokenValue x5 x7 x8 x9 s0 = some res → va_P E.1 vwCl (M_cutPart_w E a_this a_pairBefore a_p1 a_tokenLength a_tokenValue n_p1 x_row x_starts x_image x_readRow x_readStart x_readAt x_readMany x_piece x_packed x_pairLast x_counts x_lengths x_fixed x_ranked x_weight x_weightBefore x_items x_lengthRow x_step x_stepMore x_codes x_symbolTree x_distanceTree x_smallTree x_readLengths x_source x_target c_pairBefore c_p1 v_tokens c_tokenLength c_tokenValue v_plain v_closed v_rowSize v_pieces v_imageSize v_readSize v_readPieces v_packedBits v_steps v_sourceFrom v_sourceBits v_readBits v_wrong v_made v_room) H → va_D A (M_cutPart_w E a_this a_pairBefore a_p1 a_tokenLength a_tokenValue n_p1 x_row x_starts x_image x_readRow x_readStart x_readAt x_readMany x_piece x_packed x_pairLast x_counts x_lengths x_fixed x_ranked x_weight x_weightBefore x_items x_lengthRow x_step x_stepMore x_codes x_symbolTree x_distanceTree x_smallTree x_readLengths x_source x_target c_pairBefore c_p1 v_tokens c_tokenLength c_tokenValue v_plain v_closed v_rowSize v_pieces v_imageSize v_readSize v_readPieces v_packedBits v_steps v_sourceFrom v_sourceBits v_readBits v_wrong v_made v_room) → va_S A s.heap H locs → lv_has ls 11 [(0, .ref a_this), (1, .ref a_p1), (2, .int x2), (4, .int x4), (5, .int x5), (7, .int x7), (8, .int x8), (9, .int x9)] → W p l e M_cutPart_rm s m args below meth c H locs 0 0 Q (F0 m 178 ls [.int s0]) := by
                            intro v_tokens c_tokenLength c_tokenValue x5 x7 x8 x9 s0 H locs ls hm hP hD hS hl
                            rw [M_cutPart_178] at hm
                            refine lv_istore (lv' := [(6, .int s0), (0, .ref a_this), (1, .ref a_p1), (2, .int x2), (4, .int x4), (5, .int x5), (7, .int x7), (8, .int x8), (9, .int x9)]) hx hb d_M_cutPart_178 hl (by decide) rfl (fun ls hl => ?_)
                            refine lv_aload_n hx hb d_M_cutPart_180 rfl (lv_at hl 1 rfl) ?_
                            refine va_get (D := E.1) (ci := 12) (v := .ref a_pairBefore) (C := R_M) (T := F_M) (N := 46) hx hb hts i_M hown hK hP 0 rfl rfl 17 (by decide) (hts _ tw_812) (fun _ h9 => h9) rfl d_M_cutPart_181 ?_
                            refine lv_iload hx hb d_M_cutPart_184 (lv_at hl 8 rfl) ?_
                            obtain ⟨hi186, hm⟩ := mG_e hm
                            refine va_iald hx hb hK hP 1 0 rfl rfl hi186 d_M_cutPart_186 ?_
                            refine lv_topi (fun y9_5 ey9_5 => ?_)
                            replace hm := mL_e hm y9_5 ey9_5
                            refine lv_istore (lv' := [(9, .int y9_5), (6, .int s0), (0, .ref a_this), (1, .ref a_p1), (2, .int x2), (4, .int x4), (5, .int x5), (7, .int x7), (8, .int x8)]) hx hb d_M_cutPart_187 hl (by decide) rfl (fun ls hl => ?_)
                            refine lv_goto (tgt := 46) hx hb d_M_cutPart_189 (by decide) ?_
                            exact ih_46 _ _ _ _ _ _ _ _ H locs ls hm hP hD hS (lv_sub hl [2, 3, 4, 5, 6, 1, 7, 8, 0] rfl)
                          have h_176 : ∀ (v_tokens : Int32) (c_tokenLength : Nat → Int32) (c_tokenValue : Nat → Int32) (x5 : Int32) (x6 : Int32) (x7 : Int32) (x8 : Int32) (x9 : Int32) (H : Heap) (locs : List Loc) (ls : Array Slot), (M_cutPart_176 F c_pairBefore (mW8 (M_cutPart_46 F n_p1 c_pairBefore c_p1 x2 x4 (M_cutPart_192 F n_p1 c_p1 x2 (mW4 (M_cutPart_8 F n_p1 c_pairBefore c_p1 x2 x4) n_8))) n_46)) v_tokens c_tokenLength c_tokenValue x5 x6 x7 x8 x9 = some res → va_P E.1 vwCl (M_cutPart_w E a_this a_pairBefore a_p1 a_tokenLength a_tokenValue n_p1 x_row x_starts x_image x_readRow x_readStart x_readAt x_readMany x_piece x_packed x_pairLast x_counts x_lengths x_fixed x_ranked x_weight x_weightBefore x_items x_lengthRow x_step x_stepMore x_codes x_symbolTree x_distanceTree x_smallTree x_readLengths x_source x_target c_pairBefore c_p1 v_tokens c_tokenLength c_tokenValue v_plain v_closed v_rowSize v_pieces v_imageSize v_readSize v_readPieces v_packedBits v_steps v_sourceFrom v_sourceBits v_readBits v_wrong v_made v_room) H → va_D A (M_cutPart_w E a_this a_pairBefore a_p1 a_tokenLength a_tokenValue n_p1 x_row x_starts x_image x_readRow x_readStart x_readAt x_readMany x_piece x_packed x_pairLast x_counts x_lengths x_fixed x_ranked x_weight x_weightBefore x_items x_lengthRow x_step x_stepMore x_codes x_symbolTree x_distanceTree x_smallTree x_readLengths x_source x_target c_pairBefore c_p1 v_tokens c_tokenLength c_tokenValue v_plain v_closed v_rowSize v_pieces v_imageSize v_readSize v_readPieces v_packedBits v_steps v_sourceFrom v_sourceBits v_readBits v_wrong v_made v_room) → va_S A s.heap H locs → lv_has ls 11 [(0, .ref a_this), (1, .ref a_p1), (2, .int x2), (4, .int x4), (5, .int x5), (6, .int x6), (7, .int x7), (8, .int x8), (9, .int x9)] → W p l e M_cutPart_rm s m args below meth c H locs 0 0 Q (F0 m 176 ls []) := by
                            intro v_tokens c_tokenLength c_tokenValue x5 x6 x7 x8 x9 H locs ls hm hP hD hS hl
                            rw [M_cutPart_176] at hm
                            refine lv_iload hx hb d_M_cutPart_176 (lv_at hl 5 rfl) ?_
                            exact h_178 _ _ _ _ _ _ _ _ H locs ls hm hP hD hS (lv_sub hl [0, 1, 2, 3, 4, 6, 7, 8] rfl)
                          refine lv_istore (lv' := [(7, .int s0), (0, .ref a_this), (1, .ref a_p1), (2, .int x2), (4, .int x4), (5, .int x5), (6, .int x6), (8, .int x8), (9, .int x9), (10, .int x10)]) hx hb d_M_cutPart_156 hl (by decide) rfl (fun ls hl => ?_)
                          refine lv_iload hx hb d_M_cutPart_158 (lv_at hl 9 rfl) ?_
                          refine lv_iconst (v := 2) hx hb d_M_cutPart_160 (by decide) ?_
                          refine lv_icmp_le (tgt := 176) hx hb d_M_cutPart_161 (by decide) (fun c161 => ?_) (fun c161 => ?_)
                          · replace hm := mC_t hm c161
                            exact h_176 _ _ _ _ _ _ _ _ H locs ls hm hP hD hS (lv_sub hl [1, 2, 3, 4, 5, 6, 0, 7, 8] rfl)
                          · replace hm := mC_f hm c161
                            refine lv_iload hx hb d_M_cutPart_164 (lv_at hl 9 rfl) ?_
                            refine lv_iload hx hb d_M_cutPart_166 (lv_at hl 6 rfl) ?_
                            refine lv_icmp_le (tgt := 176) hx hb d_M_cutPart_168 (by decide) (fun c168 => ?_) (fun c168 => ?_)
                            · replace hm := mC_t hm c168
                              exact h_176 _ _ _ _ _ _ _ _ H locs ls hm hP hD hS (lv_sub hl [1, 2, 3, 4, 5, 6, 0, 7, 8] rfl)
                            · replace hm := mC_f hm c168
                              refine lv_iload hx hb d_M_cutPart_171 (lv_at hl 9 rfl) ?_
                              refine lv_goto (tgt := 178) hx hb d_M_cutPart_173 (by decide) ?_
                              exact h_178 _ _ _ _ _ _ _ _ H locs ls hm hP hD hS (lv_sub hl [1, 2, 3, 4, 5, 0, 7, 8] rfl)
                        have h_154 : ∀ (v_tokens : Int32) (c_tokenLength : Nat → Int32) (c_tokenValue : Nat → Int32) (x5 : Int32) (x6 : Int32) (x7 : Int32) (x8 : Int32) (x9 : Int32) (x10 : Int32) (H : Heap) (locs : List Loc) (ls : Array Slot), (M_cutPart_154 F c_pairBefore (mW8 (M_cutPart_46 F n_p1 c_pairBefore c_p1 x2 x4 (M_cutPart_192 F n_p1 c_p1 x2 (mW4 (M_cutPart_8 F n_p1 c_pairBefore c_p1 x2 x4) n_8))) n_46)) v_tokens c_tokenLength c_tokenValue x5 x6 x7 x8 x9 x10 = some res → va_P E.1 vwCl (M_cutPart_w E a_this a_pairBefore a_p1 a_tokenLength a_tokenValue n_p1 x_row x_starts x_image x_readRow x_readStart x_readAt x_readMany x_piece x_packed x_pairLast x_counts x_lengths x_fixed x_ranked x_weight x_weightBefore x_items x_lengthRow x_step x_stepMore x_codes x_symbolTree x_distanceTree x_smallTree x_readLengths x_source x_target c_pairBefore c_p1 v_tokens c_tokenLength c_tokenValue v_plain v_closed v_rowSize v_pieces v_imageSize v_readSize v_readPieces v_packedBits v_steps v_sourceFrom v_sourceBits v_readBits v_wrong v_made v_room) H → va_D A (M_cutPart_w E a_this a_pairBefore a_p1 a_tokenLength a_tokenValue n_p1 x_row x_starts x_image x_readRow x_readStart x_readAt x_readMany x_piece x_packed x_pairLast x_counts x_lengths x_fixed x_ranked x_weight x_weightBefore x_items x_lengthRow x_step x_stepMore x_codes x_symbolTree x_distanceTree x_smallTree x_readLengths x_source x_target c_pairBefore c_p1 v_tokens c_tokenLength c_tokenValue v_plain v_closed v_rowSize v_pieces v_imageSize v_readSize v_readPieces v_packedBits v_steps v_sourceFrom v_sourceBits v_readBits v_wrong v_made v_room) → va_S A s.heap H locs → lv_has ls 11 [(0, .ref a_this), (1, .ref a_p1), (2, .int x2), (4, .int x4), (5, .int x5), (6, .int x6), (7, .int x7), (8, .int x8), (9, .int x9), (10, .int x10)] → W p l e M_cutPart_rm s m args below meth c H locs 0 0 Q (F0 m 154 ls []) := by
                          intro v_tokens c_tokenLength c_tokenValue x5 x6 x7 x8 x9 x10 H locs ls hm hP hD hS hl
                          rw [M_cutPart_154] at hm
                          refine lv_iload hx hb d_M_cutPart_154 (lv_at hl 6 rfl) ?_
                          exact h_156 _ _ _ _ _ _ _ _ _ H locs ls hm hP hD hS (lv_sub hl [0, 1, 2, 3, 4, 5, 7, 8, 9] rfl)
                        refine lv_istore (lv' := [(8, .int s0), (0, .ref a_this), (1, .ref a_p1), (2, .int x2), (4, .int x4), (5, .int x5), (6, .int x6), (7, .int x7), (9, .int x9), (10, .int x10)]) hx hb d_M_cutPart_131 hl (by decide) rfl (fun ls hl => ?_)
                        refine lv_iload hx hb d_M_cutPart_133 (lv_at hl 9 rfl) ?_
                        refine lv_iconst (v := 2) hx hb d_M_cutPart_135 (by decide) ?_
                        refine lv_icmp_le (tgt := 154) hx hb d_M_cutPart_136 (by decide) (fun c136 => ?_) (fun c136 => ?_)
                        · replace hm := mC_t hm c136
                          exact h_154 _ _ _ _ _ _ _ _ _ H locs ls hm hP hD hS (lv_sub hl [1, 2, 3, 4, 5, 6, 7, 0, 8, 9] rfl)
                        · replace hm := mC_f hm c136
                          refine lv_iload hx hb d_M_cutPart_139 (lv_at hl 9 rfl) ?_
                          refine lv_iload hx hb d_M_cutPart_141 (lv_at hl 6 rfl) ?_
                          refine lv_icmp_le (tgt := 154) hx hb d_M_cutPart_143 (by decide) (fun c143 => ?_) (fun c143 => ?_)
                          · replace hm := mC_t hm c143
                            exact h_154 _ _ _ _ _ _ _ _ _ H locs ls hm hP hD hS (lv_sub hl [1, 2, 3, 4, 5, 6, 7, 0, 8, 9] rfl)
                          · replace hm := mC_f hm c143
                            refine lv_iload hx hb d_M_cutPart_146 (lv_at hl 5 rfl) ?_
                            refine lv_iload hx hb d_M_cutPart_148 (lv_at hl 8 rfl) ?_
                            refine lv_isub hx hb d_M_cutPart_150 ?_
                            refine lv_goto (tgt := 156) hx hb d_M_cutPart_151 (by decide) ?_
                            exact h_156 _ _ _ _ _ _ _ _ _ H locs ls hm hP hD hS (lv_sub hl [1, 2, 3, 4, 5, 6, 0, 8, 9] rfl)
                      refine lv_iload hx hb d_M_cutPart_116 (lv_at hl 9 rfl) ?_
                      refine lv_iconst (v := 2) hx hb d_M_cutPart_118 (by decide) ?_
                      refine lv_icmp_le (tgt := 129) hx hb d_M_cutPart_119 (by decide) (fun c119 => ?_) (fun c119 => ?_)
                      · replace hm := mC_t hm c119
                        refine lv_iload hx hb d_M_cutPart_129 (lv_at hl 7 rfl) ?_
                        exact h_131 _ _ _ _ _ _ _ _ _ H locs ls hm hP hD hS (lv_sub hl [0, 1, 2, 3, 4, 5, 6, 8, 9] rfl)
                      · replace hm := mC_f hm c119
                        refine lv_iload hx hb d_M_cutPart_122 (lv_at hl 7 rfl) ?_
                        refine lv_iconst (v := 1) hx hb d_M_cutPart_124 (by decide) ?_
                        refine lv_iadd hx hb d_M_cutPart_125 ?_
                        refine lv_goto (tgt := 131) hx hb d_M_cutPart_126 (by decide) ?_
                        exact h_131 _ _ _ _ _ _ _ _ _ H locs ls hm hP hD hS (lv_sub hl [0, 1, 2, 3, 4, 5, 6, 8, 9] rfl)
                    have h_71 : ∀ (n_71 : Nat) (v_tokens : Int32) (c_tokenLength : Nat → Int32) (c_tokenValue : Nat → Int32) (x5 : Int32) (x6 : Int32) (x7 : Int32) (x8 : Int32) (x9 : Int32) (x10 : Int32) (H : Heap) (locs : List Loc) (ls : Array Slot), (mW9 (M_cutPart_71 F n_p1 c_p1 x2 x4 (M_cutPart_116 F c_pairBefore (mW8 (M_cutPart_46 F n_p1 c_pairBefore c_p1 x2 x4 (M_cutPart_192 F n_p1 c_p1 x2 (mW4 (M_cutPart_8 F n_p1 c_pairBefore c_p1 x2 x4) n_8))) n_46))) n_71) v_tokens c_tokenLength c_tokenValue x5 x6 x7 x8 x9 x10 = some res → va_P E.1 vwCl (M_cutPart_w E a_this a_pairBefore a_p1 a_tokenLength a_tokenValue n_p1 x_row x_starts x_image x_readRow x_readStart x_readAt x_readMany x_piece x_packed x_pairLast x_counts x_lengths x_fixed x_ranked x_weight x_weightBefore x_items x_lengthRow x_step x_stepMore x_codes x_symbolTree x_distanceTree x_smallTree x_readLengths x_source x_target c_pairBefore c_p1 v_tokens c_tokenLength c_tokenValue v_plain v_closed v_rowSize v_pieces v_imageSize v_readSize v_readPieces v_packedBits v_steps v_sourceFrom v_sourceBits v_readBits v_wrong v_made v_room) H → va_D A (M_cutPart_w E a_this a_pairBefore a_p1 a_tokenLength a_tokenValue n_p1 x_row x_starts x_image x_readRow x_readStart x_readAt x_readMany x_piece x_packed x_pairLast x_counts x_lengths x_fixed x_ranked x_weight x_weightBefore x_items x_lengthRow x_step x_stepMore x_codes x_symbolTree x_distanceTree x_smallTree x_readLengths x_source x_target c_pairBefore c_p1 v_tokens c_tokenLength c_tokenValue v_plain v_closed v_rowSize v_pieces v_imageSize v_readSize v_readPieces v_packedBits v_steps v_sourceFrom v_sourceBits v_readBits v_wrong v_made v_room) → va_S A s.heap H locs → lv_has ls 11 [(0, .ref a_this), (1, .ref a_p1), (2, .int x2), (4, .int x4), (5, .int x5), (6, .int x6), (7, .int x7), (8, .int x8), (9, .int x9), (10, .int x10)] → W p l e M_cutPart_rm s m args below meth c H locs 0 0 Q (F0 m 71 ls []) := by
                      intro n_71
                      induction n_71 with
                      | zero => exact fun _ _ _ _ _ _ _ _ _ _ _ _ hm _ _ _ _ => (mW9_z hm).elim
                      | succ n_71 ih_71 =>
                        intro v_tokens c_tokenLength c_tokenValue x5 x6 x7 x8 x9 x10 H locs ls hm hP hD hS hl
                        replace hm := mW9_s hm
                        rw [M_cutPart_71] at hm
                        refine lv_iload hx hb d_M_cutPart_71 (lv_at hl 4 rfl) ?_
                        refine lv_iload hx hb d_M_cutPart_73 (lv_at hl 9 rfl) ?_
                        refine lv_iadd hx hb d_M_cutPart_75 ?_
                        refine lv_iload hx hb d_M_cutPart_76 (lv_at hl 3 rfl) ?_
                        refine lv_icmp_ge (tgt := 116) hx hb d_M_cutPart_78 (by decide) (fun c78 => ?_) (fun c78 => ?_)
                        · replace hm := mC_t hm c78
                          exact h_116 _ _ _ _ _ _ _ _ _ H locs ls hm hP hD hS hl
                        · replace hm := mC_f hm c78
                          refine lv_iload hx hb d_M_cutPart_81 (lv_at hl 9 rfl) ?_
                          refine lv_sipush (v := 258) hx hb d_M_cutPart_83 (by decide) ?_
                          refine lv_icmp_ge (tgt := 116) hx hb d_M_cutPart_86 (by decide) (fun c86 => ?_) (fun c86 => ?_)
                          · replace hm := mC_t hm c86
                            exact h_116 _ _ _ _ _ _ _ _ _ H locs ls hm hP hD hS hl
                          · replace hm := mC_f hm c86
                            refine lv_aload_n hx hb d_M_cutPart_89 rfl (lv_at hl 1 rfl) ?_
                            refine lv_iload_n hx hb d_M_cutPart_90 rfl (lv_at hl 2 rfl) ?_
                            refine lv_iload hx hb d_M_cutPart_91 (lv_at hl 8 rfl) ?_
                            refine lv_iadd hx hb d_M_cutPart_93 ?_
                            refine lv_iload hx hb d_M_cutPart_94 (lv_at hl 9 rfl) ?_
                            refine lv_iadd hx hb d_M_cutPart_96 ?_
                            refine lv_topi (fun i_6 ei_6 => ?_)
                            replace hm := mL_e hm i_6 ei_6
                            obtain ⟨hi97, hm⟩ := mG_e hm
                            refine va_bald hx hb hK hP 2 1 rfl rfl hi97 d_M_cutPart_97 ?_
                            refine lv_aload_n hx hb d_M_cutPart_98 rfl (lv_at hl 1 rfl) ?_
                            refine lv_iload_n hx hb d_M_cutPart_99 rfl (lv_at hl 2 rfl) ?_
                            refine lv_iload hx hb d_M_cutPart_100 (lv_at hl 4 rfl) ?_
                            refine lv_iadd hx hb d_M_cutPart_102 ?_
                            refine lv_iload hx hb d_M_cutPart_103 (lv_at hl 9 rfl) ?_
                            refine lv_iadd hx hb d_M_cutPart_105 ?_
                            refine lv_topi (fun i_7 ei_7 => ?_)
                            replace hm := mL_e hm i_7 ei_7
                            obtain ⟨hi106, hm⟩ := mG_e hm
                            refine va_bald hx hb hK hP 2 1 rfl rfl hi106 d_M_cutPart_106 ?_
                            refine lv_icmp_ne (tgt := 116) hx hb d_M_cutPart_107 (by decide) (fun c107 => ?_) (fun c107 => ?_)
                            · replace hm := mC_f hm c107
                              exact h_116 _ _ _ _ _ _ _ _ _ H locs ls hm hP hD hS hl
                            · replace hm := mC_t hm c107
                              obtain ⟨y10_8, ey10_8⟩ : ∃ y : Int32, y = x10 + 1 := ⟨_, rfl⟩
                              replace hm := mL_e hm y10_8 ey10_8
                              refine lv_iinc (v := y10_8) (lv' := [(10, .int y10_8), (0, .ref a_this), (1, .ref a_p1), (2, .int x2), (4, .int x4), (5, .int x5), (6, .int x6), (7, .int x7), (8, .int x8), (9, .int x9)]) hx hb d_M_cutPart_110 hl (k := 9) rfl (by rw [ey10_8]; rfl) (by decide) rfl (fun ls hl => ?_)
                              refine lv_goto (tgt := 71) hx hb d_M_cutPart_113 (by decide) ?_
                              exact ih_71 _ _ _ _ _ _ _ _ _ H locs ls hm hP hD hS (lv_sub hl [1, 2, 3, 4, 5, 6, 7, 8, 9, 0] rfl)
                    refine lv_iconst (v := 2) hx hb d_M_cutPart_68 (by decide) ?_
                    refine lv_istore (lv' := [(10, .int 2), (0, .ref a_this), (1, .ref a_p1), (2, .int x2), (4, .int x4), (5, .int x5), (6, .int x6), (7, .int x7), (8, .int x8), (9, .int x9)]) hx hb d_M_cutPart_69 hl (by decide) rfl (fun ls hl => ?_)
                    exact h_71 F _ _ _ _ _ _ _ _ _ H locs ls hm hP hD hS (lv_sub hl [1, 2, 3, 4, 5, 6, 7, 8, 9, 0] rfl)
          refine lv_istore (lv' := [(9, .int s0), (0, .ref a_this), (1, .ref a_p1), (2, .int x2), (4, .int x4), (5, .int x5), (6, .int x6), (7, .int x7), (8, .int x8)]) hx hb d_M_cutPart_44 hl (by decide) rfl (fun ls hl => ?_)
          exact h_46 F _ _ _ _ _ _ _ _ H locs ls hm hP hD hS (lv_sub hl [1, 2, 3, 4, 5, 6, 7, 8, 0] rfl)
        refine lv_iconst (v := 0) hx hb d_M_cutPart_15 (by decide) ?_
        refine lv_istore (lv' := [(6, .int 0), (0, .ref a_this), (1, .ref a_p1), (2, .int x2), (4, .int x4), (5, .int x5)]) hx hb d_M_cutPart_16 hl (by decide) rfl (fun ls hl => ?_)
        refine lv_iconst (v := 0) hx hb d_M_cutPart_18 (by decide) ?_
        refine lv_istore (lv' := [(7, .int 0), (6, .int 0), (0, .ref a_this), (1, .ref a_p1), (2, .int x2), (4, .int x4), (5, .int x5)]) hx hb d_M_cutPart_19 hl (by decide) rfl (fun ls hl => ?_)
        refine lv_iconst (v := 0) hx hb d_M_cutPart_21 (by decide) ?_
        refine lv_istore (lv' := [(8, .int 0), (7, .int 0), (6, .int 0), (0, .ref a_this), (1, .ref a_p1), (2, .int x2), (4, .int x4), (5, .int x5)]) hx hb d_M_cutPart_22 hl (by decide) rfl (fun ls hl => ?_)
        refine lv_iload hx hb d_M_cutPart_24 (lv_at hl 7 rfl) ?_
        refine lv_iconst (v := 3) hx hb d_M_cutPart_26 (by decide) ?_
        refine lv_iadd hx hb d_M_cutPart_27 ?_
        refine lv_iload hx hb d_M_cutPart_28 (lv_at hl 6 rfl) ?_
        refine lv_icmp_gt (tgt := 43) hx hb d_M_cutPart_30 (by decide) (fun c30 => ?_) (fun c30 => ?_)
        · replace hm := mC_t hm c30
          refine lv_iconst (v := (-1)) hx hb d_M_cutPart_43 (by decide) ?_
          exact h_44 _ _ _ _ _ _ _ _ H locs ls hm hP hD hS (lv_sub hl [3, 4, 5, 6, 7, 2, 1, 0] rfl)
        · replace hm := mC_f hm c30
          refine lv_aload_n hx hb d_M_cutPart_33 rfl (lv_at hl 3 rfl) ?_
          refine va_get (D := E.1) (ci := 12) (v := .ref a_pairBefore) (C := R_M) (T := F_M) (N := 46) hx hb hts i_M hown hK hP 0 rfl rfl 17 (by decide) (hts _ tw_812) (fun _ h9 => h9) rfl d_M_cutPart_34 ?_
          refine lv_iload hx hb d_M_cutPart_37 (lv_at hl 7 rfl) ?_
          obtain ⟨hi39, hm⟩ := mG_e hm
          refine va_iald hx hb hK hP 1 0 rfl rfl hi39 d_M_cutPart_39 ?_
          refine lv_goto (tgt := 44) hx hb d_M_cutPart_40 (by decide) ?_
          exact h_44 _ _ _ _ _ _ _ _ H locs ls hm hP hD hS (lv_sub hl [3, 4, 5, 6, 7, 2, 1, 0] rfl)
  refine lv_aload_n hx hb d_M_cutPart_0 rfl (lv_at hl 0 rfl) ?_
  refine lv_iconst (v := 0) hx hb d_M_cutPart_1 (by decide) ?_
  refine va_put (D := E.1) (ci := 12) (v := .int 0) (ty := .int) (C := R_M) (T := F_M) (N := 46) hx hb hts i_M t_M t_M_ok n_M hown hK hP hD hS 0 rfl rfl 19 (by decide) (hts _ tw_814) (fun _ h9 => h9) rfl (by decide +kernel) rfl rfl (Nat.le_of_ble_eq_true rfl) d_M_cutPart_2 (fun H locs hP hD hS => ?_)
  replace hP : va_P E.1 vwCl (M_cutPart_w E a_this a_pairBefore a_p1 a_tokenLength a_tokenValue n_p1 x_row x_starts x_image x_readRow x_readStart x_readAt x_readMany x_piece x_packed x_pairLast x_counts x_lengths x_fixed x_ranked x_weight x_weightBefore x_items x_lengthRow x_step x_stepMore x_codes x_symbolTree x_distanceTree x_smallTree x_readLengths x_source x_target c_pairBefore c_p1 0 c_tokenLength c_tokenValue v_plain v_closed v_rowSize v_pieces v_imageSize v_readSize v_readPieces v_packedBits v_steps v_sourceFrom v_sourceBits v_readBits v_wrong v_made v_room) H := hP
  replace hD : va_D A (M_cutPart_w E a_this a_pairBefore a_p1 a_tokenLength a_tokenValue n_p1 x_row x_starts x_image x_readRow x_readStart x_readAt x_readMany x_piece x_packed x_pairLast x_counts x_lengths x_fixed x_ranked x_weight x_weightBefore x_items x_lengthRow x_step x_stepMore x_codes x_symbolTree x_distanceTree x_smallTree x_readLengths x_source x_target c_pairBefore c_p1 0 c_tokenLength c_tokenValue v_plain v_closed v_rowSize v_pieces v_imageSize v_readSize v_readPieces v_packedBits v_steps v_sourceFrom v_sourceBits v_readBits v_wrong v_made v_room) := hD
  refine lv_iload_n hx hb d_M_cutPart_5 rfl (lv_at hl 3 rfl) ?_
  refine lv_istore (lv' := [(5, .int x3), (0, .ref a_this), (1, .ref a_p1), (2, .int x2), (3, .int x3), (4, .int x4)]) hx hb d_M_cutPart_6 hl (by decide) rfl (fun ls hl => ?_)
  exact h_8 F _ _ _ _ H locs ls hm hP hD hS (lv_sub hl [1, 2, 3, 5, 0] rfl)
theorem d_M_countTokens_0 : decode b_M_countTokens 0 = .ok (.iconst 0, 1) := by decide +kernel
theorem d_M_countTokens_1 : decode b_M_countTokens 1 = .ok (.istore_n 1, 1) := by decide +kernel
theorem d_M_countTokens_2 : decode b_M_countTokens 2 = .ok (.iload_n 1, 1) := by decide +kernel
theorem d_M_countTokens_3 : decode b_M_countTokens 3 = .ok (.sipush 339, 3) := by decide +kernel
theorem d_M_countTokens_6 : decode b_M_countTokens 6 = .ok (.if_icmp .ge 16, 3) := by decide +kernel
theorem d_M_countTokens_9 : decode b_M_countTokens 9 = .ok (.aload_n 0, 1) := by decide +kernel
theorem d_M_countTokens_10 : decode b_M_countTokens 10 = .ok (.getfield 52, 3) := by decide +kernel
theorem d_M_countTokens_13 : decode b_M_countTokens 13 = .ok (.iload_n 1, 1) := by decide +kernel
theorem d_M_countTokens_14 : decode b_M_countTokens 14 = .ok (.iconst 0, 1) := by decide +kernel
theorem d_M_countTokens_15 : decode b_M_countTokens 15 = .ok (.iastore, 1) := by decide +kernel
theorem d_M_countTokens_16 : decode b_M_countTokens 16 = .ok (.iinc 1 1, 3) := by decide +kernel
theorem d_M_countTokens_19 : decode b_M_countTokens 19 = .ok (.goto (-17), 3) := by decide +kernel
theorem d_M_countTokens_22 : decode b_M_countTokens 22 = .ok (.aload_n 0, 1) := by decide +kernel
theorem d_M_countTokens_23 : decode b_M_countTokens 23 = .ok (.getfield 52, 3) := by decide +kernel
theorem d_M_countTokens_26 : decode b_M_countTokens 26 = .ok (.sipush 256, 3) := by decide +kernel
theorem d_M_countTokens_29 : decode b_M_countTokens 29 = .ok (.iconst 1, 1) := by decide +kernel
theorem d_M_countTokens_30 : decode b_M_countTokens 30 = .ok (.iastore, 1) := by decide +kernel
theorem d_M_countTokens_31 : decode b_M_countTokens 31 = .ok (.iconst 0, 1) := by decide +kernel
theorem d_M_countTokens_32 : decode b_M_countTokens 32 = .ok (.istore_n 1, 1) := by decide +kernel
theorem d_M_countTokens_33 : decode b_M_countTokens 33 = .ok (.iload_n 1, 1) := by decide +kernel
theorem d_M_countTokens_34 : decode b_M_countTokens 34 = .ok (.aload_n 0, 1) := by decide +kernel
theorem d_M_countTokens_35 : decode b_M_countTokens 35 = .ok (.getfield 126, 3) := by decide +kernel
theorem d_M_countTokens_38 : decode b_M_countTokens 38 = .ok (.if_icmp .ge 76, 3) := by decide +kernel
theorem d_M_countTokens_41 : decode b_M_countTokens 41 = .ok (.aload_n 0, 1) := by decide +kernel
theorem d_M_countTokens_42 : decode b_M_countTokens 42 = .ok (.getfield 46, 3) := by decide +kernel
theorem d_M_countTokens_45 : decode b_M_countTokens 45 = .ok (.iload_n 1, 1) := by decide +kernel
theorem d_M_countTokens_46 : decode b_M_countTokens 46 = .ok (.iaload, 1) := by decide +kernel
theorem d_M_countTokens_47 : decode b_M_countTokens 47 = .ok (.ifCond .ne 21, 3) := by decide +kernel
theorem d_M_countTokens_50 : decode b_M_countTokens 50 = .ok (.aload_n 0, 1) := by decide +kernel
theorem d_M_countTokens_51 : decode b_M_countTokens 51 = .ok (.getfield 52, 3) := by decide +kernel
theorem d_M_countTokens_54 : decode b_M_countTokens 54 = .ok (.aload_n 0, 1) := by decide +kernel
theorem d_M_countTokens_55 : decode b_M_countTokens 55 = .ok (.getfield 49, 3) := by decide +kernel
theorem d_M_countTokens_58 : decode b_M_countTokens 58 = .ok (.iload_n 1, 1) := by decide +kernel
theorem d_M_countTokens_59 : decode b_M_countTokens 59 = .ok (.iaload, 1) := by decide +kernel
theorem d_M_countTokens_60 : decode b_M_countTokens 60 = .ok (.dup2, 1) := by decide +kernel
theorem d_M_countTokens_61 : decode b_M_countTokens 61 = .ok (.iaload, 1) := by decide +kernel
theorem d_M_countTokens_62 : decode b_M_countTokens 62 = .ok (.iconst 1, 1) := by decide +kernel
theorem d_M_countTokens_63 : decode b_M_countTokens 63 = .ok (.iadd, 1) := by decide +kernel
theorem d_M_countTokens_64 : decode b_M_countTokens 64 = .ok (.iastore, 1) := by decide +kernel
theorem d_M_countTokens_65 : decode b_M_countTokens 65 = .ok (.goto 43, 3) := by decide +kernel
theorem d_M_countTokens_68 : decode b_M_countTokens 68 = .ok (.aload_n 0, 1) := by decide +kernel
theorem d_M_countTokens_69 : decode b_M_countTokens 69 = .ok (.getfield 52, 3) := by decide +kernel
theorem d_M_countTokens_72 : decode b_M_countTokens 72 = .ok (.aload_n 0, 1) := by decide +kernel
theorem d_M_countTokens_73 : decode b_M_countTokens 73 = .ok (.getfield 46, 3) := by decide +kernel
theorem d_M_countTokens_76 : decode b_M_countTokens 76 = .ok (.iload_n 1, 1) := by decide +kernel
theorem d_M_countTokens_77 : decode b_M_countTokens 77 = .ok (.iaload, 1) := by decide +kernel
theorem d_M_countTokens_78 : decode b_M_countTokens 78 = .ok (.invokestatic 130, 3) := by decide +kernel
theorem d_M_countTokens_81 : decode b_M_countTokens 81 = .ok (.dup2, 1) := by decide +kernel
theorem d_M_countTokens_82 : decode b_M_countTokens 82 = .ok (.iaload, 1) := by decide +kernel
theorem d_M_countTokens_83 : decode b_M_countTokens 83 = .ok (.iconst 1, 1) := by decide +kernel
theorem d_M_countTokens_84 : decode b_M_countTokens 84 = .ok (.iadd, 1) := by decide +kernel
theorem d_M_countTokens_85 : decode b_M_countTokens 85 = .ok (.iastore, 1) := by decide +kernel
theorem d_M_countTokens_86 : decode b_M_countTokens 86 = .ok (.aload_n 0, 1) := by decide +kernel
theorem d_M_countTokens_87 : decode b_M_countTokens 87 = .ok (.getfield 52, 3) := by decide +kernel
theorem d_M_countTokens_90 : decode b_M_countTokens 90 = .ok (.sipush 288, 3) := by decide +kernel
theorem d_M_countTokens_93 : decode b_M_countTokens 93 = .ok (.aload_n 0, 1) := by decide +kernel
theorem d_M_countTokens_94 : decode b_M_countTokens 94 = .ok (.getfield 49, 3) := by decide +kernel
theorem d_M_countTokens_97 : decode b_M_countTokens 97 = .ok (.iload_n 1, 1) := by decide +kernel
theorem d_M_countTokens_98 : decode b_M_countTokens 98 = .ok (.iaload, 1) := by decide +kernel
theorem d_M_countTokens_99 : decode b_M_countTokens 99 = .ok (.invokestatic 133, 3) := by decide +kernel
theorem d_M_countTokens_102 : decode b_M_countTokens 102 = .ok (.iadd, 1) := by decide +kernel
theorem d_M_countTokens_103 : decode b_M_countTokens 103 = .ok (.dup2, 1) := by decide +kernel
theorem d_M_countTokens_104 : decode b_M_countTokens 104 = .ok (.iaload, 1) := by decide +kernel
theorem d_M_countTokens_105 : decode b_M_countTokens 105 = .ok (.iconst 1, 1) := by decide +kernel
theorem d_M_countTokens_106 : decode b_M_countTokens 106 = .ok (.iadd, 1) := by decide +kernel
theorem d_M_countTokens_107 : decode b_M_countTokens 107 = .ok (.iastore, 1) := by decide +kernel
theorem d_M_countTokens_108 : decode b_M_countTokens 108 = .ok (.iinc 1 1, 3) := by decide +kernel
theorem d_M_countTokens_111 : decode b_M_countTokens 111 = .ok (.goto (-78), 3) := by decide +kernel
theorem d_M_countTokens_114 : decode b_M_countTokens 114 = .ok (.return_, 1) := by decide +kernel
def M_countTokens_108 (F : Nat) (k_33 : (Nat → Int32) → Int32 → Option (Unit × (Nat → Int32))) (c_counts : Nat → Int32) (x1 : Int32) : Option (Unit × (Nat → Int32)) :=
  mL (x1 + 1) fun y1_1 => k_33 c_counts y1_1
def M_countTokens_33 (F : Nat) (v_tokens : Int32) (c_tokenLength : Nat → Int32) (c_tokenValue : Nat → Int32) (k_33 : (Nat → Int32) → Int32 → Option (Unit × (Nat → Int32))) (c_counts : Nat → Int32) (x1 : Int32) : Option (Unit × (Nat → Int32)) :=
  mC (v_tokens ≤ x1) (some ((), c_counts)) (mG x1 4096 (mC ((c_tokenLength x1.toNatClampNeg) = 0) (mG x1 4096 (mL (c_tokenValue x1.toNatClampNeg) fun t_11 => mG t_11 339 (mL ((c_counts t_11.toNatClampNeg) + 1) fun v_12 => mG t_11 339 (mL (upd c_counts t_11.toNatClampNeg v_12) fun c_13 => (M_countTokens_108 F k_33) c_13 x1)))) (mG x1 4096 (mL (c_tokenLength x1.toNatClampNeg) fun t_2 => mR0 (M_lengthSymbol F t_2) fun r_3 => mG r_3 339 (mL ((c_counts r_3.toNatClampNeg) + 1) fun v_4 => mG r_3 339 (mL (upd c_counts r_3.toNatClampNeg v_4) fun c_5 => mG x1 4096 (mL (c_tokenValue x1.toNatClampNeg) fun t_6 => mR0 (M_distanceSymbol F t_6) fun r_7 => mL (288 + r_7) fun t_8 => mG t_8 339 (mL ((c_5 t_8.toNatClampNeg) + 1) fun v_9 => mG t_8 339 (mL (upd c_5 t_8.toNatClampNeg v_9) fun c_10 => (M_countTokens_108 F k_33) c_10 x1)))))))))
def M_countTokens_22 (F : Nat) (v_tokens : Int32) (c_tokenLength : Nat → Int32) (c_tokenValue : Nat → Int32) (c_counts : Nat → Int32) : Option (Unit × (Nat → Int32)) :=
  mG 256 339 (mL (upd c_counts (256 : Int32).toNatClampNeg 1) fun c_14 => (mW2 (M_countTokens_33 F v_tokens c_tokenLength c_tokenValue) F) c_14 0)
def M_countTokens_2 (F : Nat) (k_22 : (Nat → Int32) → Option (Unit × (Nat → Int32))) (k_2 : (Nat → Int32) → Int32 → Option (Unit × (Nat → Int32))) (c_counts : Nat → Int32) (x1 : Int32) : Option (Unit × (Nat → Int32)) :=
  mC (339 ≤ x1) (k_22 c_counts) (mG x1 339 (mL (upd c_counts x1.toNatClampNeg 0) fun c_15 => mL (x1 + 1) fun y1_16 => k_2 c_15 y1_16))
abbrev M_countTokens_w (E : xE) (a_this : Nat) (a_counts : Nat) (a_tokenLength : Nat) (a_tokenValue : Nat) (x_row : Value) (x_starts : Value) (x_image : Value) (x_readRow : Value) (x_readStart : Value) (x_readAt : Value) (x_readMany : Value) (x_piece : Value) (x_packed : Value) (x_pairBefore : Value) (x_pairLast : Value) (x_lengths : Value) (x_fixed : Value) (x_ranked : Value) (x_weight : Value) (x_weightBefore : Value) (x_items : Value) (x_lengthRow : Value) (x_step : Value) (x_stepMore : Value) (x_codes : Value) (x_symbolTree : Value) (x_distanceTree : Value) (x_smallTree : Value) (x_readLengths : Value) (x_source : Value) (x_target : Value) (v_tokens : Int32) (c_tokenLength : Nat → Int32) (c_tokenValue : Nat → Int32) (c_counts : Nat → Int32) (v_plain : Int32) (v_closed : Int32) (v_rowSize : Int32) (v_pieces : Int32) (v_imageSize : Int32) (v_readSize : Int32) (v_readPieces : Int32) (v_packedBits : Int32) (v_steps : Int32) (v_sourceFrom : Int32) (v_sourceBits : Int32) (v_readBits : Int32) (v_wrong : Int32) (v_made : Int32) (v_room : Int32) : va_W := [(a_this, .inr (12, [.int v_plain, .int v_closed, .int v_rowSize, x_row, .int v_pieces, x_starts, .int v_imageSize, x_image, .int v_readSize, x_readRow, .int v_readPieces, x_readStart, x_readAt, x_readMany, x_piece, x_packed, .int v_packedBits, x_pairBefore, x_pairLast, .int v_tokens, .ref a_tokenLength, .ref a_tokenValue, .ref a_counts, x_lengths, x_fixed, x_ranked, x_weight, x_weightBefore, x_items, x_lengthRow, .int v_steps, x_step, x_stepMore, x_codes, x_symbolTree, x_distanceTree, x_smallTree, x_readLengths, x_source, .int v_sourceFrom, .int v_sourceBits, .int v_readBits, .int v_wrong, x_target, .int v_made, .int v_room])), (a_counts, .inl (E.2.1, 339, .inl c_counts)), (a_tokenLength, .inl (E.2.1, 4096, .inl c_tokenLength)), (a_tokenValue, .inl (E.2.1, 4096, .inl c_tokenValue))]
def M_countTokens (F : Nat) (v_tokens : Int32) (c_tokenLength : Nat → Int32) (c_tokenValue : Nat → Int32) (c_counts : Nat → Int32) : Option (Unit × (Nat → Int32)) :=
  (mW2 (M_countTokens_2 F (M_countTokens_22 F v_tokens c_tokenLength c_tokenValue)) F) c_counts 0
abbrev M_countTokens_rm : Room := { frames := 3, cells := 0, slots := 0, locals := 61 }
set_option maxHeartbeats 4000000 in
set_option maxRecDepth 100000 in
theorem c_M_countTokens (l : Launch) (E : xE) (F sz : Nat) (a_this : Nat) (a_counts : Nat) (a_tokenLength : Nat) (a_tokenValue : Nat) (x_row : Value) (x_starts : Value) (x_image : Value) (x_readRow : Value) (x_readStart : Value) (x_readAt : Value) (x_readMany : Value) (x_piece : Value) (x_packed : Value) (x_pairBefore : Value) (x_pairLast : Value) (x_lengths : Value) (x_fixed : Value) (x_ranked : Value) (x_weight : Value) (x_weightBefore : Value) (x_items : Value) (x_lengthRow : Value) (x_step : Value) (x_stepMore : Value) (x_codes : Value) (x_symbolTree : Value) (x_distanceTree : Value) (x_smallTree : Value) (x_readLengths : Value) (x_source : Value) (x_target : Value) (v_tokens : Int32) (c_tokenLength : Nat → Int32) (c_tokenValue : Nat → Int32) (c_counts : Nat → Int32) (v_plain : Int32) (v_closed : Int32) (v_rowSize : Int32) (v_pieces : Int32) (v_imageSize : Int32) (v_readSize : Int32) (v_readPieces : Int32) (v_packedBits : Int32) (v_steps : Int32) (v_sourceFrom : Int32) (v_sourceBits : Int32) (v_readBits : Int32) (v_wrong : Int32) (v_made : Int32) (v_room : Int32) (res : Unit × (Nat → Int32)) (hm : M_countTokens F v_tokens c_tokenLength c_tokenValue c_counts = some res) : Met l y_M_countTokens (Cond.code y_M_countTokens b_M_countTokens 2 none :: x_tb) M_countTokens_rm (va_Pc [.ref a_this] (xPre E (M_countTokens_w E a_this a_counts a_tokenLength a_tokenValue x_row x_starts x_image x_readRow x_readStart x_readAt x_readMany x_piece x_packed x_pairBefore x_pairLast x_lengths x_fixed x_ranked x_weight x_weightBefore x_items x_lengthRow x_step x_stepMore x_codes x_symbolTree x_distanceTree x_smallTree x_readLengths x_source x_target v_tokens c_tokenLength c_tokenValue c_counts v_plain v_closed v_rowSize v_pieces v_imageSize v_readSize v_readPieces v_packedBits v_steps v_sourceFrom v_sourceBits v_readBits v_wrong v_made v_room) sz)) (xQv E (fun (u : (Nat → Int32)) => u = res.2) (fun (u : (Nat → Int32)) => (M_countTokens_w E a_this a_counts a_tokenLength a_tokenValue x_row x_starts x_image x_readRow x_readStart x_readAt x_readMany x_piece x_packed x_pairBefore x_pairLast x_lengths x_fixed x_ranked x_weight x_weightBefore x_items x_lengthRow x_step x_stepMore x_codes x_symbolTree x_distanceTree x_smallTree x_readLengths x_source x_target v_tokens c_tokenLength c_tokenValue u v_plain v_closed v_rowSize v_pieces v_imageSize v_readSize v_readPieces v_packedBits v_steps v_sourceFrom v_sourceBits v_readBits v_wrong v_made v_room)) (va_A (M_countTokens_w E a_this a_counts a_tokenLength a_tokenValue x_row x_starts x_image x_readRow x_readStart x_readAt x_readMany x_piece x_packed x_pairBefore x_pairLast x_lengths x_fixed x_ranked x_weight x_weightBefore x_items x_lengthRow x_step x_stepMore x_codes x_symbolTree x_distanceTree x_smallTree x_readLengths x_source x_target v_tokens c_tokenLength c_tokenValue c_counts v_plain v_closed v_rowSize v_pieces v_imageSize v_readSize v_readPieces v_packedBits v_steps v_sourceFrom v_sourceBits v_readBits v_wrong v_made v_room) sz)) 0 0 (va_A (M_countTokens_w E a_this a_counts a_tokenLength a_tokenValue x_row x_starts x_image x_readRow x_readStart x_readAt x_readMany x_piece x_packed x_pairBefore x_pairLast x_lengths x_fixed x_ranked x_weight x_weightBefore x_items x_lengthRow x_step x_stepMore x_codes x_symbolTree x_distanceTree x_smallTree x_readLengths x_source x_target v_tokens c_tokenLength c_tokenValue c_counts v_plain v_closed v_rowSize v_pieces v_imageSize v_readSize v_readPieces v_packedBits v_steps v_sourceFrom v_sourceBits v_readBits v_wrong v_made v_room) sz) := by
  refine xEnV (by decide) (Nat.le_of_ble_eq_true rfl) ?_
  intro p e s m args below meth c A ls Q hx hb hnm hts hown hml hK hA hI hN hret hP hD hS hl
  replace hown : s.vm.findClass R_M = some m.cls := hown
  replace hl : lv_has ls 2 [(0, .ref a_this)] := hl
  obtain ⟨H, eH⟩ : ∃ z, z = s.heap := ⟨_, rfl⟩
  obtain ⟨locs, eL⟩ : ∃ z : List Loc, z = [] := ⟨_, rfl⟩
  rw [show W p l e M_countTokens_rm s m args below meth c s.heap [] 0 0 Q (F0 m 0 ls []) = W p l e M_countTokens_rm s m args below meth c H locs 0 0 Q (F0 m 0 ls []) by rw [eH, eL]]
  replace hP : va_P E.1 vwCl (M_countTokens_w E a_this a_counts a_tokenLength a_tokenValue x_row x_starts x_image x_readRow x_readStart x_readAt x_readMany x_piece x_packed x_pairBefore x_pairLast x_lengths x_fixed x_ranked x_weight x_weightBefore x_items x_lengthRow x_step x_stepMore x_codes x_symbolTree x_distanceTree x_smallTree x_readLengths x_source x_target v_tokens c_tokenLength c_tokenValue c_counts v_plain v_closed v_rowSize v_pieces v_imageSize v_readSize v_readPieces v_packedBits v_steps v_sourceFrom v_sourceBits v_readBits v_wrong v_made v_room) H := by rw [eH]; exact hP
  replace hS : va_S A s.heap H locs := by rw [eH, eL]; exact hS
  clear eH eL
  rw [M_countTokens] at hm
  have h_22 : ∀ (c_counts : Nat → Int32) (H : Heap) (locs : List Loc) (ls : Array Slot), (M_countTokens_22 F v_tokens c_tokenLength c_tokenValue) c_counts = some res → va_P E.1 vwCl (M_countTokens_w E a_this a_counts a_tokenLength a_tokenValue x_row x_starts x_image x_readRow x_readStart x_readAt x_readMany x_piece x_packed x_pairBefore x_pairLast x_lengths x_fixed x_ranked x_weight x_weightBefore x_items x_lengthRow x_step x_stepMore x_codes x_symbolTree x_distanceTree x_smallTree x_readLengths x_source x_target v_tokens c_tokenLength c_tokenValue c_counts v_plain v_closed v_rowSize v_pieces v_imageSize v_readSize v_readPieces v_packedBits v_steps v_sourceFrom v_sourceBits v_readBits v_wrong v_made v_room) H → va_D A (M_countTokens_w E a_this a_counts a_tokenLength a_tokenValue x_row x_starts x_image x_readRow x_readStart x_readAt x_readMany x_piece x_packed x_pairBefore x_pairLast x_lengths x_fixed x_ranked x_weight x_weightBefore x_items x_lengthRow x_step x_stepMore x_codes x_symbolTree x_distanceTree x_smallTree x_readLengths x_source x_target v_tokens c_tokenLength c_tokenValue c_counts v_plain v_closed v_rowSize v_pieces v_imageSize v_readSize v_readPieces v_packedBits v_steps v_sourceFrom v_sourceBits v_readBits v_wrong v_made v_room) → va_S A s.heap H locs → lv_has ls 2 [(0, .ref a_this)] → W p l e M_countTokens_rm s m args below meth c H locs 0 0 Q (F0 m 22 ls []) := by
    intro c_counts H locs ls hm hP hD hS hl
    rw [M_countTokens_22] at hm
    have h_33 : ∀ (n_33 : Nat) (c_counts : Nat → Int32) (x1 : Int32) (H : Heap) (locs : List Loc) (ls : Array Slot), (mW2 (M_countTokens_33 F v_tokens c_tokenLength c_tokenValue) n_33) c_counts x1 = some res → va_P E.1 vwCl (M_countTokens_w E a_this a_counts a_tokenLength a_tokenValue x_row x_starts x_image x_readRow x_readStart x_readAt x_readMany x_piece x_packed x_pairBefore x_pairLast x_lengths x_fixed x_ranked x_weight x_weightBefore x_items x_lengthRow x_step x_stepMore x_codes x_symbolTree x_distanceTree x_smallTree x_readLengths x_source x_target v_tokens c_tokenLength c_tokenValue c_counts v_plain v_closed v_rowSize v_pieces v_imageSize v_readSize v_readPieces v_packedBits v_steps v_sourceFrom v_sourceBits v_readBits v_wrong v_made v_room) H → va_D A (M_countTokens_w E a_this a_counts a_tokenLength a_tokenValue x_row x_starts x_image x_readRow x_readStart x_readAt x_readMany x_piece x_packed x_pairBefore x_pairLast x_lengths x_fixed x_ranked x_weight x_weightBefore x_items x_lengthRow x_step x_stepMore x_codes x_symbolTree x_distanceTree x_smallTree x_readLengths x_source x_target v_tokens c_tokenLength c_tokenValue c_counts v_plain v_closed v_rowSize v_pieces v_imageSize v_readSize v_readPieces v_packedBits v_steps v_sourceFrom v_sourceBits v_readBits v_wrong v_made v_room) → va_S A s.heap H locs → lv_has ls 2 [(0, .ref a_this), (1, .int x1)] → W p l e M_countTokens_rm s m args below meth c H locs 0 0 Q (F0 m 33 ls []) := by
      intro n_33
      induction n_33 with
      | zero => exact fun _ _ _ _ _ hm _ _ _ _ => (mW2_z hm).elim
      | succ n_33 ih_33 =>
        intro c_counts x1 H locs ls hm hP hD hS hl
        replace hm := mW2_s hm
        rw [M_countTokens_33] at hm
        refine lv_iload_n hx hb d_M_countTokens_33 rfl (lv_at hl 1 rfl) ?_
        refine lv_aload_n hx hb d_M_countTokens_34 rfl (lv_at hl 0 rfl) ?_
        refine va_get (D := E.1) (ci := 12) (v := .int v_tokens) (C := R_M) (T := F_M) (N := 46) hx hb hts i_M hown hK hP 0 rfl rfl 19 (by decide) (hts _ tw_814) (fun _ h9 => h9) rfl d_M_countTokens_35 ?_
        refine lv_icmp_ge (tgt := 114) hx hb d_M_countTokens_38 (by decide) (fun c38 => ?_) (fun c38 => ?_)
        · replace hm := mC_t hm c38
          replace hm := Option.some.inj hm
          subst hm
          exact hret d_M_countTokens_114 (u := c_counts) rfl hP hD hS
        · replace hm := mC_f hm c38
          have h_108 : ∀ (c_counts : Nat → Int32) (x1 : Int32) (H : Heap) (locs : List Loc) (ls : Array Slot), (M_countTokens_108 F (mW2 (M_countTokens_33 F v_tokens c_tokenLength c_tokenValue) n_33)) c_counts x1 = some res → va_P E.1 vwCl (M_countTokens_w E a_this a_counts a_tokenLength a_tokenValue x_row x_starts x_image x_readRow x_readStart x_readAt x_readMany x_piece x_packed x_pairBefore x_pairLast x_lengths x_fixed x_ranked x_weight x_weightBefore x_items x_lengthRow x_step x_stepMore x_codes x_symbolTree x_distanceTree x_smallTree x_readLengths x_source x_target v_tokens c_tokenLength c_tokenValue c_counts v_plain v_closed v_rowSize v_pieces v_imageSize v_readSize v_readPieces v_packedBits v_steps v_sourceFrom v_sourceBits v_readBits v_wrong v_made v_room) H → va_D A (M_countTokens_w E a_this a_counts a_tokenLength a_tokenValue x_row x_starts x_image x_readRow x_readStart x_readAt x_readMany x_piece x_packed x_pairBefore x_pairLast x_lengths x_fixed x_ranked x_weight x_weightBefore x_items x_lengthRow x_step x_stepMore x_codes x_symbolTree x_distanceTree x_smallTree x_readLengths x_source x_target v_tokens c_tokenLength c_tokenValue c_counts v_plain v_closed v_rowSize v_pieces v_imageSize v_readSize v_readPieces v_packedBits v_steps v_sourceFrom v_sourceBits v_readBits v_wrong v_made v_room) → va_S A s.heap H locs → lv_has ls 2 [(0, .ref a_this), (1, .int x1)] → W p l e M_countTokens_rm s m args below meth c H locs 0 0 Q (F0 m 108 ls []) := by
            intro c_counts x1 H locs ls hm hP hD hS hl
            rw [M_countTokens_108] at hm
            obtain ⟨y1_1, ey1_1⟩ : ∃ y : Int32, y = x1 + 1 := ⟨_, rfl⟩
            replace hm := mL_e hm y1_1 ey1_1
            refine lv_iinc (v := y1_1) (lv' := [(1, .int y1_1), (0, .ref a_this)]) hx hb d_M_countTokens_108 hl (k := 1) rfl (by rw [ey1_1]; rfl) (by decide) rfl (fun ls hl => ?_)
            refine lv_goto (tgt := 33) hx hb d_M_countTokens_111 (by decide) ?_
            exact ih_33 _ _ H locs ls hm hP hD hS (lv_sub hl [1, 0] rfl)
          refine lv_aload_n hx hb d_M_countTokens_41 rfl (lv_at hl 0 rfl) ?_
          refine va_get (D := E.1) (ci := 12) (v := .ref a_tokenLength) (C := R_M) (T := F_M) (N := 46) hx hb hts i_M hown hK hP 0 rfl rfl 20 (by decide) (hts _ tw_815) (fun _ h9 => h9) rfl d_M_countTokens_42 ?_
          refine lv_iload_n hx hb d_M_countTokens_45 rfl (lv_at hl 1 rfl) ?_
          obtain ⟨hi46, hm⟩ := mG_e hm
          refine va_iald hx hb hK hP 2 0 rfl rfl hi46 d_M_countTokens_46 ?_
          refine lv_if_ne (tgt := 68) hx hb d_M_countTokens_47 (by decide) (fun c47 => ?_) (fun c47 => ?_)
          · replace hm := mC_f hm c47
            refine lv_aload_n hx hb d_M_countTokens_68 rfl (lv_at hl 0 rfl) ?_
            refine va_get (D := E.1) (ci := 12) (v := .ref a_counts) (C := R_M) (T := F_M) (N := 46) hx hb hts i_M hown hK hP 0 rfl rfl 22 (by decide) (hts _ tw_817) (fun _ h9 => h9) rfl d_M_countTokens_69 ?_
            refine lv_aload_n hx hb d_M_countTokens_72 rfl (lv_at hl 0 rfl) ?_
            refine va_get (D := E.1) (ci := 12) (v := .ref a_tokenLength) (C := R_M) (T := F_M) (N := 46) hx hb hts i_M hown hK hP 0 rfl rfl 20 (by decide) (hts _ tw_815) (fun _ h9 => h9) rfl d_M_countTokens_73 ?_
            refine lv_iload_n hx hb d_M_countTokens_76 rfl (lv_at hl 1 rfl) ?_
            obtain ⟨hi77, hm⟩ := mG_e hm
            refine va_iald hx hb hK hP 2 0 rfl rfl hi77 d_M_countTokens_77 ?_
            obtain ⟨t_2, et_2⟩ : ∃ z : Int32, z = c_tokenLength x1.toNatClampNeg := ⟨_, rfl⟩
            rw [← et_2]
            replace hm := mL_e hm t_2 et_2
            obtain ⟨r_3, hc78, hm⟩ := mR0_e hm
            refine xmi (wc := (M_lengthSymbol_w E)) [false, false, false, false] [] [] hP hD hS hA rfl (by decide) (by decide) 0 (by decide) (fun _ => rfl) (fun hPc hDc hFc => va_runS (As := [.int t_2]) (rest := [.ref a_counts]) ⟨hx, hb, hml, hown, hts⟩ (c_M_lengthSymbol l E F H.size t_2 (r_3, ()) hc78) (va_cwS 1 hts (x_gS tw_979 tw_980 tw_79 tw_981) rfl rfl rfl (by decide +kernel) ⟨Nat.le_of_ble_eq_true rfl, Nat.le_of_ble_eq_true rfl⟩) (xPS hPc hDc hFc hK hI hN hS) rfl rfl hl.1 rfl (lv_room (Nat.le_of_ble_eq_true rfl)) d_M_countTokens_78 ⟨Nat.le_of_ble_eq_true rfl, Nat.le_of_ble_eq_true rfl⟩) (fun r9 u9 H locs hw hP hD hS => ?_)
            have hw1 : r_3 = r9 := hw.1.symm
            subst hw1
            replace hP : va_P E.1 vwCl (M_countTokens_w E a_this a_counts a_tokenLength a_tokenValue x_row x_starts x_image x_readRow x_readStart x_readAt x_readMany x_piece x_packed x_pairBefore x_pairLast x_lengths x_fixed x_ranked x_weight x_weightBefore x_items x_lengthRow x_step x_stepMore x_codes x_symbolTree x_distanceTree x_smallTree x_readLengths x_source x_target v_tokens c_tokenLength c_tokenValue c_counts v_plain v_closed v_rowSize v_pieces v_imageSize v_readSize v_readPieces v_packedBits v_steps v_sourceFrom v_sourceBits v_readBits v_wrong v_made v_room) H := hP
            replace hD : va_D A (M_countTokens_w E a_this a_counts a_tokenLength a_tokenValue x_row x_starts x_image x_readRow x_readStart x_readAt x_readMany x_piece x_packed x_pairBefore x_pairLast x_lengths x_fixed x_ranked x_weight x_weightBefore x_items x_lengthRow x_step x_stepMore x_codes x_symbolTree x_distanceTree x_smallTree x_readLengths x_source x_target v_tokens c_tokenLength c_tokenValue c_counts v_plain v_closed v_rowSize v_pieces v_imageSize v_readSize v_readPieces v_packedBits v_steps v_sourceFrom v_sourceBits v_readBits v_wrong v_made v_room) := hD
            refine lv_dup2_11 hx hb d_M_countTokens_81 rfl rfl ?_
            obtain ⟨hi82, hm⟩ := mG_e hm
            refine va_iald hx hb hK hP 1 0 rfl rfl hi82 d_M_countTokens_82 ?_
            refine lv_iconst (v := 1) hx hb d_M_countTokens_83 (by decide) ?_
            refine lv_iadd hx hb d_M_countTokens_84 ?_
            refine lv_topi (fun v_4 ev_4 => ?_)
            replace hm := mL_e hm v_4 ev_4
            obtain ⟨hi85, hm⟩ := mG_e hm
            obtain ⟨c_5, ec_5⟩ : ∃ z : Nat → Int32, z = upd c_counts r_3.toNatClampNeg v_4 := ⟨_, rfl⟩
            replace hm := mL_e hm c_5 ec_5
            refine va_iast hx hb hK hP hD hS 1 0 rfl rfl hi85 d_M_countTokens_85 (fun H locs hP hD hS => ?_)
            rw [← ec_5] at hP hD
            replace hP : va_P E.1 vwCl (M_countTokens_w E a_this a_counts a_tokenLength a_tokenValue x_row x_starts x_image x_readRow x_readStart x_readAt x_readMany x_piece x_packed x_pairBefore x_pairLast x_lengths x_fixed x_ranked x_weight x_weightBefore x_items x_lengthRow x_step x_stepMore x_codes x_symbolTree x_distanceTree x_smallTree x_readLengths x_source x_target v_tokens c_tokenLength c_tokenValue c_5 v_plain v_closed v_rowSize v_pieces v_imageSize v_readSize v_readPieces v_packedBits v_steps v_sourceFrom v_sourceBits v_readBits v_wrong v_made v_room) H := hP
            replace hD : va_D A (M_countTokens_w E a_this a_counts a_tokenLength a_tokenValue x_row x_starts x_image x_readRow x_readStart x_readAt x_readMany x_piece x_packed x_pairBefore x_pairLast x_lengths x_fixed x_ranked x_weight x_weightBefore x_items x_lengthRow x_step x_stepMore x_codes x_symbolTree x_distanceTree x_smallTree x_readLengths x_source x_target v_tokens c_tokenLength c_tokenValue c_5 v_plain v_closed v_rowSize v_pieces v_imageSize v_readSize v_readPieces v_packedBits v_steps v_sourceFrom v_sourceBits v_readBits v_wrong v_made v_room) := hD
            refine lv_aload_n hx hb d_M_countTokens_86 rfl (lv_at hl 0 rfl) ?_
            refine va_get (D := E.1) (ci := 12) (v := .ref a_counts) (C := R_M) (T := F_M) (N := 46) hx hb hts i_M hown hK hP 0 rfl rfl 22 (by decide) (hts _ tw_817) (fun _ h9 => h9) rfl d_M_countTokens_87 ?_
            refine lv_sipush (v := 288) hx hb d_M_countTokens_90 (by decide) ?_
            refine lv_aload_n hx hb d_M_countTokens_93 rfl (lv_at hl 0 rfl) ?_
            refine va_get (D := E.1) (ci := 12) (v := .ref a_tokenValue) (C := R_M) (T := F_M) (N := 46) hx hb hts i_M hown hK hP 0 rfl rfl 21 (by decide) (hts _ tw_816) (fun _ h9 => h9) rfl d_M_countTokens_94 ?_
            refine lv_iload_n hx hb d_M_countTokens_97 rfl (lv_at hl 1 rfl) ?_
            obtain ⟨hi98, hm⟩ := mG_e hm
            refine va_iald hx hb hK hP 3 0 rfl rfl hi98 d_M_countTokens_98 ?_
            obtain ⟨t_6, et_6⟩ : ∃ z : Int32, z = c_tokenValue x1.toNatClampNeg := ⟨_, rfl⟩
            rw [← et_6]
            replace hm := mL_e hm t_6 et_6
            obtain ⟨r_7, hc99, hm⟩ := mR0_e hm
            refine xmi (wc := (M_distanceSymbol_w E)) [false, false, false, false] [] [] hP hD hS hA rfl (by decide) (by decide) 0 (by decide) (fun _ => rfl) (fun hPc hDc hFc => va_runS (As := [.int t_6]) (rest := [.int 288, .ref a_counts]) ⟨hx, hb, hml, hown, hts⟩ (c_M_distanceSymbol l E F H.size t_6 (r_7, ()) hc99) (va_cwS 1 hts (x_gS tw_988 tw_989 tw_79 tw_990) rfl rfl rfl (by decide +kernel) ⟨Nat.le_of_ble_eq_true rfl, Nat.le_of_ble_eq_true rfl⟩) (xPS hPc hDc hFc hK hI hN hS) rfl rfl hl.1 rfl (lv_room (Nat.le_of_ble_eq_true rfl)) d_M_countTokens_99 ⟨Nat.le_of_ble_eq_true rfl, Nat.le_of_ble_eq_true rfl⟩) (fun r9 u9 H locs hw hP hD hS => ?_)
            have hw1 : r_7 = r9 := hw.1.symm
            subst hw1
            replace hP : va_P E.1 vwCl (M_countTokens_w E a_this a_counts a_tokenLength a_tokenValue x_row x_starts x_image x_readRow x_readStart x_readAt x_readMany x_piece x_packed x_pairBefore x_pairLast x_lengths x_fixed x_ranked x_weight x_weightBefore x_items x_lengthRow x_step x_stepMore x_codes x_symbolTree x_distanceTree x_smallTree x_readLengths x_source x_target v_tokens c_tokenLength c_tokenValue c_5 v_plain v_closed v_rowSize v_pieces v_imageSize v_readSize v_readPieces v_packedBits v_steps v_sourceFrom v_sourceBits v_readBits v_wrong v_made v_room) H := hP
            replace hD : va_D A (M_countTokens_w E a_this a_counts a_tokenLength a_tokenValue x_row x_starts x_image x_readRow x_readStart x_readAt x_readMany x_piece x_packed x_pairBefore x_pairLast x_lengths x_fixed x_ranked x_weight x_weightBefore x_items x_lengthRow x_step x_stepMore x_codes x_symbolTree x_distanceTree x_smallTree x_readLengths x_source x_target v_tokens c_tokenLength c_tokenValue c_5 v_plain v_closed v_rowSize v_pieces v_imageSize v_readSize v_readPieces v_packedBits v_steps v_sourceFrom v_sourceBits v_readBits v_wrong v_made v_room) := hD
            refine lv_iadd hx hb d_M_countTokens_102 ?_
            refine lv_topi (fun t_8 et_8 => ?_)
            replace hm := mL_e hm t_8 et_8
            refine lv_dup2_11 hx hb d_M_countTokens_103 rfl rfl ?_
            obtain ⟨hi104, hm⟩ := mG_e hm
            refine va_iald hx hb hK hP 1 0 rfl rfl hi104 d_M_countTokens_104 ?_
            refine lv_iconst (v := 1) hx hb d_M_countTokens_105 (by decide) ?_
            refine lv_iadd hx hb d_M_countTokens_106 ?_
            refine lv_topi (fun v_9 ev_9 => ?_)
            replace hm := mL_e hm v_9 ev_9
            obtain ⟨hi107, hm⟩ := mG_e hm
            obtain ⟨c_10, ec_10⟩ : ∃ z : Nat → Int32, z = upd c_5 t_8.toNatClampNeg v_9 := ⟨_, rfl⟩
            replace hm := mL_e hm c_10 ec_10
            refine va_iast hx hb hK hP hD hS 1 0 rfl rfl hi107 d_M_countTokens_107 (fun H locs hP hD hS => ?_)
            rw [← ec_10] at hP hD
            replace hP : va_P E.1 vwCl (M_countTokens_w E a_this a_counts a_tokenLength a_tokenValue x_row x_starts x_image x_readRow x_readStart x_readAt x_readMany x_piece x_packed x_pairBefore x_pairLast x_lengths x_fixed x_ranked x_weight x_weightBefore x_items x_lengthRow x_step x_stepMore x_codes x_symbolTree x_distanceTree x_smallTree x_readLengths x_source x_target v_tokens c_tokenLength c_tokenValue c_10 v_plain v_closed v_rowSize v_pieces v_imageSize v_readSize v_readPieces v_packedBits v_steps v_sourceFrom v_sourceBits v_readBits v_wrong v_made v_room) H := hP
            replace hD : va_D A (M_countTokens_w E a_this a_counts a_tokenLength a_tokenValue x_row x_starts x_image x_readRow x_readStart x_readAt x_readMany x_piece x_packed x_pairBefore x_pairLast x_lengths x_fixed x_ranked x_weight x_weightBefore x_items x_lengthRow x_step x_stepMore x_codes x_symbolTree x_distanceTree x_smallTree x_readLengths x_source x_target v_tokens c_tokenLength c_tokenValue c_10 v_plain v_closed v_rowSize v_pieces v_imageSize v_readSize v_readPieces v_packedBits v_steps v_sourceFrom v_sourceBits v_readBits v_wrong v_made v_room) := hD
            exact h_108 _ _ H locs ls hm hP hD hS hl
          · replace hm := mC_t hm c47
            refine lv_aload_n hx hb d_M_countTokens_50 rfl (lv_at hl 0 rfl) ?_
            refine va_get (D := E.1) (ci := 12) (v := .ref a_counts) (C := R_M) (T := F_M) (N := 46) hx hb hts i_M hown hK hP 0 rfl rfl 22 (by decide) (hts _ tw_817) (fun _ h9 => h9) rfl d_M_countTokens_51 ?_
            refine lv_aload_n hx hb d_M_countTokens_54 rfl (lv_at hl 0 rfl) ?_
            refine va_get (D := E.1) (ci := 12) (v := .ref a_tokenValue) (C := R_M) (T := F_M) (N := 46) hx hb hts i_M hown hK hP 0 rfl rfl 21 (by decide) (hts _ tw_816) (fun _ h9 => h9) rfl d_M_countTokens_55 ?_
            refine lv_iload_n hx hb d_M_countTokens_58 rfl (lv_at hl 1 rfl) ?_
            obtain ⟨hi59, hm⟩ := mG_e hm
            refine va_iald hx hb hK hP 3 0 rfl rfl hi59 d_M_countTokens_59 ?_
            refine lv_topi (fun t_11 et_11 => ?_)
            replace hm := mL_e hm t_11 et_11
            refine lv_dup2_11 hx hb d_M_countTokens_60 rfl rfl ?_
            obtain ⟨hi61, hm⟩ := mG_e hm
            refine va_iald hx hb hK hP 1 0 rfl rfl hi61 d_M_countTokens_61 ?_
            refine lv_iconst (v := 1) hx hb d_M_countTokens_62 (by decide) ?_
            refine lv_iadd hx hb d_M_countTokens_63 ?_
            refine lv_topi (fun v_12 ev_12 => ?_)
            replace hm := mL_e hm v_12 ev_12
            obtain ⟨hi64, hm⟩ := mG_e hm
            obtain ⟨c_13, ec_13⟩ : ∃ z : Nat → Int32, z = upd c_counts t_11.toNatClampNeg v_12 := ⟨_, rfl⟩
            replace hm := mL_e hm c_13 ec_13
            refine va_iast hx hb hK hP hD hS 1 0 rfl rfl hi64 d_M_countTokens_64 (fun H locs hP hD hS => ?_)
            rw [← ec_13] at hP hD
            replace hP : va_P E.1 vwCl (M_countTokens_w E a_this a_counts a_tokenLength a_tokenValue x_row x_starts x_image x_readRow x_readStart x_readAt x_readMany x_piece x_packed x_pairBefore x_pairLast x_lengths x_fixed x_ranked x_weight x_weightBefore x_items x_lengthRow x_step x_stepMore x_codes x_symbolTree x_distanceTree x_smallTree x_readLengths x_source x_target v_tokens c_tokenLength c_tokenValue c_13 v_plain v_closed v_rowSize v_pieces v_imageSize v_readSize v_readPieces v_packedBits v_steps v_sourceFrom v_sourceBits v_readBits v_wrong v_made v_room) H := hP
            replace hD : va_D A (M_countTokens_w E a_this a_counts a_tokenLength a_tokenValue x_row x_starts x_image x_readRow x_readStart x_readAt x_readMany x_piece x_packed x_pairBefore x_pairLast x_lengths x_fixed x_ranked x_weight x_weightBefore x_items x_lengthRow x_step x_stepMore x_codes x_symbolTree x_distanceTree x_smallTree x_readLengths x_source x_target v_tokens c_tokenLength c_tokenValue c_13 v_plain v_closed v_rowSize v_pieces v_imageSize v_readSize v_readPieces v_packedBits v_steps v_sourceFrom v_sourceBits v_readBits v_wrong v_made v_room) := hD
            refine lv_goto (tgt := 108) hx hb d_M_countTokens_65 (by decide) ?_
            exact h_108 _ _ H locs ls hm hP hD hS hl
    refine lv_aload_n hx hb d_M_countTokens_22 rfl (lv_at hl 0 rfl) ?_
    refine va_get (D := E.1) (ci := 12) (v := .ref a_counts) (C := R_M) (T := F_M) (N := 46) hx hb hts i_M hown hK hP 0 rfl rfl 22 (by decide) (hts _ tw_817) (fun _ h9 => h9) rfl d_M_countTokens_23 ?_
    refine lv_sipush (v := 256) hx hb d_M_countTokens_26 (by decide) ?_
    refine lv_iconst (v := 1) hx hb d_M_countTokens_29 (by decide) ?_
    obtain ⟨hi30, hm⟩ := mG_e hm
    obtain ⟨c_14, ec_14⟩ : ∃ z : Nat → Int32, z = upd c_counts (256 : Int32).toNatClampNeg 1 := ⟨_, rfl⟩
    replace hm := mL_e hm c_14 ec_14
    refine va_iast hx hb hK hP hD hS 1 0 rfl rfl hi30 d_M_countTokens_30 (fun H locs hP hD hS => ?_)
    rw [← ec_14] at hP hD
    replace hP : va_P E.1 vwCl (M_countTokens_w E a_this a_counts a_tokenLength a_tokenValue x_row x_starts x_image x_readRow x_readStart x_readAt x_readMany x_piece x_packed x_pairBefore x_pairLast x_lengths x_fixed x_ranked x_weight x_weightBefore x_items x_lengthRow x_step x_stepMore x_codes x_symbolTree x_distanceTree x_smallTree x_readLengths x_source x_target v_tokens c_tokenLength c_tokenValue c_14 v_plain v_closed v_rowSize v_pieces v_imageSize v_readSize v_readPieces v_packedBits v_steps v_sourceFrom v_sourceBits v_readBits v_wrong v_made v_room) H := hP
    replace hD : va_D A (M_countTokens_w E a_this a_counts a_tokenLength a_tokenValue x_row x_starts x_image x_readRow x_readStart x_readAt x_readMany x_piece x_packed x_pairBefore x_pairLast x_lengths x_fixed x_ranked x_weight x_weightBefore x_items x_lengthRow x_step x_stepMore x_codes x_symbolTree x_distanceTree x_smallTree x_readLengths x_source x_target v_tokens c_tokenLength c_tokenValue c_14 v_plain v_closed v_rowSize v_pieces v_imageSize v_readSize v_readPieces v_packedBits v_steps v_sourceFrom v_sourceBits v_readBits v_wrong v_made v_room) := hD
    refine lv_iconst (v := 0) hx hb d_M_countTokens_31 (by decide) ?_
    refine lv_istore_n (lv' := [(1, .int 0), (0, .ref a_this)]) hx hb d_M_countTokens_32 rfl hl (by decide) rfl (fun ls hl => ?_)
    exact h_33 F _ _ H locs ls hm hP hD hS (lv_sub hl [1, 0] rfl)
  have h_2 : ∀ (n_2 : Nat) (c_counts : Nat → Int32) (x1 : Int32) (H : Heap) (locs : List Loc) (ls : Array Slot), (mW2 (M_countTokens_2 F (M_countTokens_22 F v_tokens c_tokenLength c_tokenValue)) n_2) c_counts x1 = some res → va_P E.1 vwCl (M_countTokens_w E a_this a_counts a_tokenLength a_tokenValue x_row x_starts x_image x_readRow x_readStart x_readAt x_readMany x_piece x_packed x_pairBefore x_pairLast x_lengths x_fixed x_ranked x_weight x_weightBefore x_items x_lengthRow x_step x_stepMore x_codes x_symbolTree x_distanceTree x_smallTree x_readLengths x_source x_target v_tokens c_tokenLength c_tokenValue c_counts v_plain v_closed v_rowSize v_pieces v_imageSize v_readSize v_readPieces v_packedBits v_steps v_sourceFrom v_sourceBits v_readBits v_wrong v_made v_room) H → va_D A (M_countTokens_w E a_this a_counts a_tokenLength a_tokenValue x_row x_starts x_image x_readRow x_readStart x_readAt x_readMany x_piece x_packed x_pairBefore x_pairLast x_lengths x_fixed x_ranked x_weight x_weightBefore x_items x_lengthRow x_step x_stepMore x_codes x_symbolTree x_distanceTree x_smallTree x_readLengths x_source x_target v_tokens c_tokenLength c_tokenValue c_counts v_plain v_closed v_rowSize v_pieces v_imageSize v_readSize v_readPieces v_packedBits v_steps v_sourceFrom v_sourceBits v_readBits v_wrong v_made v_room) → va_S A s.heap H locs → lv_has ls 2 [(0, .ref a_this), (1, .int x1)] → W p l e M_countTokens_rm s m args below meth c H locs 0 0 Q (F0 m 2 ls []) := by
    intro n_2
    induction n_2 with
    | zero => exact fun _ _ _ _ _ hm _ _ _ _ => (mW2_z hm).elim
    | succ n_2 ih_2 =>
      intro c_counts x1 H locs ls hm hP hD hS hl
      replace hm := mW2_s hm
      rw [M_countTokens_2] at hm
      refine lv_iload_n hx hb d_M_countTokens_2 rfl (lv_at hl 1 rfl) ?_
      refine lv_sipush (v := 339) hx hb d_M_countTokens_3 (by decide) ?_
      refine lv_icmp_ge (tgt := 22) hx hb d_M_countTokens_6 (by decide) (fun c6 => ?_) (fun c6 => ?_)
      · replace hm := mC_t hm c6
        exact h_22 _ H locs ls hm hP hD hS (lv_sub hl [0] rfl)
      · replace hm := mC_f hm c6
        refine lv_aload_n hx hb d_M_countTokens_9 rfl (lv_at hl 0 rfl) ?_
        refine va_get (D := E.1) (ci := 12) (v := .ref a_counts) (C := R_M) (T := F_M) (N := 46) hx hb hts i_M hown hK hP 0 rfl rfl 22 (by decide) (hts _ tw_817) (fun _ h9 => h9) rfl d_M_countTokens_10 ?_
        refine lv_iload_n hx hb d_M_countTokens_13 rfl (lv_at hl 1 rfl) ?_
        refine lv_iconst (v := 0) hx hb d_M_countTokens_14 (by decide) ?_
        obtain ⟨hi15, hm⟩ := mG_e hm
        obtain ⟨c_15, ec_15⟩ : ∃ z : Nat → Int32, z = upd c_counts x1.toNatClampNeg 0 := ⟨_, rfl⟩
        replace hm := mL_e hm c_15 ec_15
        refine va_iast hx hb hK hP hD hS 1 0 rfl rfl hi15 d_M_countTokens_15 (fun H locs hP hD hS => ?_)
        rw [← ec_15] at hP hD
        replace hP : va_P E.1 vwCl (M_countTokens_w E a_this a_counts a_tokenLength a_tokenValue x_row x_starts x_image x_readRow x_readStart x_readAt x_readMany x_piece x_packed x_pairBefore x_pairLast x_lengths x_fixed x_ranked x_weight x_weightBefore x_items x_lengthRow x_step x_stepMore x_codes x_symbolTree x_distanceTree x_smallTree x_readLengths x_source x_target v_tokens c_tokenLength c_tokenValue c_15 v_plain v_closed v_rowSize v_pieces v_imageSize v_readSize v_readPieces v_packedBits v_steps v_sourceFrom v_sourceBits v_readBits v_wrong v_made v_room) H := hP
        replace hD : va_D A (M_countTokens_w E a_this a_counts a_tokenLength a_tokenValue x_row x_starts x_image x_readRow x_readStart x_readAt x_readMany x_piece x_packed x_pairBefore x_pairLast x_lengths x_fixed x_ranked x_weight x_weightBefore x_items x_lengthRow x_step x_stepMore x_codes x_symbolTree x_distanceTree x_smallTree x_readLengths x_source x_target v_tokens c_tokenLength c_tokenValue c_15 v_plain v_closed v_rowSize v_pieces v_imageSize v_readSize v_readPieces v_packedBits v_steps v_sourceFrom v_sourceBits v_readBits v_wrong v_made v_room) := hD
        obtain ⟨y1_16, ey1_16⟩ : ∃ y : Int32, y = x1 + 1 := ⟨_, rfl⟩
        replace hm := mL_e hm y1_16 ey1_16
        refine lv_iinc (v := y1_16) (lv' := [(1, .int y1_16), (0, .ref a_this)]) hx hb d_M_countTokens_16 hl (k := 1) rfl (by rw [ey1_16]; rfl) (by decide) rfl (fun ls hl => ?_)
        refine lv_goto (tgt := 2) hx hb d_M_countTokens_19 (by decide) ?_
        exact ih_2 _ _ H locs ls hm hP hD hS (lv_sub hl [1, 0] rfl)
  refine lv_iconst (v := 0) hx hb d_M_countTokens_0 (by decide) ?_
  refine lv_istore_n (lv' := [(1, .int 0), (0, .ref a_this)]) hx hb d_M_countTokens_1 rfl hl (by decide) rfl (fun ls hl => ?_)
  exact h_2 F _ _ H locs ls hm hP hD hS (lv_sub hl [1, 0] rfl)
