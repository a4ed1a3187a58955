theorem d_Unpacker_made_0 : decode b_Unpacker_made 0 = .ok (.aload_n 0, 1) := by decide +kernel
theorem d_Unpacker_made_1 : decode b_Unpacker_made 1 = .ok (.getfield 20, 3) := by decide +kernel
theorem d_Unpacker_made_4 : decode b_Unpacker_made 4 = .ok (.invokevirtual 67, 3) := by decide +kernel
theorem d_Unpacker_made_7 : decode b_Unpacker_made 7 = .ok (.aload_n 0, 1) := by decide +kernel
theorem d_Unpacker_made_8 : decode b_Unpacker_made 8 = .ok (.getfield 73, 3) := by decide +kernel
theorem d_Unpacker_made_11 : decode b_Unpacker_made 11 = .ok (.isub, 1) := by decide +kernel
theorem d_Unpacker_made_12 : decode b_Unpacker_made 12 = .ok (.ireturn, 1) := by decide +kernel
abbrev Unpacker_made_w (E : xE) (a_this : Nat) (a_out : Nat) (x_in : Value) (x_fixedSymbols : Value) (x_fixedDistances : Value) (x_madeSymbols : Value) (x_madeDistances : Value) (x_lengthCodes : Value) (x_lengths : Value) (x_out_data : Value) (v_outStart : Int32) (v_out_length : Int32) (v_farthest : Int32) : va_W := [(a_this, .inr (9, [x_in, .ref a_out, x_fixedSymbols, x_fixedDistances, x_madeSymbols, x_madeDistances, x_lengthCodes, x_lengths, .int v_outStart, .int v_farthest])), (a_out, .inr (2, [x_out_data, .int v_out_length]))]
def Unpacker_made (F : Nat) (v_outStart : Int32) (v_out_length : Int32) : Option (Int32 × Unit) :=
  mR0 (Bytes_length F v_out_length) fun r_1 => some (r_1 - v_outStart, ())
abbrev Unpacker_made_rm : Room := { frames := 1, cells := 0, slots := 0, locals := 20 }
set_option maxHeartbeats 4000000 in
set_option maxRecDepth 100000 in
theorem c_Unpacker_made (l : Launch) (E : xE) (F sz : Nat) (a_this : Nat) (a_out : Nat) (x_in : Value) (x_fixedSymbols : Value) (x_fixedDistances : Value) (x_madeSymbols : Value) (x_madeDistances : Value) (x_lengthCodes : Value) (x_lengths : Value) (x_out_data : Value) (v_outStart : Int32) (v_out_length : Int32) (v_farthest : Int32) (res : Int32 × Unit) (hm : Unpacker_made F v_outStart v_out_length = some res) : Met l y_Unpacker_made (Cond.code y_Unpacker_made b_Unpacker_made 1 (some .int) :: x_tb) Unpacker_made_rm (va_Pc [.ref a_this] (xPre E (Unpacker_made_w E a_this a_out x_in x_fixedSymbols x_fixedDistances x_madeSymbols x_madeDistances x_lengthCodes x_lengths x_out_data v_outStart v_out_length v_farthest) sz)) (xQi E (fun (r : Int32) (u : Unit) => r = res.1 ∧ u = res.2) (fun (u : Unit) => (Unpacker_made_w E a_this a_out x_in x_fixedSymbols x_fixedDistances x_madeSymbols x_madeDistances x_lengthCodes x_lengths x_out_data v_outStart v_out_length v_farthest)) (va_A (Unpacker_made_w E a_this a_out x_in x_fixedSymbols x_fixedDistances x_madeSymbols x_madeDistances x_lengthCodes x_lengths x_out_data v_outStart v_out_length v_farthest) sz)) 0 0 (va_A (Unpacker_made_w E a_this a_out x_in x_fixedSymbols x_fixedDistances x_madeSymbols x_madeDistances x_lengthCodes x_lengths x_out_data v_outStart v_out_length v_farthest) sz) := by
  refine xEnI (by decide) (Nat.le_of_ble_eq_true rfl) ?_
  intro p e s m args below meth c A ls Q hx hb hnm hts hown hml hK hA hI hN hret hP hD hS hl
  replace hown : s.vm.findClass R_Unpacker = some m.cls := hown
  replace hl : lv_has ls 1 [(0, .ref a_this)] := hl
  obtain ⟨H, eH⟩ : ∃ z, z = s.heap := ⟨_, rfl⟩
  obtain ⟨locs, eL⟩ : ∃ z : List Loc, z = [] := ⟨_, rfl⟩
  rw [show W p l e Unpacker_made_rm s m args below meth c s.heap [] 0 0 Q (F0 m 0 ls []) = W p l e Unpacker_made_rm s m args below meth c H locs 0 0 Q (F0 m 0 ls []) by rw [eH, eL]]
  replace hP : va_P E.1 vwCl (Unpacker_made_w E a_this a_out x_in x_fixedSymbols x_fixedDistances x_madeSymbols x_madeDistances x_lengthCodes x_lengths x_out_data v_outStart v_out_length v_farthest) H := by rw [eH]; exact hP
  replace hS : va_S A s.heap H locs := by rw [eH, eL]; exact hS
  clear eH eL
  rw [Unpacker_made] at hm
  refine lv_aload_n hx hb d_Unpacker_made_0 rfl (lv_at hl 0 rfl) ?_
  refine va_get (D := E.1) (ci := 9) (v := .ref a_out) (C := R_Unpacker) (T := F_Unpacker) (N := 10) hx hb hts i_Unpacker hown hK hP 0 rfl rfl 1 (by decide) (hts _ tw_344) (fun _ h9 => h9) rfl d_Unpacker_made_1 ?_
  obtain ⟨r_1, hc4, hm⟩ := mR0_e hm
  refine xmi (wc := (Bytes_length_w E a_out x_out_data v_out_length)) [false, true] [0] [0] hP hD hS hA rfl (by decide) (by decide) 1 (by decide) (fun _ => rfl) (fun hPc hDc hFc => va_runV (As := []) (rest := []) ⟨hx, hb, hml, hown, hts⟩ (c_Bytes_length l E F H.size a_out x_out_data v_out_length (r_1, ()) hc4) (cwV 0 hts (x_gV tw_701 tw_422 tw_423 tw_67 tw_424) rfl rfl rfl (by decide +kernel) ⟨Nat.le_of_ble_eq_true rfl, Nat.le_of_ble_eq_true rfl⟩) (xPV 2 0 rfl rfl hPc hDc hFc hK hI hN hS) rfl rfl hl.1 rfl (lv_room (Nat.le_of_ble_eq_true rfl)) d_Unpacker_made_4 ⟨Nat.le_of_ble_eq_true rfl, Nat.le_of_ble_eq_true rfl⟩) (fun r9 u9 H locs hw hP hD hS => ?_)
  have hw1 : r_1 = r9 := hw.1.symm
  subst hw1
  replace hP : va_P E.1 vwCl (Unpacker_made_w E a_this a_out x_in x_fixedSymbols x_fixedDistances x_madeSymbols x_madeDistances x_lengthCodes x_lengths x_out_data v_outStart v_out_length v_farthest) H := hP
  replace hD : va_D A (Unpacker_made_w E a_this a_out x_in x_fixedSymbols x_fixedDistances x_madeSymbols x_madeDistances x_lengthCodes x_lengths x_out_data v_outStart v_out_length v_farthest) := hD
  refine lv_aload_n hx hb d_Unpacker_made_7 rfl (lv_at hl 0 rfl) ?_
  refine va_get (D := E.1) (ci := 9) (v := .int v_outStart) (C := R_Unpacker) (T := F_Unpacker) (N := 10) hx hb hts i_Unpacker hown hK hP 0 rfl rfl 8 (by decide) (hts _ tw_351) (fun _ h9 => h9) rfl d_Unpacker_made_8 ?_
  refine lv_isub hx hb d_Unpacker_made_11 ?_
  replace hm := Option.some.inj hm
  subst hm
  exact hret d_Unpacker_made_12 (u := ()) ⟨rfl, rfl⟩ hP hD hS
theorem d_Unpacker_beginningHolds_0 : decode b_Unpacker_beginningHolds 0 = .ok (.aload_n 0, 1) := by decide +kernel
theorem d_Unpacker_beginningHolds_1 : decode b_Unpacker_beginningHolds 1 = .ok (.getfield 14, 3) := by decide +kernel
theorem d_Unpacker_beginningHolds_4 : decode b_Unpacker_beginningHolds 4 = .ok (.bipush 8, 2) := by decide +kernel
theorem d_Unpacker_beginningHolds_6 : decode b_Unpacker_beginningHolds 6 = .ok (.invokevirtual 82, 3) := by decide +kernel
theorem d_Unpacker_beginningHolds_9 : decode b_Unpacker_beginningHolds 9 = .ok (.istore_n 1, 1) := by decide +kernel
theorem d_Unpacker_beginningHolds_10 : decode b_Unpacker_beginningHolds 10 = .ok (.aload_n 0, 1) := by decide +kernel
theorem d_Unpacker_beginningHolds_11 : decode b_Unpacker_beginningHolds 11 = .ok (.getfield 14, 3) := by decide +kernel
theorem d_Unpacker_beginningHolds_14 : decode b_Unpacker_beginningHolds 14 = .ok (.bipush 8, 2) := by decide +kernel
theorem d_Unpacker_beginningHolds_16 : decode b_Unpacker_beginningHolds 16 = .ok (.invokevirtual 82, 3) := by decide +kernel
theorem d_Unpacker_beginningHolds_19 : decode b_Unpacker_beginningHolds 19 = .ok (.istore_n 2, 1) := by decide +kernel
theorem d_Unpacker_beginningHolds_20 : decode b_Unpacker_beginningHolds 20 = .ok (.iload_n 1, 1) := by decide +kernel
theorem d_Unpacker_beginningHolds_21 : decode b_Unpacker_beginningHolds 21 = .ok (.ifCond .lt 7, 3) := by decide +kernel
theorem d_Unpacker_beginningHolds_24 : decode b_Unpacker_beginningHolds 24 = .ok (.iload_n 2, 1) := by decide +kernel
theorem d_Unpacker_beginningHolds_25 : decode b_Unpacker_beginningHolds 25 = .ok (.ifCond .ge 5, 3) := by decide +kernel
theorem d_Unpacker_beginningHolds_28 : decode b_Unpacker_beginningHolds 28 = .ok (.iconst 0, 1) := by decide +kernel
theorem d_Unpacker_beginningHolds_29 : decode b_Unpacker_beginningHolds 29 = .ok (.ireturn, 1) := by decide +kernel
theorem d_Unpacker_beginningHolds_30 : decode b_Unpacker_beginningHolds 30 = .ok (.aload_n 0, 1) := by decide +kernel
theorem d_Unpacker_beginningHolds_31 : decode b_Unpacker_beginningHolds 31 = .ok (.sipush 256, 3) := by decide +kernel
theorem d_Unpacker_beginningHolds_34 : decode b_Unpacker_beginningHolds 34 = .ok (.iload_n 1, 1) := by decide +kernel
theorem d_Unpacker_beginningHolds_35 : decode b_Unpacker_beginningHolds 35 = .ok (.iconst 4, 1) := by decide +kernel
theorem d_Unpacker_beginningHolds_36 : decode b_Unpacker_beginningHolds 36 = .ok (.ishr, 1) := by decide +kernel
theorem d_Unpacker_beginningHolds_37 : decode b_Unpacker_beginningHolds 37 = .ok (.ishl, 1) := by decide +kernel
theorem d_Unpacker_beginningHolds_38 : decode b_Unpacker_beginningHolds 38 = .ok (.putfield 98, 3) := by decide +kernel
theorem d_Unpacker_beginningHolds_41 : decode b_Unpacker_beginningHolds 41 = .ok (.sipush 256, 3) := by decide +kernel
theorem d_Unpacker_beginningHolds_44 : decode b_Unpacker_beginningHolds 44 = .ok (.iload_n 1, 1) := by decide +kernel
theorem d_Unpacker_beginningHolds_45 : decode b_Unpacker_beginningHolds 45 = .ok (.imul, 1) := by decide +kernel
theorem d_Unpacker_beginningHolds_46 : decode b_Unpacker_beginningHolds 46 = .ok (.iload_n 2, 1) := by decide +kernel
theorem d_Unpacker_beginningHolds_47 : decode b_Unpacker_beginningHolds 47 = .ok (.iadd, 1) := by decide +kernel
theorem d_Unpacker_beginningHolds_48 : decode b_Unpacker_beginningHolds 48 = .ok (.bipush 31, 2) := by decide +kernel
theorem d_Unpacker_beginningHolds_50 : decode b_Unpacker_beginningHolds 50 = .ok (.irem, 1) := by decide +kernel
theorem d_Unpacker_beginningHolds_51 : decode b_Unpacker_beginningHolds 51 = .ok (.ifCond .ne 31, 3) := by decide +kernel
theorem d_Unpacker_beginningHolds_54 : decode b_Unpacker_beginningHolds 54 = .ok (.iload_n 1, 1) := by decide +kernel
theorem d_Unpacker_beginningHolds_55 : decode b_Unpacker_beginningHolds 55 = .ok (.bipush 15, 2) := by decide +kernel
theorem d_Unpacker_beginningHolds_57 : decode b_Unpacker_beginningHolds 57 = .ok (.iand, 1) := by decide +kernel
theorem d_Unpacker_beginningHolds_58 : decode b_Unpacker_beginningHolds 58 = .ok (.bipush 8, 2) := by decide +kernel
theorem d_Unpacker_beginningHolds_60 : decode b_Unpacker_beginningHolds 60 = .ok (.if_icmp .ne 22, 3) := by decide +kernel
theorem d_Unpacker_beginningHolds_63 : decode b_Unpacker_beginningHolds 63 = .ok (.iload_n 1, 1) := by decide +kernel
theorem d_Unpacker_beginningHolds_64 : decode b_Unpacker_beginningHolds 64 = .ok (.iconst 4, 1) := by decide +kernel
theorem d_Unpacker_beginningHolds_65 : decode b_Unpacker_beginningHolds 65 = .ok (.ishr, 1) := by decide +kernel
theorem d_Unpacker_beginningHolds_66 : decode b_Unpacker_beginningHolds 66 = .ok (.bipush 7, 2) := by decide +kernel
theorem d_Unpacker_beginningHolds_68 : decode b_Unpacker_beginningHolds 68 = .ok (.if_icmp .gt 14, 3) := by decide +kernel
theorem d_Unpacker_beginningHolds_71 : decode b_Unpacker_beginningHolds 71 = .ok (.iload_n 2, 1) := by decide +kernel
theorem d_Unpacker_beginningHolds_72 : decode b_Unpacker_beginningHolds 72 = .ok (.bipush 32, 2) := by decide +kernel
theorem d_Unpacker_beginningHolds_74 : decode b_Unpacker_beginningHolds 74 = .ok (.iand, 1) := by decide +kernel
theorem d_Unpacker_beginningHolds_75 : decode b_Unpacker_beginningHolds 75 = .ok (.ifCond .ne 7, 3) := by decide +kernel
theorem d_Unpacker_beginningHolds_78 : decode b_Unpacker_beginningHolds 78 = .ok (.iconst 1, 1) := by decide +kernel
theorem d_Unpacker_beginningHolds_79 : decode b_Unpacker_beginningHolds 79 = .ok (.goto 4, 3) := by decide +kernel
theorem d_Unpacker_beginningHolds_82 : decode b_Unpacker_beginningHolds 82 = .ok (.iconst 0, 1) := by decide +kernel
theorem d_Unpacker_beginningHolds_83 : decode b_Unpacker_beginningHolds 83 = .ok (.ireturn, 1) := by decide +kernel
abbrev Unpacker_beginningHolds_w (E : xE) (a_this : Nat) (a_in : Nat) (a_in_row : Nat) (a_in_row_data : Nat) (n_in_row_data : Nat) (x_out : Value) (x_fixedSymbols : Value) (x_fixedDistances : Value) (x_madeSymbols : Value) (x_madeDistances : Value) (x_lengthCodes : Value) (x_lengths : Value) (v_in_end : Int32) (v_in_row_length : Int32) (c_in_row_data : Nat → Int32) (v_farthest : Int32) (v_in_at : Int32) (v_outStart : Int32) : va_W := [(a_this, .inr (9, [.ref a_in, x_out, x_fixedSymbols, x_fixedDistances, x_madeSymbols, x_madeDistances, x_lengthCodes, x_lengths, .int v_outStart, .int v_farthest])), (a_in, .inr (0, [.ref a_in_row, .int v_in_at, .int v_in_end])), (a_in_row, .inr (2, [.ref a_in_row_data, .int v_in_row_length])), (a_in_row_data, .inl (E.2.2.1, n_in_row_data, .inl c_in_row_data))]
def Unpacker_beginningHolds (F : Nat) (n_in_row_data : Nat) (v_in_end : Int32) (v_in_row_length : Int32) (c_in_row_data : Nat → Int32) (v_farthest : Int32) (v_in_at : Int32) : Option (Int32 × Int32 × Int32) :=
  mR1 (BitReader_number F n_in_row_data v_in_end v_in_row_length c_in_row_data v_in_at 8) fun r_2 v_at_1 => mR1 (BitReader_number F n_in_row_data v_in_end v_in_row_length c_in_row_data v_at_1 8) fun r_4 v_at_3 => mC (r_2 < 0) (some (0, v_farthest, v_at_3)) (mC (0 ≤ r_4) (mL ((256 : Int32) <<< ((r_2 >>> ((4 : Int32) &&& 31)) &&& 31)) fun v_5 => mL ((256 * r_2) + r_4) fun t_6 => mC ((t_6 - t_6 / 31 * 31) = 0) (mC ((r_2 &&& 15) = 8) (mC (7 < (r_2 >>> ((4 : Int32) &&& 31))) (some (0, v_5, v_at_3)) (mC ((r_4 &&& 32) = 0) (some (1, v_5, v_at_3)) (some (0, v_5, v_at_3)))) (some (0, v_5, v_at_3))) (some (0, v_5, v_at_3))) (some (0, v_farthest, v_at_3)))
abbrev Unpacker_beginningHolds_rm : Room := { frames := 2, cells := 0, slots := 0, locals := 44 }
set_option maxHeartbeats 4000000 in
set_option maxRecDepth 100000 in
theorem c_Unpacker_beginningHolds (l : Launch) (E : xE) (F sz : Nat) (a_this : Nat) (a_in : Nat) (a_in_row : Nat) (a_in_row_data : Nat) (n_in_row_data : Nat) (x_out : Value) (x_fixedSymbols : Value) (x_fixedDistances : Value) (x_madeSymbols : Value) (x_madeDistances : Value) (x_lengthCodes : Value) (x_lengths : Value) (v_in_end : Int32) (v_in_row_length : Int32) (c_in_row_data : Nat → Int32) (v_farthest : Int32) (v_in_at : Int32) (v_outStart : Int32) (res : Int32 × Int32 × Int32) (hm : Unpacker_beginningHolds F n_in_row_data v_in_end v_in_row_length c_in_row_data v_farthest v_in_at = some res) : Met l y_Unpacker_beginningHolds (Cond.code y_Unpacker_beginningHolds b_Unpacker_beginningHolds 3 (some .boolean) :: x_tb) Unpacker_beginningHolds_rm (va_Pc [.ref a_this] (xPre E (Unpacker_beginningHolds_w E a_this a_in a_in_row a_in_row_data n_in_row_data x_out x_fixedSymbols x_fixedDistances x_madeSymbols x_madeDistances x_lengthCodes x_lengths v_in_end v_in_row_length c_in_row_data v_farthest v_in_at v_outStart) sz)) (xQi E (fun (r : Int32) (u : Int32 × Int32) => r = res.1 ∧ u = res.2) (fun (u : Int32 × Int32) => (Unpacker_beginningHolds_w E a_this a_in a_in_row a_in_row_data n_in_row_data x_out x_fixedSymbols x_fixedDistances x_madeSymbols x_madeDistances x_lengthCodes x_lengths v_in_end v_in_row_length c_in_row_data u.1 u.2 v_outStart)) (va_A (Unpacker_beginningHolds_w E a_this a_in a_in_row a_in_row_data n_in_row_data x_out x_fixedSymbols x_fixedDistances x_madeSymbols x_madeDistances x_lengthCodes x_lengths v_in_end v_in_row_length c_in_row_data v_farthest v_in_at v_outStart) sz)) 0 0 (va_A (Unpacker_beginningHolds_w E a_this a_in a_in_row a_in_row_data n_in_row_data x_out x_fixedSymbols x_fixedDistances x_madeSymbols x_madeDistances x_lengthCodes x_lengths v_in_end v_in_row_length c_in_row_data v_farthest v_in_at v_outStart) sz) := by
  refine xEnZ (by decide) (Nat.le_of_ble_eq_true rfl) ?_
  intro p e s m args below meth c A ls Q hx hb hnm hts hown hml hK hA hI hN hret hP hD hS hl
  replace hown : s.vm.findClass R_Unpacker = some m.cls := hown
  replace hl : lv_has ls 3 [(0, .ref a_this)] := hl
  obtain ⟨H, eH⟩ : ∃ z, z = s.heap := ⟨_, rfl⟩
  obtain ⟨locs, eL⟩ : ∃ z : List Loc, z = [] := ⟨_, rfl⟩
  rw [show W p l e Unpacker_beginningHolds_rm s m args below meth c s.heap [] 0 0 Q (F0 m 0 ls []) = W p l e Unpacker_beginningHolds_rm s m args below meth c H locs 0 0 Q (F0 m 0 ls []) by rw [eH, eL]]
  replace hP : va_P E.1 vwCl (Unpacker_beginningHolds_w E a_this a_in a_in_row a_in_row_data n_in_row_data x_out x_fixedSymbols x_fixedDistances x_madeSymbols x_madeDistances x_lengthCodes x_lengths v_in_end v_in_row_length c_in_row_data v_farthest v_in_at v_outStart) H := by rw [eH]; exact hP
  replace hS : va_S A s.heap H locs := by rw [eH, eL]; exact hS
  clear eH eL
  rw [Unpacker_beginningHolds] at hm
  refine lv_aload_n hx hb d_Unpacker_beginningHolds_0 rfl (lv_at hl 0 rfl) ?_
  refine va_get (D := E.1) (ci := 9) (v := .ref a_in) (C := R_Unpacker) (T := F_Unpacker) (N := 10) hx hb hts i_Unpacker hown hK hP 0 rfl rfl 0 (by decide) (hts _ tw_343) (fun _ h9 => h9) rfl d_Unpacker_beginningHolds_1 ?_
  refine lv_bipush (v := 8) hx hb d_Unpacker_beginningHolds_4 (by decide) ?_
  obtain ⟨r_2, v_at_1, hc6, hm⟩ := mR1_e hm
  refine xmi (wc := (BitReader_number_w E a_in a_in_row a_in_row_data n_in_row_data v_in_end v_in_row_length c_in_row_data v_in_at)) [false, true, true, true] [0, 1, 2] [0, 1, 2] hP hD hS hA rfl (by decide) (by decide) 3 (by decide) (fun _ => rfl) (fun hPc hDc hFc => va_runV (As := [.int 8]) (rest := []) ⟨hx, hb, hml, hown, hts⟩ (c_BitReader_number l E F H.size a_in a_in_row a_in_row_data n_in_row_data v_in_end v_in_row_length c_in_row_data v_in_at 8 (r_2, v_at_1) hc6) (cwV 1 hts (x_gV tw_706 tw_707 tw_708 tw_77 tw_709) rfl rfl rfl (by decide +kernel) ⟨Nat.le_of_ble_eq_true rfl, Nat.le_of_ble_eq_true rfl⟩) (xPV 0 0 rfl rfl hPc hDc hFc hK hI hN hS) rfl rfl hl.1 rfl (lv_room (Nat.le_of_ble_eq_true rfl)) d_Unpacker_beginningHolds_6 ⟨Nat.le_of_ble_eq_true rfl, Nat.le_of_ble_eq_true rfl⟩) (fun r9 u9 H locs hw hP hD hS => ?_)
  have hw1 : r_2 = r9 := hw.1.symm
  subst hw1
  have hw2 : v_at_1 = u9 := hw.2.symm
  subst hw2
  replace hP : va_P E.1 vwCl (Unpacker_beginningHolds_w E a_this a_in a_in_row a_in_row_data n_in_row_data x_out x_fixedSymbols x_fixedDistances x_madeSymbols x_madeDistances x_lengthCodes x_lengths v_in_end v_in_row_length c_in_row_data v_farthest v_at_1 v_outStart) H := hP
  replace hD : va_D A (Unpacker_beginningHolds_w E a_this a_in a_in_row a_in_row_data n_in_row_data x_out x_fixedSymbols x_fixedDistances x_madeSymbols x_madeDistances x_lengthCodes x_lengths v_in_end v_in_row_length c_in_row_data v_farthest v_at_1 v_outStart) := hD
  refine lv_istore_n (lv' := [(1, .int r_2), (0, .ref a_this)]) hx hb d_Unpacker_beginningHolds_9 rfl hl (by decide) rfl (fun ls hl => ?_)
  refine lv_aload_n hx hb d_Unpacker_beginningHolds_10 rfl (lv_at hl 1 rfl) ?_
  refine va_get (D := E.1) (ci := 9) (v := .ref a_in) (C := R_Unpacker) (T := F_Unpacker) (N := 10) hx hb hts i_Unpacker hown hK hP 0 rfl rfl 0 (by decide) (hts _ tw_343) (fun _ h9 => h9) rfl d_Unpacker_beginningHolds_11 ?_
  refine lv_bipush (v := 8) hx hb d_Unpacker_beginningHolds_14 (by decide) ?_
  obtain ⟨r_4, v_at_3, hc16, hm⟩ := mR1_e hm
  refine xmi (wc := (BitReader_number_w E a_in a_in_row a_in_row_data n_in_row_data v_in_end v_in_row_length c_in_row_data v_at_1)) [false, true, true, true] [0, 1, 2] [0, 1, 2] hP hD hS hA rfl (by decide) (by decide) 3 (by decide) (fun _ => rfl) (fun hPc hDc hFc => va_runV (As := [.int 8]) (rest := []) ⟨hx, hb, hml, hown, hts⟩ (c_BitReader_number l E F H.size a_in a_in_row a_in_row_data n_in_row_data v_in_end v_in_row_length c_in_row_data v_at_1 8 (r_4, v_at_3) hc16) (cwV 1 hts (x_gV tw_706 tw_707 tw_708 tw_77 tw_709) rfl rfl rfl (by decide +kernel) ⟨Nat.le_of_ble_eq_true rfl, Nat.le_of_ble_eq_true rfl⟩) (xPV 0 0 rfl rfl hPc hDc hFc hK hI hN hS) rfl rfl hl.1 rfl (lv_room (Nat.le_of_ble_eq_true rfl)) d_Unpacker_beginningHolds_16 ⟨Nat.le_of_ble_eq_true rfl, Nat.le_of_ble_eq_true rfl⟩) (fun r9 u9 H locs hw hP hD hS => ?_)
  have hw1 : r_4 = r9 := hw.1.symm
  subst hw1
  have hw2 : v_at_3 = u9 := hw.2.symm
  subst hw2
  replace hP : va_P E.1 vwCl (Unpacker_beginningHolds_w E a_this a_in a_in_row a_in_row_data n_in_row_data x_out x_fixedSymbols x_fixedDistances x_madeSymbols x_madeDistances x_lengthCodes x_lengths v_in_end v_in_row_length c_in_row_data v_farthest v_at_3 v_outStart) H := hP
  replace hD : va_D A (Unpacker_beginningHolds_w E a_this a_in a_in_row a_in_row_data n_in_row_data x_out x_fixedSymbols x_fixedDistances x_madeSymbols x_madeDistances x_lengthCodes x_lengths v_in_end v_in_row_length c_in_row_data v_farthest v_at_3 v_outStart) := hD
  refine lv_istore_n (lv' := [(2, .int r_4), (1, .int r_2), (0, .ref a_this)]) hx hb d_Unpacker_beginningHolds_19 rfl hl (by decide) rfl (fun ls hl => ?_)
  refine lv_iload_n hx hb d_Unpacker_beginningHolds_20 rfl (lv_at hl 1 rfl) ?_
  refine lv_if_lt (tgt := 28) hx hb d_Unpacker_beginningHolds_21 (by decide) (fun c21 => ?_) (fun c21 => ?_)
  · replace hm := mC_t hm c21
    refine lv_iconst (v := 0) hx hb d_Unpacker_beginningHolds_28 (by decide) ?_
    replace hm := Option.some.inj hm
    subst hm
    exact hret d_Unpacker_beginningHolds_29 (by decide) (u := (v_farthest, v_at_3)) ⟨rfl, rfl⟩ hP hD hS
  · replace hm := mC_f hm c21
    refine lv_iload_n hx hb d_Unpacker_beginningHolds_24 rfl (lv_at hl 0 rfl) ?_
    refine lv_if_ge (tgt := 30) hx hb d_Unpacker_beginningHolds_25 (by decide) (fun c25 => ?_) (fun c25 => ?_)
    · replace hm := mC_t hm c25
      refine lv_aload_n hx hb d_Unpacker_beginningHolds_30 rfl (lv_at hl 2 rfl) ?_
      refine lv_sipush (v := 256) hx hb d_Unpacker_beginningHolds_31 (by decide) ?_
      refine lv_iload_n hx hb d_Unpacker_beginningHolds_34 rfl (lv_at hl 1 rfl) ?_
      refine lv_iconst (v := 4) hx hb d_Unpacker_beginningHolds_35 (by decide) ?_
      refine lv_ishr hx hb d_Unpacker_beginningHolds_36 ?_
      refine lv_ishl hx hb d_Unpacker_beginningHolds_37 ?_
      refine lv_topi (fun v_5 ev_5 => ?_)
      replace hm := mL_e hm v_5 ev_5
      refine va_put (D := E.1) (ci := 9) (v := .int v_5) (ty := .int) (C := R_Unpacker) (T := F_Unpacker) (N := 10) hx hb hts i_Unpacker t_Unpacker t_Unpacker_ok n_Unpacker hown hK hP hD hS 0 rfl rfl 9 (by decide) (hts _ tw_352) (fun _ h9 => h9) rfl (by decide +kernel) rfl rfl (Nat.le_of_ble_eq_true rfl) d_Unpacker_beginningHolds_38 (fun H locs hP hD hS => ?_)
      replace hP : va_P E.1 vwCl (Unpacker_beginningHolds_w E a_this a_in a_in_row a_in_row_data n_in_row_data x_out x_fixedSymbols x_fixedDistances x_madeSymbols x_madeDistances x_lengthCodes x_lengths v_in_end v_in_row_length c_in_row_data v_5 v_at_3 v_outStart) H := hP
      replace hD : va_D A (Unpacker_beginningHolds_w E a_this a_in a_in_row a_in_row_data n_in_row_data x_out x_fixedSymbols x_fixedDistances x_madeSymbols x_madeDistances x_lengthCodes x_lengths v_in_end v_in_row_length c_in_row_data v_5 v_at_3 v_outStart) := hD
      refine lv_sipush (v := 256) hx hb d_Unpacker_beginningHolds_41 (by decide) ?_
      refine lv_iload_n hx hb d_Unpacker_beginningHolds_44 rfl (lv_at hl 1 rfl) ?_
      refine lv_imul hx hb d_Unpacker_beginningHolds_45 ?_
      refine lv_iload_n hx hb d_Unpacker_beginningHolds_46 rfl (lv_at hl 0 rfl) ?_
      refine lv_iadd hx hb d_Unpacker_beginningHolds_47 ?_
      refine lv_bipush (v := 31) hx hb d_Unpacker_beginningHolds_48 (by decide) ?_
      obtain ⟨t_6, et_6⟩ : ∃ z : Int32, z = (256 * r_2) + r_4 := ⟨_, rfl⟩
      rw [← et_6]
      replace hm := mL_e hm t_6 et_6
      refine lv_irem hx hb d_Unpacker_beginningHolds_50 (by decide) ?_
      refine lv_if_ne (tgt := 82) hx hb d_Unpacker_beginningHolds_51 (by decide) (fun c51 => ?_) (fun c51 => ?_)
      · replace hm := mC_f hm c51
        refine lv_iconst (v := 0) hx hb d_Unpacker_beginningHolds_82 (by decide) ?_
        replace hm := Option.some.inj hm
        subst hm
        exact hret d_Unpacker_beginningHolds_83 (by decide) (u := (v_5, v_at_3)) ⟨rfl, rfl⟩ hP hD hS
      · replace hm := mC_t hm c51
        refine lv_iload_n hx hb d_Unpacker_beginningHolds_54 rfl (lv_at hl 1 rfl) ?_
        refine lv_bipush (v := 15) hx hb d_Unpacker_beginningHolds_55 (by decide) ?_
        refine lv_iand hx hb d_Unpacker_beginningHolds_57 ?_
        refine lv_bipush (v := 8) hx hb d_Unpacker_beginningHolds_58 (by decide) ?_
        refine lv_icmp_ne (tgt := 82) hx hb d_Unpacker_beginningHolds_60 (by decide) (fun c60 => ?_) (fun c60 => ?_)
        · replace hm := mC_f hm c60
          refine lv_iconst (v := 0) hx hb d_Unpacker_beginningHolds_82 (by decide) ?_
          replace hm := Option.some.inj hm
          subst hm
          exact hret d_Unpacker_beginningHolds_83 (by decide) (u := (v_5, v_at_3)) ⟨rfl, rfl⟩ hP hD hS
        · replace hm := mC_t hm c60
          refine lv_iload_n hx hb d_Unpacker_beginningHolds_63 rfl (lv_at hl 1 rfl) ?_
          refine lv_iconst (v := 4) hx hb d_Unpacker_beginningHolds_64 (by decide) ?_
          refine lv_ishr hx hb d_Unpacker_beginningHolds_65 ?_
          refine lv_bipush (v := 7) hx hb d_Unpacker_beginningHolds_66 (by decide) ?_
          refine lv_icmp_gt (tgt := 82) hx hb d_Unpacker_beginningHolds_68 (by decide) (fun c68 => ?_) (fun c68 => ?_)
          · replace hm := mC_t hm c68
            refine lv_iconst (v := 0) hx hb d_Unpacker_beginningHolds_82 (by decide) ?_
            replace hm := Option.some.inj hm
            subst hm
            exact hret d_Unpacker_beginningHolds_83 (by decide) (u := (v_5, v_at_3)) ⟨rfl, rfl⟩ hP hD hS
          · replace hm := mC_f hm c68
            refine lv_iload_n hx hb d_Unpacker_beginningHolds_71 rfl (lv_at hl 0 rfl) ?_
            refine lv_bipush (v := 32) hx hb d_Unpacker_beginningHolds_72 (by decide) ?_
            refine lv_iand hx hb d_Unpacker_beginningHolds_74 ?_
            refine lv_if_ne (tgt := 82) hx hb d_Unpacker_beginningHolds_75 (by decide) (fun c75 => ?_) (fun c75 => ?_)
            · replace hm := mC_f hm c75
              refine lv_iconst (v := 0) hx hb d_Unpacker_beginningHolds_82 (by decide) ?_
              replace hm := Option.some.inj hm
              subst hm
              exact hret d_Unpacker_beginningHolds_83 (by decide) (u := (v_5, v_at_3)) ⟨rfl, rfl⟩ hP hD hS
            · replace hm := mC_t hm c75
              refine lv_iconst (v := 1) hx hb d_Unpacker_beginningHolds_78 (by decide) ?_
              refine lv_goto (tgt := 83) hx hb d_Unpacker_beginningHolds_79 (by decide) ?_
              replace hm := Option.some.inj hm
              subst hm
              exact hret d_Unpacker_beginningHolds_83 (by decide) (u := (v_5, v_at_3)) ⟨rfl, rfl⟩ hP hD hS
    · replace hm := mC_f hm c25
      refine lv_iconst (v := 0) hx hb d_Unpacker_beginningHolds_28 (by decide) ?_
      replace hm := Option.some.inj hm
      subst hm
      exact hret d_Unpacker_beginningHolds_29 (by decide) (u := (v_farthest, v_at_3)) ⟨rfl, rfl⟩ hP hD hS
theorem d_Unpacker_checkHolds_0 : decode b_Unpacker_checkHolds 0 = .ok (.aload_n 0, 1) := by decide +kernel
theorem d_Unpacker_checkHolds_1 : decode b_Unpacker_checkHolds 1 = .ok (.getfield 14, 3) := by decide +kernel
theorem d_Unpacker_checkHolds_4 : decode b_Unpacker_checkHolds 4 = .ok (.invokevirtual 101, 3) := by decide +kernel
theorem d_Unpacker_checkHolds_7 : decode b_Unpacker_checkHolds 7 = .ok (.aload_n 0, 1) := by decide +kernel
theorem d_Unpacker_checkHolds_8 : decode b_Unpacker_checkHolds 8 = .ok (.getfield 14, 3) := by decide +kernel
theorem d_Unpacker_checkHolds_11 : decode b_Unpacker_checkHolds 11 = .ok (.invokevirtual 104, 3) := by decide +kernel
theorem d_Unpacker_checkHolds_14 : decode b_Unpacker_checkHolds 14 = .ok (.bipush 32, 2) := by decide +kernel
theorem d_Unpacker_checkHolds_16 : decode b_Unpacker_checkHolds 16 = .ok (.if_icmp .eq 5, 3) := by decide +kernel
theorem d_Unpacker_checkHolds_19 : decode b_Unpacker_checkHolds 19 = .ok (.iconst 0, 1) := by decide +kernel
theorem d_Unpacker_checkHolds_20 : decode b_Unpacker_checkHolds 20 = .ok (.ireturn, 1) := by decide +kernel
theorem d_Unpacker_checkHolds_21 : decode b_Unpacker_checkHolds 21 = .ok (.iconst 0, 1) := by decide +kernel
theorem d_Unpacker_checkHolds_22 : decode b_Unpacker_checkHolds 22 = .ok (.istore_n 1, 1) := by decide +kernel
theorem d_Unpacker_checkHolds_23 : decode b_Unpacker_checkHolds 23 = .ok (.iconst 0, 1) := by decide +kernel
theorem d_Unpacker_checkHolds_24 : decode b_Unpacker_checkHolds 24 = .ok (.istore_n 2, 1) := by decide +kernel
theorem d_Unpacker_checkHolds_25 : decode b_Unpacker_checkHolds 25 = .ok (.iload_n 2, 1) := by decide +kernel
theorem d_Unpacker_checkHolds_26 : decode b_Unpacker_checkHolds 26 = .ok (.iconst 4, 1) := by decide +kernel
theorem d_Unpacker_checkHolds_27 : decode b_Unpacker_checkHolds 27 = .ok (.if_icmp .ge 24, 3) := by decide +kernel
theorem d_Unpacker_checkHolds_30 : decode b_Unpacker_checkHolds 30 = .ok (.iload_n 1, 1) := by decide +kernel
theorem d_Unpacker_checkHolds_31 : decode b_Unpacker_checkHolds 31 = .ok (.bipush 8, 2) := by decide +kernel
theorem d_Unpacker_checkHolds_33 : decode b_Unpacker_checkHolds 33 = .ok (.ishl, 1) := by decide +kernel
theorem d_Unpacker_checkHolds_34 : decode b_Unpacker_checkHolds 34 = .ok (.aload_n 0, 1) := by decide +kernel
theorem d_Unpacker_checkHolds_35 : decode b_Unpacker_checkHolds 35 = .ok (.getfield 14, 3) := by decide +kernel
theorem d_Unpacker_checkHolds_38 : decode b_Unpacker_checkHolds 38 = .ok (.bipush 8, 2) := by decide +kernel
theorem d_Unpacker_checkHolds_40 : decode b_Unpacker_checkHolds 40 = .ok (.invokevirtual 82, 3) := by decide +kernel
theorem d_Unpacker_checkHolds_43 : decode b_Unpacker_checkHolds 43 = .ok (.ior, 1) := by decide +kernel
theorem d_Unpacker_checkHolds_44 : decode b_Unpacker_checkHolds 44 = .ok (.istore_n 1, 1) := by decide +kernel
theorem d_Unpacker_checkHolds_45 : decode b_Unpacker_checkHolds 45 = .ok (.iinc 2 1, 3) := by decide +kernel
theorem d_Unpacker_checkHolds_48 : decode b_Unpacker_checkHolds 48 = .ok (.goto (-23), 3) := by decide +kernel
theorem d_Unpacker_checkHolds_51 : decode b_Unpacker_checkHolds 51 = .ok (.iload_n 1, 1) := by decide +kernel
theorem d_Unpacker_checkHolds_52 : decode b_Unpacker_checkHolds 52 = .ok (.aload_n 0, 1) := by decide +kernel
theorem d_Unpacker_checkHolds_53 : decode b_Unpacker_checkHolds 53 = .ok (.getfield 20, 3) := by decide +kernel
theorem d_Unpacker_checkHolds_56 : decode b_Unpacker_checkHolds 56 = .ok (.aload_n 0, 1) := by decide +kernel
theorem d_Unpacker_checkHolds_57 : decode b_Unpacker_checkHolds 57 = .ok (.getfield 73, 3) := by decide +kernel
theorem d_Unpacker_checkHolds_60 : decode b_Unpacker_checkHolds 60 = .ok (.invokestatic 107, 3) := by decide +kernel
theorem d_Unpacker_checkHolds_63 : decode b_Unpacker_checkHolds 63 = .ok (.if_icmp .ne 7, 3) := by decide +kernel
theorem d_Unpacker_checkHolds_66 : decode b_Unpacker_checkHolds 66 = .ok (.iconst 1, 1) := by decide +kernel
theorem d_Unpacker_checkHolds_67 : decode b_Unpacker_checkHolds 67 = .ok (.goto 4, 3) := by decide +kernel
theorem d_Unpacker_checkHolds_70 : decode b_Unpacker_checkHolds 70 = .ok (.iconst 0, 1) := by decide +kernel
theorem d_Unpacker_checkHolds_71 : decode b_Unpacker_checkHolds 71 = .ok (.ireturn, 1) := by decide +kernel
def Unpacker_checkHolds_51 (F : Nat) (n_out_data : Nat) (v_outStart : Int32) (v_out_length : Int32) (c_out_data : Nat → Int32) (v_in_at : Int32) (x1 : Int32) : Option (Int32 × Int32) :=
  mR0 (P_checkOf F n_out_data v_out_length c_out_data v_outStart) fun r_4 => mC (x1 = r_4) (some (1, v_in_at)) (some (0, v_in_at))
def Unpacker_checkHolds_25 (F : Nat) (n_in_row_data : Nat) (v_in_end : Int32) (v_in_row_length : Int32) (c_in_row_data : Nat → Int32) (k_51 : Int32 → Int32 → Option (Int32 × Int32)) (k_25 : Int32 → Int32 → Int32 → Option (Int32 × Int32)) (v_in_at : Int32) (x1 : Int32) (x2 : Int32) : Option (Int32 × Int32) :=
  mC (4 ≤ x2) (k_51 v_in_at x1) (mR1 (BitReader_number F n_in_row_data v_in_end v_in_row_length c_in_row_data v_in_at 8) fun r_6 v_at_5 => mL ((x1 <<< ((8 : Int32) &&& 31)) ||| r_6) fun y1_7 => mL (x2 + 1) fun y2_8 => k_25 v_at_5 y1_7 y2_8)
abbrev Unpacker_checkHolds_w (E : xE) (a_this : Nat) (a_in : Nat) (a_in_row : Nat) (a_in_row_data : Nat) (a_out : Nat) (a_out_data : Nat) (n_in_row_data : Nat) (n_out_data : Nat) (x_fixedSymbols : Value) (x_fixedDistances : Value) (x_madeSymbols : Value) (x_madeDistances : Value) (x_lengthCodes : Value) (x_lengths : Value) (v_outStart : Int32) (v_in_end : Int32) (v_in_row_length : Int32) (c_in_row_data : Nat → Int32) (v_out_length : Int32) (c_out_data : Nat → Int32) (v_in_at : Int32) (v_farthest : Int32) : va_W := [(a_this, .inr (9, [.ref a_in, .ref a_out, x_fixedSymbols, x_fixedDistances, x_madeSymbols, x_madeDistances, x_lengthCodes, x_lengths, .int v_outStart, .int v_farthest])), (a_in, .inr (0, [.ref a_in_row, .int v_in_at, .int v_in_end])), (a_in_row, .inr (2, [.ref a_in_row_data, .int v_in_row_length])), (a_in_row_data, .inl (E.2.2.1, n_in_row_data, .inl c_in_row_data)), (a_out, .inr (2, [.ref a_out_data, .int v_out_length])), (a_out_data, .inl (E.2.2.1, n_out_data, .inl c_out_data))]
def Unpacker_checkHolds (F : Nat) (n_in_row_data : Nat) (n_out_data : Nat) (v_outStart : Int32) (v_in_end : Int32) (v_in_row_length : Int32) (c_in_row_data : Nat → Int32) (v_out_length : Int32) (c_out_data : Nat → Int32) (v_in_at : Int32) : Option (Int32 × Int32) :=
  mR1 (BitReader_align F v_in_at) fun _ v_at_1 => mR0 (BitReader_bitsLeft F v_at_1 v_in_end) fun r_3 => mC (r_3 = 32) ((mW3 (Unpacker_checkHolds_25 F n_in_row_data v_in_end v_in_row_length c_in_row_data (Unpacker_checkHolds_51 F n_out_data v_outStart v_out_length c_out_data)) F) v_at_1 0 0) (some (0, v_at_1))
abbrev Unpacker_checkHolds_rm : Room := { frames := 2, cells := 0, slots := 0, locals := 45 }
set_option maxHeartbeats 4000000 in
set_option maxRecDepth 100000 in
theorem c_Unpacker_checkHolds (l : Launch) (E : xE) (F sz : Nat) (a_this : Nat) (a_in : Nat) (a_in_row : Nat) (a_in_row_data : Nat) (a_out : Nat) (a_out_data : Nat) (n_in_row_data : Nat) (n_out_data : Nat) (x_fixedSymbols : Value) (x_fixedDistances : Value) (x_madeSymbols : Value) (x_madeDistances : Value) (x_lengthCodes : Value) (x_lengths : Value) (v_outStart : Int32) (v_in_end : Int32) (v_in_row_length : Int32) (c_in_row_data : Nat → Int32) (v_out_length : Int32) (c_out_data : Nat → Int32) (v_in_at : Int32) (v_farthest : Int32) (res : Int32 × Int32) (hm : Unpacker_checkHolds F n_in_row_data n_out_data v_outStart v_in_end v_in_row_length c_in_row_data v_out_length c_out_data v_in_at = some res) : Met l y_Unpacker_checkHolds (Cond.code y_Unpacker_checkHolds b_Unpacker_checkHolds 3 (some .boolean) :: x_tb) Unpacker_checkHolds_rm (va_Pc [.ref a_this] (xPre E (Unpacker_checkHolds_w E a_this a_in a_in_row a_in_row_data a_out a_out_data n_in_row_data n_out_data x_fixedSymbols x_fixedDistances x_madeSymbols x_madeDistances x_lengthCodes x_lengths v_outStart v_in_end v_in_row_length c_in_row_data v_out_length c_out_data v_in_at v_farthest) sz)) (xQi E (fun (r : Int32) (u : Int32) => r = res.1 ∧ u = res.2) (fun (u : Int32) => (Unpacker_checkHolds_w E a_this a_in a_in_row a_in_row_data a_out a_out_data n_in_row_data n_out_data x_fixedSymbols x_fixedDistances x_madeSymbols x_madeDistances x_lengthCodes x_lengths v_outStart v_in_end v_in_row_length c_in_row_data v_out_length c_out_data u v_farthest)) (va_A (Unpacker_checkHolds_w E a_this a_in a_in_row a_in_row_data a_out a_out_data n_in_row_data n_out_data x_fixedSymbols x_fixedDistances x_madeSymbols x_madeDistances x_lengthCodes x_lengths v_outStart v_in_end v_in_row_length c_in_row_data v_out_length c_out_data v_in_at v_farthest) sz)) 0 0 (va_A (Unpacker_checkHolds_w E a_this a_in a_in_row a_in_row_data a_out a_out_data n_in_row_data n_out_data x_fixedSymbols x_fixedDistances x_madeSymbols x_madeDistances x_lengthCodes x_lengths v_outStart v_in_end v_in_row_length c_in_row_data v_out_length c_out_data v_in_at v_farthest) sz) := by
  refine xEnZ (by decide) (Nat.le_of_ble_eq_true rfl) ?_
  intro p e s m args below meth c A ls Q hx hb hnm hts hown hml hK hA hI hN hret hP hD hS hl
  replace hown : s.vm.findClass R_Unpacker = some m.cls := hown
  replace hl : lv_has ls 3 [(0, .ref a_this)] := hl
  obtain ⟨H, eH⟩ : ∃ z, z = s.heap := ⟨_, rfl⟩
  obtain ⟨locs, eL⟩ : ∃ z : List Loc, z = [] := ⟨_, rfl⟩
  rw [show W p l e Unpacker_checkHolds_rm s m args below meth c s.heap [] 0 0 Q (F0 m 0 ls []) = W p l e Unpacker_checkHolds_rm s m args below meth c H locs 0 0 Q (F0 m 0 ls []) by rw [eH, eL]]
  replace hP : va_P E.1 vwCl (Unpacker_checkHolds_w E a_this a_in a_in_row a_in_row_data a_out a_out_data n_in_row_data n_out_data x_fixedSymbols x_fixedDistances x_madeSymbols x_madeDistances x_lengthCodes x_lengths v_outStart v_in_end v_in_row_length c_in_row_data v_out_length c_out_data v_in_at v_farthest) H := by rw [eH]; exact hP
  replace hS : va_S A s.heap H locs := by rw [eH, eL]; exact hS
  clear eH eL
  rw [Unpacker_checkHolds] at hm
  refine lv_aload_n hx hb d_Unpacker_checkHolds_0 rfl (lv_at hl 0 rfl) ?_
  refine va_get (D := E.1) (ci := 9) (v := .ref a_in) (C := R_Unpacker) (T := F_Unpacker) (N := 10) hx hb hts i_Unpacker hown hK hP 0 rfl rfl 0 (by decide) (hts _ tw_343) (fun _ h9 => h9) rfl d_Unpacker_checkHolds_1 ?_
  obtain ⟨r_2, v_at_1, hc4, hm⟩ := mR1_e hm
  refine xmv (wc := (BitReader_align_w E a_in (.ref a_in_row) v_in_at v_in_end)) [false, true, false, false, false, false] [0] [0] hP hD hS hA rfl (by decide) (by decide) 1 (by decide) (fun _ => rfl) (fun hPc hDc hFc => va_runV (As := []) (rest := []) ⟨hx, hb, hml, hown, hts⟩ (c_BitReader_align l E F H.size a_in (.ref a_in_row) v_in_at v_in_end (r_2, v_at_1) hc4) (cwV 0 hts (x_gV tw_716 tw_717 tw_718 tw_77 tw_719) rfl rfl rfl (by decide +kernel) ⟨Nat.le_of_ble_eq_true rfl, Nat.le_of_ble_eq_true rfl⟩) (xPV 0 0 rfl rfl hPc hDc hFc hK hI hN hS) rfl rfl hl.1 rfl (lv_room (Nat.le_of_ble_eq_true rfl)) d_Unpacker_checkHolds_4 ⟨Nat.le_of_ble_eq_true rfl, Nat.le_of_ble_eq_true rfl⟩) (fun u9 H locs hw hP hD hS => ?_)
  have hw2 : v_at_1 = u9 := hw.symm
  subst hw2
  replace hP : va_P E.1 vwCl (Unpacker_checkHolds_w E a_this a_in a_in_row a_in_row_data a_out a_out_data n_in_row_data n_out_data x_fixedSymbols x_fixedDistances x_madeSymbols x_madeDistances x_lengthCodes x_lengths v_outStart v_in_end v_in_row_length c_in_row_data v_out_length c_out_data v_at_1 v_farthest) H := hP
  replace hD : va_D A (Unpacker_checkHolds_w E a_this a_in a_in_row a_in_row_data a_out a_out_data n_in_row_data n_out_data x_fixedSymbols x_fixedDistances x_madeSymbols x_madeDistances x_lengthCodes x_lengths v_outStart v_in_end v_in_row_length c_in_row_data v_out_length c_out_data v_at_1 v_farthest) := hD
  refine lv_aload_n hx hb d_Unpacker_checkHolds_7 rfl (lv_at hl 0 rfl) ?_
  refine va_get (D := E.1) (ci := 9) (v := .ref a_in) (C := R_Unpacker) (T := F_Unpacker) (N := 10) hx hb hts i_Unpacker hown hK hP 0 rfl rfl 0 (by decide) (hts _ tw_343) (fun _ h9 => h9) rfl d_Unpacker_checkHolds_8 ?_
  obtain ⟨r_3, hc11, hm⟩ := mR0_e hm
  refine xmi (wc := (BitReader_bitsLeft_w E a_in (.ref a_in_row) v_at_1 v_in_end)) [false, true, false, false, false, false] [0] [0] hP hD hS hA rfl (by decide) (by decide) 1 (by decide) (fun _ => rfl) (fun hPc hDc hFc => va_runV (As := []) (rest := []) ⟨hx, hb, hml, hown, hts⟩ (c_BitReader_bitsLeft l E F H.size a_in (.ref a_in_row) v_at_1 v_in_end (r_3, ()) hc11) (cwV 0 hts (x_gV tw_725 tw_726 tw_727 tw_77 tw_728) rfl rfl rfl (by decide +kernel) ⟨Nat.le_of_ble_eq_true rfl, Nat.le_of_ble_eq_true rfl⟩) (xPV 0 0 rfl rfl hPc hDc hFc hK hI hN hS) rfl rfl hl.1 rfl (lv_room (Nat.le_of_ble_eq_true rfl)) d_Unpacker_checkHolds_11 ⟨Nat.le_of_ble_eq_true rfl, Nat.le_of_ble_eq_true rfl⟩) (fun r9 u9 H locs hw hP hD hS => ?_)
  have hw1 : r_3 = r9 := hw.1.symm
  subst hw1
  replace hP : va_P E.1 vwCl (Unpacker_checkHolds_w E a_this a_in a_in_row a_in_row_data a_out a_out_data n_in_row_data n_out_data x_fixedSymbols x_fixedDistances x_madeSymbols x_madeDistances x_lengthCodes x_lengths v_outStart v_in_end v_in_row_length c_in_row_data v_out_length c_out_data v_at_1 v_farthest) H := hP
  replace hD : va_D A (Unpacker_checkHolds_w E a_this a_in a_in_row a_in_row_data a_out a_out_data n_in_row_data n_out_data x_fixedSymbols x_fixedDistances x_madeSymbols x_madeDistances x_lengthCodes x_lengths v_outStart v_in_end v_in_row_length c_in_row_data v_out_length c_out_data v_at_1 v_farthest) := hD
  refine lv_bipush (v := 32) hx hb d_Unpacker_checkHolds_14 (by decide) ?_
  refine lv_icmp_eq (tgt := 21) hx hb d_Unpacker_checkHolds_16 (by decide) (fun c16 => ?_) (fun c16 => ?_)
  · replace hm := mC_t hm c16
    have h_51 : ∀ (v_in_at : Int32) (x1 : Int32) (H : Heap) (locs : List Loc) (ls : Array Slot), (Unpacker_checkHolds_51 F n_out_data v_outStart v_out_length c_out_data) v_in_at x1 = some res → va_P E.1 vwCl (Unpacker_checkHolds_w E a_this a_in a_in_row a_in_row_data a_out a_out_data n_in_row_data n_out_data x_fixedSymbols x_fixedDistances x_madeSymbols x_madeDistances x_lengthCodes x_lengths v_outStart v_in_end v_in_row_length c_in_row_data v_out_length c_out_data v_in_at v_farthest) H → va_D A (Unpacker_checkHolds_w E a_this a_in a_in_row a_in_row_data a_out a_out_data n_in_row_data n_out_data x_fixedSymbols x_fixedDistances x_madeSymbols x_madeDistances x_lengthCodes x_lengths v_outStart v_in_end v_in_row_length c_in_row_data v_out_length c_out_data v_in_at v_farthest) → va_S A s.heap H locs → lv_has ls 3 [(0, .ref a_this), (1, .int x1)] → W p l e Unpacker_checkHolds_rm s m args below meth c H locs 0 0 Q (F0 m 51 ls []) := by
      intro v_in_at x1 H locs ls hm hP hD hS hl
      rw [Unpacker_checkHolds_51] at hm
      refine lv_iload_n hx hb d_Unpacker_checkHolds_51 rfl (lv_at hl 1 rfl) ?_
      refine lv_aload_n hx hb d_Unpacker_checkHolds_52 rfl (lv_at hl 0 rfl) ?_
      refine va_get (D := E.1) (ci := 9) (v := .ref a_out) (C := R_Unpacker) (T := F_Unpacker) (N := 10) hx hb hts i_Unpacker hown hK hP 0 rfl rfl 1 (by decide) (hts _ tw_344) (fun _ h9 => h9) rfl d_Unpacker_checkHolds_53 ?_
      refine lv_aload_n hx hb d_Unpacker_checkHolds_56 rfl (lv_at hl 0 rfl) ?_
      refine va_get (D := E.1) (ci := 9) (v := .int v_outStart) (C := R_Unpacker) (T := F_Unpacker) (N := 10) hx hb hts i_Unpacker hown hK hP 0 rfl rfl 8 (by decide) (hts _ tw_351) (fun _ h9 => h9) rfl d_Unpacker_checkHolds_57 ?_
      obtain ⟨r_4, hc60, hm⟩ := mR0_e hm
      refine xmi (wc := (P_checkOf_w E a_out a_out_data n_out_data v_out_length c_out_data)) [false, false, false, false, true, true] [0, 1] [0, 1] hP hD hS hA rfl (by decide) (by decide) 2 (by decide) (fun _ => rfl) (fun hPc hDc hFc => va_runSN (As := [.ref a_out, .int v_outStart]) (rest := [.int x1]) ⟨hx, hb, hml, hown, hts⟩ (c_P_checkOf l E F H.size a_out a_out_data n_out_data v_out_length c_out_data v_outStart (r_4, ()) hc60) ⟨(va_cnB 2 hts (x_g tw_611) rfl rfl rfl (nM_17 hN) (hts _ tw_66) (by decide +kernel) ⟨Nat.le_of_ble_eq_true rfl, Nat.le_of_ble_eq_true rfl⟩), (hts _ tw_610), trivial⟩ (xPS hPc hDc hFc hK hI hN hS) rfl rfl hl.1 rfl (lv_room (Nat.le_of_ble_eq_true rfl)) d_Unpacker_checkHolds_60 ⟨Nat.le_of_ble_eq_true rfl, Nat.le_of_ble_eq_true rfl⟩) (fun r9 u9 H locs hw hP hD hS => ?_)
      have hw1 : r_4 = r9 := hw.1.symm
      subst hw1
      replace hP : va_P E.1 vwCl (Unpacker_checkHolds_w E a_this a_in a_in_row a_in_row_data a_out a_out_data n_in_row_data n_out_data x_fixedSymbols x_fixedDistances x_madeSymbols x_madeDistances x_lengthCodes x_lengths v_outStart v_in_end v_in_row_length c_in_row_data v_out_length c_out_data v_in_at v_farthest) H := hP
      replace hD : va_D A (Unpacker_checkHolds_w E a_this a_in a_in_row a_in_row_data a_out a_out_data n_in_row_data n_out_data x_fixedSymbols x_fixedDistances x_madeSymbols x_madeDistances x_lengthCodes x_lengths v_outStart v_in_end v_in_row_length c_in_row_data v_out_length c_out_data v_in_at v_farthest) := hD
      refine lv_icmp_ne (tgt := 70) hx hb d_Unpacker_checkHolds_63 (by decide) (fun c63 => ?_) (fun c63 => ?_)
      · replace hm := mC_f hm c63
        refine lv_iconst (v := 0) hx hb d_Unpacker_checkHolds_70 (by decide) ?_
        replace hm := Option.some.inj hm
        subst hm
        exact hret d_Unpacker_checkHolds_71 (by decide) (u := v_in_at) ⟨rfl, rfl⟩ hP hD hS
      · replace hm := mC_t hm c63
        refine lv_iconst (v := 1) hx hb d_Unpacker_checkHolds_66 (by decide) ?_
        refine lv_goto (tgt := 71) hx hb d_Unpacker_checkHolds_67 (by decide) ?_
        replace hm := Option.some.inj hm
        subst hm
        exact hret d_Unpacker_checkHolds_71 (by decide) (u := v_in_at) ⟨rfl, rfl⟩ hP hD hS
    have h_25 : ∀ (n_25 : Nat) (v_in_at : Int32) (x1 : Int32) (x2 : Int32) (H : Heap) (locs : List Loc) (ls : Array Slot), (mW3 (Unpacker_checkHolds_25 F n_in_row_data v_in_end v_in_row_length c_in_row_data (Unpacker_checkHolds_51 F n_out_data v_outStart v_out_length c_out_data)) n_25) v_in_at x1 x2 = some res → va_P E.1 vwCl (Unpacker_checkHolds_w E a_this a_in a_in_row a_in_row_data a_out a_out_data n_in_row_data n_out_data x_fixedSymbols x_fixedDistances x_madeSymbols x_madeDistances x_lengthCodes x_lengths v_outStart v_in_end v_in_row_length c_in_row_data v_out_length c_out_data v_in_at v_farthest) H → va_D A (Unpacker_checkHolds_w E a_this a_in a_in_row a_in_row_data a_out a_out_data n_in_row_data n_out_data x_fixedSymbols x_fixedDistances x_madeSymbols x_madeDistances x_lengthCodes x_lengths v_outStart v_in_end v_in_row_length c_in_row_data v_out_length c_out_data v_in_at v_farthest) → va_S A s.heap H locs → lv_has ls 3 [(0, .ref a_this), (1, .int x1), (2, .int x2)] → W p l e Unpacker_checkHolds_rm s m args below meth c H locs 0 0 Q (F0 m 25 ls []) := by
      intro n_25
      induction n_25 with
      | zero => exact fun _ _ _ _ _ _ hm _ _ _ _ => (mW3_z hm).elim
      | succ n_25 ih_25 =>
        intro v_in_at x1 x2 H locs ls hm hP hD hS hl
        replace hm := mW3_s hm
        rw [Unpacker_checkHolds_25] at hm
        refine lv_iload_n hx hb d_Unpacker_checkHolds_25 rfl (lv_at hl 2 rfl) ?_
        refine lv_iconst (v := 4) hx hb d_Unpacker_checkHolds_26 (by decide) ?_
        refine lv_icmp_ge (tgt := 51) hx hb d_Unpacker_checkHolds_27 (by decide) (fun c27 => ?_) (fun c27 => ?_)
        · replace hm := mC_t hm c27
          exact h_51 _ _ H locs ls hm hP hD hS (lv_sub hl [0, 1] rfl)
        · replace hm := mC_f hm c27
          refine lv_iload_n hx hb d_Unpacker_checkHolds_30 rfl (lv_at hl 1 rfl) ?_
          refine lv_bipush (v := 8) hx hb d_Unpacker_checkHolds_31 (by decide) ?_
          refine lv_ishl hx hb d_Unpacker_checkHolds_33 ?_
          refine lv_aload_n hx hb d_Unpacker_checkHolds_34 rfl (lv_at hl 0 rfl) ?_
          refine va_get (D := E.1) (ci := 9) (v := .ref a_in) (C := R_Unpacker) (T := F_Unpacker) (N := 10) hx hb hts i_Unpacker hown hK hP 0 rfl rfl 0 (by decide) (hts _ tw_343) (fun _ h9 => h9) rfl d_Unpacker_checkHolds_35 ?_
          refine lv_bipush (v := 8) hx hb d_Unpacker_checkHolds_38 (by decide) ?_
          obtain ⟨r_6, v_at_5, hc40, hm⟩ := mR1_e hm
          refine xmi (wc := (BitReader_number_w E a_in a_in_row a_in_row_data n_in_row_data v_in_end v_in_row_length c_in_row_data v_in_at)) [false, true, true, true, false, false] [0, 1, 2] [0, 1, 2] hP hD hS hA rfl (by decide) (by decide) 3 (by decide) (fun _ => rfl) (fun hPc hDc hFc => va_runV (As := [.int 8]) (rest := [.int (x1 <<< ((8 : Int32) &&& 31))]) ⟨hx, hb, hml, hown, hts⟩ (c_BitReader_number l E F H.size a_in a_in_row a_in_row_data n_in_row_data v_in_end v_in_row_length c_in_row_data v_in_at 8 (r_6, v_at_5) hc40) (cwV 1 hts (x_gV tw_706 tw_707 tw_708 tw_77 tw_709) rfl rfl rfl (by decide +kernel) ⟨Nat.le_of_ble_eq_true rfl, Nat.le_of_ble_eq_true rfl⟩) (xPV 0 0 rfl rfl hPc hDc hFc hK hI hN hS) rfl rfl hl.1 rfl (lv_room (Nat.le_of_ble_eq_true rfl)) d_Unpacker_checkHolds_40 ⟨Nat.le_of_ble_eq_true rfl, Nat.le_of_ble_eq_true rfl⟩) (fun r9 u9 H locs hw hP hD hS => ?_)
          have hw1 : r_6 = r9 := hw.1.symm
          subst hw1
          have hw2 : v_at_5 = u9 := hw.2.symm
          subst hw2
          replace hP : va_P E.1 vwCl (Unpacker_checkHolds_w E a_this a_in a_in_row a_in_row_data a_out a_out_data n_in_row_data n_out_data x_fixedSymbols x_fixedDistances x_madeSymbols x_madeDistances x_lengthCodes x_lengths v_outStart v_in_end v_in_row_length c_in_row_data v_out_length c_out_data v_at_5 v_farthest) H := hP
          replace hD : va_D A (Unpacker_checkHolds_w E a_this a_in a_in_row a_in_row_data a_out a_out_data n_in_row_data n_out_data x_fixedSymbols x_fixedDistances x_madeSymbols x_madeDistances x_lengthCodes x_lengths v_outStart v_in_end v_in_row_length c_in_row_data v_out_length c_out_data v_at_5 v_farthest) := hD
          refine lv_ior hx hb d_Unpacker_checkHolds_43 ?_
          refine lv_topi (fun y1_7 ey1_7 => ?_)
          replace hm := mL_e hm y1_7 ey1_7
          refine lv_istore_n (lv' := [(1, .int y1_7), (0, .ref a_this), (2, .int x2)]) hx hb d_Unpacker_checkHolds_44 rfl hl (by decide) rfl (fun ls hl => ?_)
          obtain ⟨y2_8, ey2_8⟩ : ∃ y : Int32, y = x2 + 1 := ⟨_, rfl⟩
          replace hm := mL_e hm y2_8 ey2_8
          refine lv_iinc (v := y2_8) (lv' := [(2, .int y2_8), (1, .int y1_7), (0, .ref a_this)]) hx hb d_Unpacker_checkHolds_45 hl (k := 2) rfl (by rw [ey2_8]; rfl) (by decide) rfl (fun ls hl => ?_)
          refine lv_goto (tgt := 25) hx hb d_Unpacker_checkHolds_48 (by decide) ?_
          exact ih_25 _ _ _ H locs ls hm hP hD hS (lv_sub hl [2, 1, 0] rfl)
    refine lv_iconst (v := 0) hx hb d_Unpacker_checkHolds_21 (by decide) ?_
    refine lv_istore_n (lv' := [(1, .int 0), (0, .ref a_this)]) hx hb d_Unpacker_checkHolds_22 rfl hl (by decide) rfl (fun ls hl => ?_)
    refine lv_iconst (v := 0) hx hb d_Unpacker_checkHolds_23 (by decide) ?_
    refine lv_istore_n (lv' := [(2, .int 0), (1, .int 0), (0, .ref a_this)]) hx hb d_Unpacker_checkHolds_24 rfl hl (by decide) rfl (fun ls hl => ?_)
    exact h_25 F _ _ _ H locs ls hm hP hD hS (lv_sub hl [2, 1, 0] rfl)
  · replace hm := mC_f hm c16
    refine lv_iconst (v := 0) hx hb d_Unpacker_checkHolds_19 (by decide) ?_
    replace hm := Option.some.inj hm
    subst hm
    exact hret d_Unpacker_checkHolds_20 (by decide) (u := v_at_1) ⟨rfl, rfl⟩ hP hD hS
theorem d_Unpacker_copyStored_0 : decode b_Unpacker_copyStored 0 = .ok (.aload_n 0, 1) := by decide +kernel
theorem d_Unpacker_copyStored_1 : decode b_Unpacker_copyStored 1 = .ok (.getfield 14, 3) := by decide +kernel
theorem d_Unpacker_copyStored_4 : decode b_Unpacker_copyStored 4 = .ok (.invokevirtual 101, 3) := by decide +kernel
theorem d_Unpacker_copyStored_7 : decode b_Unpacker_copyStored 7 = .ok (.aload_n 0, 1) := by decide +kernel
theorem d_Unpacker_copyStored_8 : decode b_Unpacker_copyStored 8 = .ok (.getfield 14, 3) := by decide +kernel
theorem d_Unpacker_copyStored_11 : decode b_Unpacker_copyStored 11 = .ok (.bipush 16, 2) := by decide +kernel
theorem d_Unpacker_copyStored_13 : decode b_Unpacker_copyStored 13 = .ok (.invokevirtual 82, 3) := by decide +kernel
theorem d_Unpacker_copyStored_16 : decode b_Unpacker_copyStored 16 = .ok (.istore_n 1, 1) := by decide +kernel
theorem d_Unpacker_copyStored_17 : decode b_Unpacker_copyStored 17 = .ok (.aload_n 0, 1) := by decide +kernel
theorem d_Unpacker_copyStored_18 : decode b_Unpacker_copyStored 18 = .ok (.getfield 14, 3) := by decide +kernel
theorem d_Unpacker_copyStored_21 : decode b_Unpacker_copyStored 21 = .ok (.bipush 16, 2) := by decide +kernel
theorem d_Unpacker_copyStored_23 : decode b_Unpacker_copyStored 23 = .ok (.invokevirtual 82, 3) := by decide +kernel
theorem d_Unpacker_copyStored_26 : decode b_Unpacker_copyStored 26 = .ok (.istore_n 2, 1) := by decide +kernel
theorem d_Unpacker_copyStored_27 : decode b_Unpacker_copyStored 27 = .ok (.iload_n 1, 1) := by decide +kernel
theorem d_Unpacker_copyStored_28 : decode b_Unpacker_copyStored 28 = .ok (.ifCond .lt 37, 3) := by decide +kernel
theorem d_Unpacker_copyStored_31 : decode b_Unpacker_copyStored 31 = .ok (.iload_n 2, 1) := by decide +kernel
theorem d_Unpacker_copyStored_32 : decode b_Unpacker_copyStored 32 = .ok (.ldc 111, 2) := by decide +kernel
theorem d_Unpacker_copyStored_34 : decode b_Unpacker_copyStored 34 = .ok (.iload_n 1, 1) := by decide +kernel
theorem d_Unpacker_copyStored_35 : decode b_Unpacker_copyStored 35 = .ok (.isub, 1) := by decide +kernel
theorem d_Unpacker_copyStored_36 : decode b_Unpacker_copyStored 36 = .ok (.if_icmp .ne 29, 3) := by decide +kernel
theorem d_Unpacker_copyStored_39 : decode b_Unpacker_copyStored 39 = .ok (.iload_n 1, 1) := by decide +kernel
theorem d_Unpacker_copyStored_40 : decode b_Unpacker_copyStored 40 = .ok (.sipush 8192, 3) := by decide +kernel
theorem d_Unpacker_copyStored_43 : decode b_Unpacker_copyStored 43 = .ok (.aload_n 0, 1) := by decide +kernel
theorem d_Unpacker_copyStored_44 : decode b_Unpacker_copyStored 44 = .ok (.invokevirtual 112, 3) := by decide +kernel
theorem d_Unpacker_copyStored_47 : decode b_Unpacker_copyStored 47 = .ok (.isub, 1) := by decide +kernel
theorem d_Unpacker_copyStored_48 : decode b_Unpacker_copyStored 48 = .ok (.if_icmp .gt 17, 3) := by decide +kernel
theorem d_Unpacker_copyStored_51 : decode b_Unpacker_copyStored 51 = .ok (.bipush 8, 2) := by decide +kernel
theorem d_Unpacker_copyStored_53 : decode b_Unpacker_copyStored 53 = .ok (.iload_n 1, 1) := by decide +kernel
theorem d_Unpacker_copyStored_54 : decode b_Unpacker_copyStored 54 = .ok (.imul, 1) := by decide +kernel
theorem d_Unpacker_copyStored_55 : decode b_Unpacker_copyStored 55 = .ok (.aload_n 0, 1) := by decide +kernel
theorem d_Unpacker_copyStored_56 : decode b_Unpacker_copyStored 56 = .ok (.getfield 14, 3) := by decide +kernel
theorem d_Unpacker_copyStored_59 : decode b_Unpacker_copyStored 59 = .ok (.invokevirtual 104, 3) := by decide +kernel
theorem d_Unpacker_copyStored_62 : decode b_Unpacker_copyStored 62 = .ok (.if_icmp .le 5, 3) := by decide +kernel
theorem d_Unpacker_copyStored_65 : decode b_Unpacker_copyStored 65 = .ok (.iconst 0, 1) := by decide +kernel
theorem d_Unpacker_copyStored_66 : decode b_Unpacker_copyStored 66 = .ok (.ireturn, 1) := by decide +kernel
theorem d_Unpacker_copyStored_67 : decode b_Unpacker_copyStored 67 = .ok (.iconst 0, 1) := by decide +kernel
theorem d_Unpacker_copyStored_68 : decode b_Unpacker_copyStored 68 = .ok (.istore_n 3, 1) := by decide +kernel
theorem d_Unpacker_copyStored_69 : decode b_Unpacker_copyStored 69 = .ok (.iload_n 3, 1) := by decide +kernel
theorem d_Unpacker_copyStored_70 : decode b_Unpacker_copyStored 70 = .ok (.iload_n 1, 1) := by decide +kernel
theorem d_Unpacker_copyStored_71 : decode b_Unpacker_copyStored 71 = .ok (.if_icmp .ge 25, 3) := by decide +kernel
theorem d_Unpacker_copyStored_74 : decode b_Unpacker_copyStored 74 = .ok (.aload_n 0, 1) := by decide +kernel
theorem d_Unpacker_copyStored_75 : decode b_Unpacker_copyStored 75 = .ok (.getfield 20, 3) := by decide +kernel
theorem d_Unpacker_copyStored_78 : decode b_Unpacker_copyStored 78 = .ok (.aload_n 0, 1) := by decide +kernel
theorem d_Unpacker_copyStored_79 : decode b_Unpacker_copyStored 79 = .ok (.getfield 14, 3) := by decide +kernel
theorem d_Unpacker_copyStored_82 : decode b_Unpacker_copyStored 82 = .ok (.bipush 8, 2) := by decide +kernel
theorem d_Unpacker_copyStored_84 : decode b_Unpacker_copyStored 84 = .ok (.invokevirtual 82, 3) := by decide +kernel
theorem d_Unpacker_copyStored_87 : decode b_Unpacker_copyStored 87 = .ok (.invokevirtual 115, 3) := by decide +kernel
theorem d_Unpacker_copyStored_90 : decode b_Unpacker_copyStored 90 = .ok (.iinc 3 1, 3) := by decide +kernel
theorem d_Unpacker_copyStored_93 : decode b_Unpacker_copyStored 93 = .ok (.goto (-24), 3) := by decide +kernel
theorem d_Unpacker_copyStored_96 : decode b_Unpacker_copyStored 96 = .ok (.iconst 1, 1) := by decide +kernel
theorem d_Unpacker_copyStored_97 : decode b_Unpacker_copyStored 97 = .ok (.ireturn, 1) := by decide +kernel
def Unpacker_copyStored_69 (F : Nat) (n_in_row_data : Nat) (n_out_data : Nat) (v_in_end : Int32) (v_in_row_length : Int32) (c_in_row_data : Nat → Int32) (k_69 : Int32 → Int32 → (Nat → Int32) → Int32 → Int32 → Option (Int32 × Int32 × Int32 × (Nat → Int32))) (v_in_at : Int32) (v_out_length : Int32) (c_out_data : Nat → Int32) (x1 : Int32) (x3 : Int32) : Option (Int32 × Int32 × Int32 × (Nat → Int32)) :=
  mC (x1 ≤ x3) (some (1, v_in_at, v_out_length, c_out_data)) (mR1 (BitReader_number F n_in_row_data v_in_end v_in_row_length c_in_row_data v_in_at 8) fun r_10 v_at_9 => mR2 (Bytes_add F n_out_data v_out_length c_out_data r_10) fun _ v_length_11 c_data_12 => mL (x3 + 1) fun y3_14 => k_69 v_at_9 v_length_11 c_data_12 x1 y3_14)
abbrev Unpacker_copyStored_w (E : xE) (a_this : Nat) (a_in : Nat) (a_in_row : Nat) (a_in_row_data : Nat) (a_out : Nat) (a_out_data : Nat) (n_in_row_data : Nat) (n_out_data : Nat) (x_fixedSymbols : Value) (x_fixedDistances : Value) (x_madeSymbols : Value) (x_madeDistances : Value) (x_lengthCodes : Value) (x_lengths : Value) (v_outStart : Int32) (v_in_end : Int32) (v_in_row_length : Int32) (c_in_row_data : Nat → Int32) (v_in_at : Int32) (v_out_length : Int32) (c_out_data : Nat → Int32) (v_farthest : Int32) : va_W := [(a_this, .inr (9, [.ref a_in, .ref a_out, x_fixedSymbols, x_fixedDistances, x_madeSymbols, x_madeDistances, x_lengthCodes, x_lengths, .int v_outStart, .int v_farthest])), (a_in, .inr (0, [.ref a_in_row, .int v_in_at, .int v_in_end])), (a_in_row, .inr (2, [.ref a_in_row_data, .int v_in_row_length])), (a_in_row_data, .inl (E.2.2.1, n_in_row_data, .inl c_in_row_data)), (a_out, .inr (2, [.ref a_out_data, .int v_out_length])), (a_out_data, .inl (E.2.2.1, n_out_data, .inl c_out_data))]
def Unpacker_copyStored (F : Nat) (n_in_row_data : Nat) (n_out_data : Nat) (v_outStart : Int32) (v_in_end : Int32) (v_in_row_length : Int32) (c_in_row_data : Nat → Int32) (v_in_at : Int32) (v_out_length : Int32) (c_out_data : Nat → Int32) : Option (Int32 × Int32 × Int32 × (Nat → Int32)) :=
  mR1 (BitReader_align F v_in_at) fun _ v_at_1 => mR1 (BitReader_number F n_in_row_data v_in_end v_in_row_length c_in_row_data v_at_1 16) fun r_4 v_at_3 => mR1 (BitReader_number F n_in_row_data v_in_end v_in_row_length c_in_row_data v_at_3 16) fun r_6 v_at_5 => mC (r_4 < 0) (some (0, v_at_5, v_out_length, c_out_data)) (mC (r_6 = (65535 - r_4)) (mR0 (Unpacker_made F v_outStart v_out_length) fun r_7 => mC ((8192 - r_7) < r_4) (some (0, v_at_5, v_out_length, c_out_data)) (mR0 (BitReader_bitsLeft F v_at_5 v_in_end) fun r_8 => mC ((8 * r_4) ≤ r_8) ((mW5 (Unpacker_copyStored_69 F n_in_row_data n_out_data v_in_end v_in_row_length c_in_row_data) F) v_at_5 v_out_length c_out_data r_4 0) (some (0, v_at_5, v_out_length, c_out_data)))) (some (0, v_at_5, v_out_length, c_out_data)))
abbrev Unpacker_copyStored_rm : Room := { frames := 2, cells := 0, slots := 0, locals := 44 }
set_option maxHeartbeats 4000000 in
set_option maxRecDepth 100000 in
theorem c_Unpacker_copyStored (l : Launch) (E : xE) (F sz : Nat) (a_this : Nat) (a_in : Nat) (a_in_row : Nat) (a_in_row_data : Nat) (a_out : Nat) (a_out_data : Nat) (n_in_row_data : Nat) (n_out_data : Nat) (x_fixedSymbols : Value) (x_fixedDistances : Value) (x_madeSymbols : Value) (x_madeDistances : Value) (x_lengthCodes : Value) (x_lengths : Value) (v_outStart : Int32) (v_in_end : Int32) (v_in_row_length : Int32) (c_in_row_data : Nat → Int32) (v_in_at : Int32) (v_out_length : Int32) (c_out_data : Nat → Int32) (v_farthest : Int32) (res : Int32 × Int32 × Int32 × (Nat → Int32)) (hm : Unpacker_copyStored F n_in_row_data n_out_data v_outStart v_in_end v_in_row_length c_in_row_data v_in_at v_out_length c_out_data = some res) : Met l y_Unpacker_copyStored (Cond.code y_Unpacker_copyStored b_Unpacker_copyStored 4 (some .boolean) :: x_tb) Unpacker_copyStored_rm (va_Pc [.ref a_this] (xPre E (Unpacker_copyStored_w E a_this a_in a_in_row a_in_row_data a_out a_out_data n_in_row_data n_out_data x_fixedSymbols x_fixedDistances x_madeSymbols x_madeDistances x_lengthCodes x_lengths v_outStart v_in_end v_in_row_length c_in_row_data v_in_at v_out_length c_out_data v_farthest) sz)) (xQi E (fun (r : Int32) (u : Int32 × Int32 × (Nat → Int32)) => r = res.1 ∧ u = res.2) (fun (u : Int32 × Int32 × (Nat → Int32)) => (Unpacker_copyStored_w E a_this a_in a_in_row a_in_row_data a_out a_out_data n_in_row_data n_out_data x_fixedSymbols x_fixedDistances x_madeSymbols x_madeDistances x_lengthCodes x_lengths v_outStart v_in_end v_in_row_length c_in_row_data u.1 u.2.1 u.2.2 v_farthest)) (va_A (Unpacker_copyStored_w E a_this a_in a_in_row a_in_row_data a_out a_out_data n_in_row_data n_out_data x_fixedSymbols x_fixedDistances x_madeSymbols x_madeDistances x_lengthCodes x_lengths v_outStart v_in_end v_in_row_length c_in_row_data v_in_at v_out_length c_out_data v_farthest) sz)) 0 0 (va_A (Unpacker_copyStored_w E a_this a_in a_in_row a_in_row_data a_out a_out_data n_in_row_data n_out_data x_fixedSymbols x_fixedDistances x_madeSymbols x_madeDistances x_lengthCodes x_lengths v_outStart v_in_end v_in_row_length c_in_row_data v_in_at v_out_length c_out_data v_farthest) sz) := by
  refine xEnZ (by decide) (Nat.le_of_ble_eq_true rfl) ?_
  intro p e s m args below meth c A ls Q hx hb hnm hts hown hml hK hA hI hN hret hP hD hS hl
  replace hown : s.vm.findClass R_Unpacker = some m.cls := hown
  replace hl : lv_has ls 4 [(0, .ref a_this)] := hl
  obtain ⟨H, eH⟩ : ∃ z, z = s.heap := ⟨_, rfl⟩
  obtain ⟨locs, eL⟩ : ∃ z : List Loc, z = [] := ⟨_, rfl⟩
  rw [show W p l e Unpacker_copyStored_rm s m args below meth c s.heap [] 0 0 Q (F0 m 0 ls []) = W p l e Unpacker_copyStored_rm s m args below meth c H locs 0 0 Q (F0 m 0 ls []) by rw [eH, eL]]
  replace hP : va_P E.1 vwCl (Unpacker_copyStored_w E a_this a_in a_in_row a_in_row_data a_out a_out_data n_in_row_data n_out_data x_fixedSymbols x_fixedDistances x_madeSymbols x_madeDistances x_lengthCodes x_lengths v_outStart v_in_end v_in_row_length c_in_row_data v_in_at v_out_length c_out_data v_farthest) H := by rw [eH]; exact hP
  replace hS : va_S A s.heap H locs := by rw [eH, eL]; exact hS
  clear eH eL
  rw [Unpacker_copyStored] at hm
  refine lv_aload_n hx hb d_Unpacker_copyStored_0 rfl (lv_at hl 0 rfl) ?_
  refine va_get (D := E.1) (ci := 9) (v := .ref a_in) (C := R_Unpacker) (T := F_Unpacker) (N := 10) hx hb hts i_Unpacker hown hK hP 0 rfl rfl 0 (by decide) (hts _ tw_343) (fun _ h9 => h9) rfl d_Unpacker_copyStored_1 ?_
  obtain ⟨r_2, v_at_1, hc4, hm⟩ := mR1_e hm
  refine xmv (wc := (BitReader_align_w E a_in (.ref a_in_row) v_in_at v_in_end)) [false, true, false, false, false, false] [0] [0] hP hD hS hA rfl (by decide) (by decide) 1 (by decide) (fun _ => rfl) (fun hPc hDc hFc => va_runV (As := []) (rest := []) ⟨hx, hb, hml, hown, hts⟩ (c_BitReader_align l E F H.size a_in (.ref a_in_row) v_in_at v_in_end (r_2, v_at_1) hc4) (cwV 0 hts (x_gV tw_716 tw_717 tw_718 tw_77 tw_719) rfl rfl rfl (by decide +kernel) ⟨Nat.le_of_ble_eq_true rfl, Nat.le_of_ble_eq_true rfl⟩) (xPV 0 0 rfl rfl hPc hDc hFc hK hI hN hS) rfl rfl hl.1 rfl (lv_room (Nat.le_of_ble_eq_true rfl)) d_Unpacker_copyStored_4 ⟨Nat.le_of_ble_eq_true rfl, Nat.le_of_ble_eq_true rfl⟩) (fun u9 H locs hw hP hD hS => ?_)
  have hw2 : v_at_1 = u9 := hw.symm
  subst hw2
  replace hP : va_P E.1 vwCl (Unpacker_copyStored_w E a_this a_in a_in_row a_in_row_data a_out a_out_data n_in_row_data n_out_data x_fixedSymbols x_fixedDistances x_madeSymbols x_madeDistances x_lengthCodes x_lengths v_outStart v_in_end v_in_row_length c_in_row_data v_at_1 v_out_length c_out_data v_farthest) H := hP
  replace hD : va_D A (Unpacker_copyStored_w E a_this a_in a_in_row a_in_row_data a_out a_out_data n_in_row_data n_out_data x_fixedSymbols x_fixedDistances x_madeSymbols x_madeDistances x_lengthCodes x_lengths v_outStart v_in_end v_in_row_length c_in_row_data v_at_1 v_out_length c_out_data v_farthest) := hD
  refine lv_aload_n hx hb d_Unpacker_copyStored_7 rfl (lv_at hl 0 rfl) ?_
  refine va_get (D := E.1) (ci := 9) (v := .ref a_in) (C := R_Unpacker) (T := F_Unpacker) (N := 10) hx hb hts i_Unpacker hown hK hP 0 rfl rfl 0 (by decide) (hts _ tw_343) (fun _ h9 => h9) rfl d_Unpacker_copyStored_8 ?_
  refine lv_bipush (v := 16) hx hb d_Unpacker_copyStored_11 (by decide) ?_
  obtain ⟨r_4, v_at_3, hc13, hm⟩ := mR1_e hm
  refine xmi (wc := (BitReader_number_w E a_in a_in_row a_in_row_data n_in_row_data v_in_end v_in_row_length c_in_row_data v_at_1)) [false, true, true, true, false, false] [0, 1, 2] [0, 1, 2] hP hD hS hA rfl (by decide) (by decide) 3 (by decide) (fun _ => rfl) (fun hPc hDc hFc => va_runV (As := [.int 16]) (rest := []) ⟨hx, hb, hml, hown, hts⟩ (c_BitReader_number l E F H.size a_in a_in_row a_in_row_data n_in_row_data v_in_end v_in_row_length c_in_row_data v_at_1 16 (r_4, v_at_3) hc13) (cwV 1 hts (x_gV tw_706 tw_707 tw_708 tw_77 tw_709) rfl rfl rfl (by decide +kernel) ⟨Nat.le_of_ble_eq_true rfl, Nat.le_of_ble_eq_true rfl⟩) (xPV 0 0 rfl rfl hPc hDc hFc hK hI hN hS) rfl rfl hl.1 rfl (lv_room (Nat.le_of_ble_eq_true rfl)) d_Unpacker_copyStored_13 ⟨Nat.le_of_ble_eq_true rfl, Nat.le_of_ble_eq_true rfl⟩) (fun r9 u9 H locs hw hP hD hS => ?_)
  have hw1 : r_4 = r9 := hw.1.symm
  subst hw1
  have hw2 : v_at_3 = u9 := hw.2.symm
  subst hw2
  replace hP : va_P E.1 vwCl (Unpacker_copyStored_w E a_this a_in a_in_row a_in_row_data a_out a_out_data n_in_row_data n_out_data x_fixedSymbols x_fixedDistances x_madeSymbols x_madeDistances x_lengthCodes x_lengths v_outStart v_in_end v_in_row_length c_in_row_data v_at_3 v_out_length c_out_data v_farthest) H := hP
  replace hD : va_D A (Unpacker_copyStored_w E a_this a_in a_in_row a_in_row_data a_out a_out_data n_in_row_data n_out_data x_fixedSymbols x_fixedDistances x_madeSymbols x_madeDistances x_lengthCodes x_lengths v_outStart v_in_end v_in_row_length c_in_row_data v_at_3 v_out_length c_out_data v_farthest) := hD
  refine lv_istore_n (lv' := [(1, .int r_4), (0, .ref a_this)]) hx hb d_Unpacker_copyStored_16 rfl hl (by decide) rfl (fun ls hl => ?_)
  refine lv_aload_n hx hb d_Unpacker_copyStored_17 rfl (lv_at hl 1 rfl) ?_
  refine va_get (D := E.1) (ci := 9) (v := .ref a_in) (C := R_Unpacker) (T := F_Unpacker) (N := 10) hx hb hts i_Unpacker hown hK hP 0 rfl rfl 0 (by decide) (hts _ tw_343) (fun _ h9 => h9) rfl d_Unpacker_copyStored_18 ?_
  refine lv_bipush (v := 16) hx hb d_Unpacker_copyStored_21 (by decide) ?_
  obtain ⟨r_6, v_at_5, hc23, hm⟩ := mR1_e hm
  refine xmi (wc := (BitReader_number_w E a_in a_in_row a_in_row_data n_in_row_data v_in_end v_in_row_length c_in_row_data v_at_3)) [false, true, true, true, false, false] [0, 1, 2] [0, 1, 2] hP hD hS hA rfl (by decide) (by decide) 3 (by decide) (fun _ => rfl) (fun hPc hDc hFc => va_runV (As := [.int 16]) (rest := []) ⟨hx, hb, hml, hown, hts⟩ (c_BitReader_number l E F H.size a_in a_in_row a_in_row_data n_in_row_data v_in_end v_in_row_length c_in_row_data v_at_3 16 (r_6, v_at_5) hc23) (cwV 1 hts (x_gV tw_706 tw_707 tw_708 tw_77 tw_709) rfl rfl rfl (by decide +kernel) ⟨Nat.le_of_ble_eq_true rfl, Nat.le_of_ble_eq_true rfl⟩) (xPV 0 0 rfl rfl hPc hDc hFc hK hI hN hS) rfl rfl hl.1 rfl (lv_room (Nat.le_of_ble_eq_true rfl)) d_Unpacker_copyStored_23 ⟨Nat.le_of_ble_eq_true rfl, Nat.le_of_ble_eq_true rfl⟩) (fun r9 u9 H locs hw hP hD hS => ?_)
  have hw1 : r_6 = r9 := hw.1.symm
  subst hw1
  have hw2 : v_at_5 = u9 := hw.2.symm
  subst hw2
  replace hP : va_P E.1 vwCl (Unpacker_copyStored_w E a_this a_in a_in_row a_in_row_data a_out a_out_data n_in_row_data n_out_data x_fixedSymbols x_fixedDistances x_madeSymbols x_madeDistances x_lengthCodes x_lengths v_outStart v_in_end v_in_row_length c_in_row_data v_at_5 v_out_length c_out_data v_farthest) H := hP
  replace hD : va_D A (Unpacker_copyStored_w E a_this a_in a_in_row a_in_row_data a_out a_out_data n_in_row_data n_out_data x_fixedSymbols x_fixedDistances x_madeSymbols x_madeDistances x_lengthCodes x_lengths v_outStart v_in_end v_in_row_length c_in_row_data v_at_5 v_out_length c_out_data v_farthest) := hD
  refine lv_istore_n (lv' := [(2, .int r_6), (1, .int r_4), (0, .ref a_this)]) hx hb d_Unpacker_copyStored_26 rfl hl (by decide) rfl (fun ls hl => ?_)
  refine lv_iload_n hx hb d_Unpacker_copyStored_27 rfl (lv_at hl 1 rfl) ?_
  refine lv_if_lt (tgt := 65) hx hb d_Unpacker_copyStored_28 (by decide) (fun c28 => ?_) (fun c28 => ?_)
  · replace hm := mC_t hm c28
    refine lv_iconst (v := 0) hx hb d_Unpacker_copyStored_65 (by decide) ?_
    replace hm := Option.some.inj hm
    subst hm
    exact hret d_Unpacker_copyStored_66 (by decide) (u := (v_at_5, v_out_length, c_out_data)) ⟨rfl, rfl⟩ hP hD hS
  · replace hm := mC_f hm c28
    refine lv_iload_n hx hb d_Unpacker_copyStored_31 rfl (lv_at hl 0 rfl) ?_
    refine lv_ldc (v := 65535) hx hb hown (hts _ tw_720) d_Unpacker_copyStored_32 ?_
    refine lv_iload_n hx hb d_Unpacker_copyStored_34 rfl (lv_at hl 1 rfl) ?_
    refine lv_isub hx hb d_Unpacker_copyStored_35 ?_
    refine lv_icmp_ne (tgt := 65) hx hb d_Unpacker_copyStored_36 (by decide) (fun c36 => ?_) (fun c36 => ?_)
    · replace hm := mC_f hm c36
      refine lv_iconst (v := 0) hx hb d_Unpacker_copyStored_65 (by decide) ?_
      replace hm := Option.some.inj hm
      subst hm
      exact hret d_Unpacker_copyStored_66 (by decide) (u := (v_at_5, v_out_length, c_out_data)) ⟨rfl, rfl⟩ hP hD hS
    · replace hm := mC_t hm c36
      refine lv_iload_n hx hb d_Unpacker_copyStored_39 rfl (lv_at hl 1 rfl) ?_
      refine lv_sipush (v := 8192) hx hb d_Unpacker_copyStored_40 (by decide) ?_
      refine lv_aload_n hx hb d_Unpacker_copyStored_43 rfl (lv_at hl 2 rfl) ?_
      obtain ⟨r_7, hc44, hm⟩ := mR0_e hm
      refine xmi (wc := (Unpacker_made_w E a_this a_out (.ref a_in) x_fixedSymbols x_fixedDistances x_madeSymbols x_madeDistances x_lengthCodes x_lengths (.ref a_out_data) v_outStart v_out_length v_farthest)) [true, false, false, false, true, false] [0, 1] [0, 1] hP hD hS hA rfl (by decide) (by decide) 2 (by decide) (fun _ => rfl) (fun hPc hDc hFc => va_runV (As := []) (rest := [.int 8192, .int r_4]) ⟨hx, hb, hml, hown, hts⟩ (c_Unpacker_made l E F H.size a_this a_out (.ref a_in) x_fixedSymbols x_fixedDistances x_madeSymbols x_madeDistances x_lengthCodes x_lengths (.ref a_out_data) v_outStart v_out_length v_farthest (r_7, ()) hc44) (cwV 0 hts (x_gV tw_721 tw_723 tw_24 tw_76 tw_724) rfl rfl rfl (by decide +kernel) ⟨Nat.le_of_ble_eq_true rfl, Nat.le_of_ble_eq_true rfl⟩) (xPV 9 0 rfl rfl hPc hDc hFc hK hI hN hS) rfl rfl hl.1 rfl (lv_room (Nat.le_of_ble_eq_true rfl)) d_Unpacker_copyStored_44 ⟨Nat.le_of_ble_eq_true rfl, Nat.le_of_ble_eq_true rfl⟩) (fun r9 u9 H locs hw hP hD hS => ?_)
      have hw1 : r_7 = r9 := hw.1.symm
      subst hw1
      replace hP : va_P E.1 vwCl (Unpacker_copyStored_w E a_this a_in a_in_row a_in_row_data a_out a_out_data n_in_row_data n_out_data x_fixedSymbols x_fixedDistances x_madeSymbols x_madeDistances x_lengthCodes x_lengths v_outStart v_in_end v_in_row_length c_in_row_data v_at_5 v_out_length c_out_data v_farthest) H := hP
      replace hD : va_D A (Unpacker_copyStored_w E a_this a_in a_in_row a_in_row_data a_out a_out_data n_in_row_data n_out_data x_fixedSymbols x_fixedDistances x_madeSymbols x_madeDistances x_lengthCodes x_lengths v_outStart v_in_end v_in_row_length c_in_row_data v_at_5 v_out_length c_out_data v_farthest) := hD
      refine lv_isub hx hb d_Unpacker_copyStored_47 ?_
      refine lv_icmp_gt (tgt := 65) hx hb d_Unpacker_copyStored_48 (by decide) (fun c48 => ?_) (fun c48 => ?_)
      · replace hm := mC_t hm c48
        refine lv_iconst (v := 0) hx hb d_Unpacker_copyStored_65 (by decide) ?_
        replace hm := Option.some.inj hm
        subst hm
        exact hret d_Unpacker_copyStored_66 (by decide) (u := (v_at_5, v_out_length, c_out_data)) ⟨rfl, rfl⟩ hP hD hS
      · replace hm := mC_f hm c48
        refine lv_bipush (v := 8) hx hb d_Unpacker_copyStored_51 (by decide) ?_
        refine lv_iload_n hx hb d_Unpacker_copyStored_53 rfl (lv_at hl 1 rfl) ?_
        refine lv_imul hx hb d_Unpacker_copyStored_54 ?_
        refine lv_aload_n hx hb d_Unpacker_copyStored_55 rfl (lv_at hl 2 rfl) ?_
        refine va_get (D := E.1) (ci := 9) (v := .ref a_in) (C := R_Unpacker) (T := F_Unpacker) (N := 10) hx hb hts i_Unpacker hown hK hP 0 rfl rfl 0 (by decide) (hts _ tw_343) (fun _ h9 => h9) rfl d_Unpacker_copyStored_56 ?_
        obtain ⟨r_8, hc59, hm⟩ := mR0_e hm
        refine xmi (wc := (BitReader_bitsLeft_w E a_in (.ref a_in_row) v_at_5 v_in_end)) [false, true, false, false, false, false] [0] [0] hP hD hS hA rfl (by decide) (by decide) 1 (by decide) (fun _ => rfl) (fun hPc hDc hFc => va_runV (As := []) (rest := [.int (8 * r_4)]) ⟨hx, hb, hml, hown, hts⟩ (c_BitReader_bitsLeft l E F H.size a_in (.ref a_in_row) v_at_5 v_in_end (r_8, ()) hc59) (cwV 0 hts (x_gV tw_725 tw_726 tw_727 tw_77 tw_728) rfl rfl rfl (by decide +kernel) ⟨Nat.le_of_ble_eq_true rfl, Nat.le_of_ble_eq_true rfl⟩) (xPV 0 0 rfl rfl hPc hDc hFc hK hI hN hS) rfl rfl hl.1 rfl (lv_room (Nat.le_of_ble_eq_true rfl)) d_Unpacker_copyStored_59 ⟨Nat.le_of_ble_eq_true rfl, Nat.le_of_ble_eq_true rfl⟩) (fun r9 u9 H locs hw hP hD hS => ?_)
        have hw1 : r_8 = r9 := hw.1.symm
        subst hw1
        replace hP : va_P E.1 vwCl (Unpacker_copyStored_w E a_this a_in a_in_row a_in_row_data a_out a_out_data n_in_row_data n_out_data x_fixedSymbols x_fixedDistances x_madeSymbols x_madeDistances x_lengthCodes x_lengths v_outStart v_in_end v_in_row_length c_in_row_data v_at_5 v_out_length c_out_data v_farthest) H := hP
        replace hD : va_D A (Unpacker_copyStored_w E a_this a_in a_in_row a_in_row_data a_out a_out_data n_in_row_data n_out_data x_fixedSymbols x_fixedDistances x_madeSymbols x_madeDistances x_lengthCodes x_lengths v_outStart v_in_end v_in_row_length c_in_row_data v_at_5 v_out_length c_out_data v_farthest) := hD
        refine lv_icmp_le (tgt := 67) hx hb d_Unpacker_copyStored_62 (by decide) (fun c62 => ?_) (fun c62 => ?_)
        · replace hm := mC_t hm c62
          have h_69 : ∀ (n_69 : Nat) (v_in_at : Int32) (v_out_length : Int32) (c_out_data : Nat → Int32) (x1 : Int32) (x3 : Int32) (H : Heap) (locs : List Loc) (ls : Array Slot), (mW5 (Unpacker_copyStored_69 F n_in_row_data n_out_data v_in_end v_in_row_length c_in_row_data) n_69) v_in_at v_out_length c_out_data x1 x3 = some res → va_P E.1 vwCl (Unpacker_copyStored_w E a_this a_in a_in_row a_in_row_data a_out a_out_data n_in_row_data n_out_data x_fixedSymbols x_fixedDistances x_madeSymbols x_madeDistances x_lengthCodes x_lengths v_outStart v_in_end v_in_row_length c_in_row_data v_in_at v_out_length c_out_data v_farthest) H → va_D A (Unpacker_copyStored_w E a_this a_in a_in_row a_in_row_data a_out a_out_data n_in_row_data n_out_data x_fixedSymbols x_fixedDistances x_madeSymbols x_madeDistances x_lengthCodes x_lengths v_outStart v_in_end v_in_row_length c_in_row_data v_in_at v_out_length c_out_data v_farthest) → va_S A s.heap H locs → lv_has ls 4 [(0, .ref a_this), (1, .int x1), (3, .int x3)] → W p l e Unpacker_copyStored_rm s m args below meth c H locs 0 0 Q (F0 m 69 ls []) := by
            intro n_69
            induction n_69 with
            | zero => exact fun _ _ _ _ _ _ _ _ hm _ _ _ _ => (mW5_z hm).elim
            | succ n_69 ih_69 =>
              intro v_in_at v_out_length c_out_data x1 x3 H locs ls hm hP hD hS hl
              replace hm := mW5_s hm
              rw [Unpacker_copyStored_69] at hm
              refine lv_iload_n hx hb d_Unpacker_copyStored_69 rfl (lv_at hl 2 rfl) ?_
              refine lv_iload_n hx hb d_Unpacker_copyStored_70 rfl (lv_at hl 1 rfl) ?_
              refine lv_icmp_ge (tgt := 96) hx hb d_Unpacker_copyStored_71 (by decide) (fun c71 => ?_) (fun c71 => ?_)
              · replace hm := mC_t hm c71
                refine lv_iconst (v := 1) hx hb d_Unpacker_copyStored_96 (by decide) ?_
                replace hm := Option.some.inj hm
                subst hm
                exact hret d_Unpacker_copyStored_97 (by decide) (u := (v_in_at, v_out_length, c_out_data)) ⟨rfl, rfl⟩ hP hD hS
              · replace hm := mC_f hm c71
                refine lv_aload_n hx hb d_Unpacker_copyStored_74 rfl (lv_at hl 0 rfl) ?_
                refine va_get (D := E.1) (ci := 9) (v := .ref a_out) (C := R_Unpacker) (T := F_Unpacker) (N := 10) hx hb hts i_Unpacker hown hK hP 0 rfl rfl 1 (by decide) (hts _ tw_344) (fun _ h9 => h9) rfl d_Unpacker_copyStored_75 ?_
                refine lv_aload_n hx hb d_Unpacker_copyStored_78 rfl (lv_at hl 0 rfl) ?_
                refine va_get (D := E.1) (ci := 9) (v := .ref a_in) (C := R_Unpacker) (T := F_Unpacker) (N := 10) hx hb hts i_Unpacker hown hK hP 0 rfl rfl 0 (by decide) (hts _ tw_343) (fun _ h9 => h9) rfl d_Unpacker_copyStored_79 ?_
                refine lv_bipush (v := 8) hx hb d_Unpacker_copyStored_82 (by decide) ?_
                obtain ⟨r_10, v_at_9, hc84, hm⟩ := mR1_e hm
                refine xmi (wc := (BitReader_number_w E a_in a_in_row a_in_row_data n_in_row_data v_in_end v_in_row_length c_in_row_data v_in_at)) [false, true, true, true, false, false] [0, 1, 2] [0, 1, 2] hP hD hS hA rfl (by decide) (by decide) 3 (by decide) (fun _ => rfl) (fun hPc hDc hFc => va_runV (As := [.int 8]) (rest := [.ref a_out]) ⟨hx, hb, hml, hown, hts⟩ (c_BitReader_number l E F H.size a_in a_in_row a_in_row_data n_in_row_data v_in_end v_in_row_length c_in_row_data v_in_at 8 (r_10, v_at_9) hc84) (cwV 1 hts (x_gV tw_706 tw_707 tw_708 tw_77 tw_709) rfl rfl rfl (by decide +kernel) ⟨Nat.le_of_ble_eq_true rfl, Nat.le_of_ble_eq_true rfl⟩) (xPV 0 0 rfl rfl hPc hDc hFc hK hI hN hS) rfl rfl hl.1 rfl (lv_room (Nat.le_of_ble_eq_true rfl)) d_Unpacker_copyStored_84 ⟨Nat.le_of_ble_eq_true rfl, Nat.le_of_ble_eq_true rfl⟩) (fun r9 u9 H locs hw hP hD hS => ?_)
                have hw1 : r_10 = r9 := hw.1.symm
                subst hw1
                have hw2 : v_at_9 = u9 := hw.2.symm
                subst hw2
                replace hP : va_P E.1 vwCl (Unpacker_copyStored_w E a_this a_in a_in_row a_in_row_data a_out a_out_data n_in_row_data n_out_data x_fixedSymbols x_fixedDistances x_madeSymbols x_madeDistances x_lengthCodes x_lengths v_outStart v_in_end v_in_row_length c_in_row_data v_at_9 v_out_length c_out_data v_farthest) H := hP
                replace hD : va_D A (Unpacker_copyStored_w E a_this a_in a_in_row a_in_row_data a_out a_out_data n_in_row_data n_out_data x_fixedSymbols x_fixedDistances x_madeSymbols x_madeDistances x_lengthCodes x_lengths v_outStart v_in_end v_in_row_length c_in_row_data v_at_9 v_out_length c_out_data v_farthest) := hD
                obtain ⟨r_13, v_length_11, c_data_12, hc87, hm⟩ := mR2_e hm
                refine xmv (wc := (Bytes_add_w E a_out a_out_data n_out_data v_out_length c_out_data)) [false, false, false, false, true, true] [0, 1] [0, 1] hP hD hS hA rfl (by decide) (by decide) 2 (by decide) (fun _ => rfl) (fun hPc hDc hFc => va_runV (As := [.int r_10]) (rest := []) ⟨hx, hb, hml, hown, hts⟩ (c_Bytes_add l E F H.size a_out a_out_data n_out_data v_out_length c_out_data r_10 (r_13, v_length_11, c_data_12) hc87) (cwV 1 hts (x_gV tw_729 tw_426 tw_427 tw_67 tw_428) rfl rfl rfl (by decide +kernel) ⟨Nat.le_of_ble_eq_true rfl, Nat.le_of_ble_eq_true rfl⟩) (xPV 2 0 rfl rfl hPc hDc hFc hK hI hN hS) rfl rfl hl.1 rfl (lv_room (Nat.le_of_ble_eq_true rfl)) d_Unpacker_copyStored_87 ⟨Nat.le_of_ble_eq_true rfl, Nat.le_of_ble_eq_true rfl⟩) (fun u9 H locs hw hP hD hS => ?_)
                have hw2 : (v_length_11, c_data_12) = u9 := hw.symm
                subst hw2
                replace hP : va_P E.1 vwCl (Unpacker_copyStored_w E a_this a_in a_in_row a_in_row_data a_out a_out_data n_in_row_data n_out_data x_fixedSymbols x_fixedDistances x_madeSymbols x_madeDistances x_lengthCodes x_lengths v_outStart v_in_end v_in_row_length c_in_row_data v_at_9 v_length_11 c_data_12 v_farthest) H := hP
                replace hD : va_D A (Unpacker_copyStored_w E a_this a_in a_in_row a_in_row_data a_out a_out_data n_in_row_data n_out_data x_fixedSymbols x_fixedDistances x_madeSymbols x_madeDistances x_lengthCodes x_lengths v_outStart v_in_end v_in_row_length c_in_row_data v_at_9 v_length_11 c_data_12 v_farthest) := hD
                obtain ⟨y3_14, ey3_14⟩ : ∃ y : Int32, y = x3 + 1 := ⟨_, rfl⟩
                replace hm := mL_e hm y3_14 ey3_14
                refine lv_iinc (v := y3_14) (lv' := [(3, .int y3_14), (0, .ref a_this), (1, .int x1)]) hx hb d_Unpacker_copyStored_90 hl (k := 2) rfl (by rw [ey3_14]; rfl) (by decide) rfl (fun ls hl => ?_)
                refine lv_goto (tgt := 69) hx hb d_Unpacker_copyStored_93 (by decide) ?_
                exact ih_69 _ _ _ _ _ H locs ls hm hP hD hS (lv_sub hl [1, 2, 0] rfl)
          refine lv_iconst (v := 0) hx hb d_Unpacker_copyStored_67 (by decide) ?_
          refine lv_istore_n (lv' := [(3, .int 0), (2, .int r_6), (1, .int r_4), (0, .ref a_this)]) hx hb d_Unpacker_copyStored_68 rfl hl (by decide) rfl (fun ls hl => ?_)
          exact h_69 F _ _ _ _ _ H locs ls hm hP hD hS (lv_sub hl [3, 2, 0] rfl)
        · replace hm := mC_f hm c62
          refine lv_iconst (v := 0) hx hb d_Unpacker_copyStored_65 (by decide) ?_
          replace hm := Option.some.inj hm
          subst hm
          exact hret d_Unpacker_copyStored_66 (by decide) (u := (v_at_5, v_out_length, c_out_data)) ⟨rfl, rfl⟩ hP hD hS
theorem d_Unpacker_readLengths_0 : decode b_Unpacker_readLengths 0 = .ok (.iconst 0, 1) := by decide +kernel
theorem d_Unpacker_readLengths_1 : decode b_Unpacker_readLengths 1 = .ok (.istore_n 2, 1) := by decide +kernel
theorem d_Unpacker_readLengths_2 : decode b_Unpacker_readLengths 2 = .ok (.iload_n 2, 1) := by decide +kernel
theorem d_Unpacker_readLengths_3 : decode b_Unpacker_readLengths 3 = .ok (.iload_n 1, 1) := by decide +kernel
theorem d_Unpacker_readLengths_4 : decode b_Unpacker_readLengths 4 = .ok (.if_icmp .ge 136, 3) := by decide +kernel
theorem d_Unpacker_readLengths_7 : decode b_Unpacker_readLengths 7 = .ok (.iload_n 1, 1) := by decide +kernel
theorem d_Unpacker_readLengths_8 : decode b_Unpacker_readLengths 8 = .ok (.aload_n 0, 1) := by decide +kernel
theorem d_Unpacker_readLengths_9 : decode b_Unpacker_readLengths 9 = .ok (.getfield 45, 3) := by decide +kernel
theorem d_Unpacker_readLengths_12 : decode b_Unpacker_readLengths 12 = .ok (.arraylength, 1) := by decide +kernel
theorem d_Unpacker_readLengths_13 : decode b_Unpacker_readLengths 13 = .ok (.if_icmp .gt 127, 3) := by decide +kernel
theorem d_Unpacker_readLengths_16 : decode b_Unpacker_readLengths 16 = .ok (.aload_n 0, 1) := by decide +kernel
theorem d_Unpacker_readLengths_17 : decode b_Unpacker_readLengths 17 = .ok (.getfield 42, 3) := by decide +kernel
theorem d_Unpacker_readLengths_20 : decode b_Unpacker_readLengths 20 = .ok (.aload_n 0, 1) := by decide +kernel
theorem d_Unpacker_readLengths_21 : decode b_Unpacker_readLengths 21 = .ok (.getfield 14, 3) := by decide +kernel
theorem d_Unpacker_readLengths_24 : decode b_Unpacker_readLengths 24 = .ok (.invokevirtual 125, 3) := by decide +kernel
theorem d_Unpacker_readLengths_27 : decode b_Unpacker_readLengths 27 = .ok (.istore_n 3, 1) := by decide +kernel
theorem d_Unpacker_readLengths_28 : decode b_Unpacker_readLengths 28 = .ok (.aload_n 0, 1) := by decide +kernel
theorem d_Unpacker_readLengths_29 : decode b_Unpacker_readLengths 29 = .ok (.getfield 14, 3) := by decide +kernel
theorem d_Unpacker_readLengths_32 : decode b_Unpacker_readLengths 32 = .ok (.iload_n 3, 1) := by decide +kernel
theorem d_Unpacker_readLengths_33 : decode b_Unpacker_readLengths 33 = .ok (.invokestatic 129, 3) := by decide +kernel
theorem d_Unpacker_readLengths_36 : decode b_Unpacker_readLengths 36 = .ok (.invokevirtual 82, 3) := by decide +kernel
theorem d_Unpacker_readLengths_39 : decode b_Unpacker_readLengths 39 = .ok (.istore 4, 2) := by decide +kernel
theorem d_Unpacker_readLengths_41 : decode b_Unpacker_readLengths 41 = .ok (.iload_n 3, 1) := by decide +kernel
theorem d_Unpacker_readLengths_42 : decode b_Unpacker_readLengths 42 = .ok (.ifCond .lt 18, 3) := by decide +kernel
theorem d_Unpacker_readLengths_45 : decode b_Unpacker_readLengths 45 = .ok (.iload 4, 2) := by decide +kernel
theorem d_Unpacker_readLengths_47 : decode b_Unpacker_readLengths 47 = .ok (.ifCond .lt 13, 3) := by decide +kernel
theorem d_Unpacker_readLengths_50 : decode b_Unpacker_readLengths 50 = .ok (.iload_n 3, 1) := by decide +kernel
theorem d_Unpacker_readLengths_51 : decode b_Unpacker_readLengths 51 = .ok (.bipush 16, 2) := by decide +kernel
theorem d_Unpacker_readLengths_53 : decode b_Unpacker_readLengths 53 = .ok (.if_icmp .ne 9, 3) := by decide +kernel
theorem d_Unpacker_readLengths_56 : decode b_Unpacker_readLengths 56 = .ok (.iload_n 2, 1) := by decide +kernel
theorem d_Unpacker_readLengths_57 : decode b_Unpacker_readLengths 57 = .ok (.ifCond .ne 5, 3) := by decide +kernel
theorem d_Unpacker_readLengths_60 : decode b_Unpacker_readLengths 60 = .ok (.iconst 0, 1) := by decide +kernel
theorem d_Unpacker_readLengths_61 : decode b_Unpacker_readLengths 61 = .ok (.ireturn, 1) := by decide +kernel
theorem d_Unpacker_readLengths_62 : decode b_Unpacker_readLengths 62 = .ok (.iload_n 3, 1) := by decide +kernel
theorem d_Unpacker_readLengths_63 : decode b_Unpacker_readLengths 63 = .ok (.invokestatic 132, 3) := by decide +kernel
theorem d_Unpacker_readLengths_66 : decode b_Unpacker_readLengths 66 = .ok (.iload 4, 2) := by decide +kernel
theorem d_Unpacker_readLengths_68 : decode b_Unpacker_readLengths 68 = .ok (.iadd, 1) := by decide +kernel
theorem d_Unpacker_readLengths_69 : decode b_Unpacker_readLengths 69 = .ok (.istore 5, 2) := by decide +kernel
theorem d_Unpacker_readLengths_71 : decode b_Unpacker_readLengths 71 = .ok (.iload 5, 2) := by decide +kernel
theorem d_Unpacker_readLengths_73 : decode b_Unpacker_readLengths 73 = .ok (.iload_n 1, 1) := by decide +kernel
theorem d_Unpacker_readLengths_74 : decode b_Unpacker_readLengths 74 = .ok (.iload_n 2, 1) := by decide +kernel
theorem d_Unpacker_readLengths_75 : decode b_Unpacker_readLengths 75 = .ok (.isub, 1) := by decide +kernel
theorem d_Unpacker_readLengths_76 : decode b_Unpacker_readLengths 76 = .ok (.if_icmp .le 5, 3) := by decide +kernel
theorem d_Unpacker_readLengths_79 : decode b_Unpacker_readLengths 79 = .ok (.iconst 0, 1) := by decide +kernel
theorem d_Unpacker_readLengths_80 : decode b_Unpacker_readLengths 80 = .ok (.ireturn, 1) := by decide +kernel
theorem d_Unpacker_readLengths_81 : decode b_Unpacker_readLengths 81 = .ok (.iload_n 3, 1) := by decide +kernel
theorem d_Unpacker_readLengths_82 : decode b_Unpacker_readLengths 82 = .ok (.bipush 16, 2) := by decide +kernel
theorem d_Unpacker_readLengths_84 : decode b_Unpacker_readLengths 84 = .ok (.if_icmp .ge 7, 3) := by decide +kernel
theorem d_Unpacker_readLengths_87 : decode b_Unpacker_readLengths 87 = .ok (.iload_n 3, 1) := by decide +kernel
theorem d_Unpacker_readLengths_88 : decode b_Unpacker_readLengths 88 = .ok (.goto 21, 3) := by decide +kernel
theorem d_Unpacker_readLengths_91 : decode b_Unpacker_readLengths 91 = .ok (.iload_n 3, 1) := by decide +kernel
theorem d_Unpacker_readLengths_92 : decode b_Unpacker_readLengths 92 = .ok (.bipush 16, 2) := by decide +kernel
theorem d_Unpacker_readLengths_94 : decode b_Unpacker_readLengths 94 = .ok (.if_icmp .ne 14, 3) := by decide +kernel
theorem d_Unpacker_readLengths_97 : decode b_Unpacker_readLengths 97 = .ok (.aload_n 0, 1) := by decide +kernel
theorem d_Unpacker_readLengths_98 : decode b_Unpacker_readLengths 98 = .ok (.getfield 45, 3) := by decide +kernel
theorem d_Unpacker_readLengths_101 : decode b_Unpacker_readLengths 101 = .ok (.iload_n 2, 1) := by decide +kernel
theorem d_Unpacker_readLengths_102 : decode b_Unpacker_readLengths 102 = .ok (.iconst 1, 1) := by decide +kernel
theorem d_Unpacker_readLengths_103 : decode b_Unpacker_readLengths 103 = .ok (.isub, 1) := by decide +kernel
theorem d_Unpacker_readLengths_104 : decode b_Unpacker_readLengths 104 = .ok (.iaload, 1) := by decide +kernel
theorem d_Unpacker_readLengths_105 : decode b_Unpacker_readLengths 105 = .ok (.goto 4, 3) := by decide +kernel
theorem d_Unpacker_readLengths_108 : decode b_Unpacker_readLengths 108 = .ok (.iconst 0, 1) := by decide +kernel
theorem d_Unpacker_readLengths_109 : decode b_Unpacker_readLengths 109 = .ok (.istore 6, 2) := by decide +kernel
theorem d_Unpacker_readLengths_111 : decode b_Unpacker_readLengths 111 = .ok (.iload_n 2, 1) := by decide +kernel
theorem d_Unpacker_readLengths_112 : decode b_Unpacker_readLengths 112 = .ok (.iload 5, 2) := by decide +kernel
theorem d_Unpacker_readLengths_114 : decode b_Unpacker_readLengths 114 = .ok (.iadd, 1) := by decide +kernel
theorem d_Unpacker_readLengths_115 : decode b_Unpacker_readLengths 115 = .ok (.istore 7, 2) := by decide +kernel
theorem d_Unpacker_readLengths_117 : decode b_Unpacker_readLengths 117 = .ok (.iload_n 2, 1) := by decide +kernel
theorem d_Unpacker_readLengths_118 : decode b_Unpacker_readLengths 118 = .ok (.iload 7, 2) := by decide +kernel
theorem d_Unpacker_readLengths_120 : decode b_Unpacker_readLengths 120 = .ok (.if_icmp .ge 17, 3) := by decide +kernel
theorem d_Unpacker_readLengths_123 : decode b_Unpacker_readLengths 123 = .ok (.aload_n 0, 1) := by decide +kernel
theorem d_Unpacker_readLengths_124 : decode b_Unpacker_readLengths 124 = .ok (.getfield 45, 3) := by decide +kernel
theorem d_Unpacker_readLengths_127 : decode b_Unpacker_readLengths 127 = .ok (.iload_n 2, 1) := by decide +kernel
theorem d_Unpacker_readLengths_128 : decode b_Unpacker_readLengths 128 = .ok (.iload 6, 2) := by decide +kernel
theorem d_Unpacker_readLengths_130 : decode b_Unpacker_readLengths 130 = .ok (.iastore, 1) := by decide +kernel
theorem d_Unpacker_readLengths_131 : decode b_Unpacker_readLengths 131 = .ok (.iinc 2 1, 3) := by decide +kernel
theorem d_Unpacker_readLengths_134 : decode b_Unpacker_readLengths 134 = .ok (.goto (-17), 3) := by decide +kernel
theorem d_Unpacker_readLengths_137 : decode b_Unpacker_readLengths 137 = .ok (.goto (-135), 3) := by decide +kernel
theorem d_Unpacker_readLengths_140 : decode b_Unpacker_readLengths 140 = .ok (.iconst 1, 1) := by decide +kernel
theorem d_Unpacker_readLengths_141 : decode b_Unpacker_readLengths 141 = .ok (.ireturn, 1) := by decide +kernel
def Unpacker_readLengths_137 (F : Nat) (k_2 : (Nat → Int32) → Int32 → Int32 → Option (Int32 × (Nat → Int32) × Int32)) (c_lengths : Nat → Int32) (v_in_at : Int32) (x2 : Int32) : Option (Int32 × (Nat → Int32) × Int32) :=
  k_2 c_lengths v_in_at x2
def Unpacker_readLengths_117 (F : Nat) (k_137 : (Nat → Int32) → Int32 → Int32 → Option (Int32 × (Nat → Int32) × Int32)) (k_117 : (Nat → Int32) → Int32 → Int32 → Int32 → Int32 → Option (Int32 × (Nat → Int32) × Int32)) (c_lengths : Nat → Int32) (v_in_at : Int32) (x2 : Int32) (x6 : Int32) (x7 : Int32) : Option (Int32 × (Nat → Int32) × Int32) :=
  mC (x7 ≤ x2) (k_137 c_lengths v_in_at x2) (mG x2 320 (mL (upd c_lengths x2.toNatClampNeg x6) fun c_8 => mL (x2 + 1) fun y2_9 => k_117 c_8 v_in_at y2_9 x6 x7))
def Unpacker_readLengths_109 (F : Nat) (k_2 : (Nat → Int32) → Int32 → Int32 → Option (Int32 × (Nat → Int32) × Int32)) (c_lengths : Nat → Int32) (v_in_at : Int32) (x2 : Int32) (x5 : Int32) (s0 : Int32) : Option (Int32 × (Nat → Int32) × Int32) :=
  mL (x2 + x5) fun y7_10 => (mW5 (Unpacker_readLengths_117 F (Unpacker_readLengths_137 F k_2)) F) c_lengths v_in_at x2 s0 y7_10
def Unpacker_readLengths_62 (F : Nat) (x1 : Int32) (k_2 : (Nat → Int32) → Int32 → Int32 → Option (Int32 × (Nat → Int32) × Int32)) (c_lengths : Nat → Int32) (v_in_at : Int32) (x2 : Int32) (x3 : Int32) (x4 : Int32) : Option (Int32 × (Nat → Int32) × Int32) :=
  mR0 (P_repeatBase F x3) fun r_6 => mL (r_6 + x4) fun y5_7 => mC (y5_7 ≤ (x1 - x2)) (mC (16 ≤ x3) (mC (x3 = 16) (mL (x2 - 1) fun i_11 => mG i_11 320 ((Unpacker_readLengths_109 F k_2) c_lengths v_in_at x2 y5_7 (c_lengths i_11.toNatClampNeg))) ((Unpacker_readLengths_109 F k_2) c_lengths v_in_at x2 y5_7 0)) ((Unpacker_readLengths_109 F k_2) c_lengths v_in_at x2 y5_7 x3)) (some (0, c_lengths, v_in_at))
def Unpacker_readLengths_2 (F : Nat) (n_in_row_data : Nat) (n_lengthCodes_symbols : Nat) (v_in_end : Int32) (v_in_row_length : Int32) (c_in_row_data : Nat → Int32) (c_lengthCodes_counts : Nat → Int32) (c_lengthCodes_symbols : Nat → Int32) (x1 : Int32) (k_2 : (Nat → Int32) → Int32 → Int32 → Option (Int32 × (Nat → Int32) × Int32)) (c_lengths : Nat → Int32) (v_in_at : Int32) (x2 : Int32) : Option (Int32 × (Nat → Int32) × Int32) :=
  mC (x1 ≤ x2) (some (1, c_lengths, v_in_at)) (mC (320 < x1) (some (1, c_lengths, v_in_at)) (mR1 (Table_next F n_in_row_data n_lengthCodes_symbols v_in_end v_in_row_length c_in_row_data c_lengthCodes_counts c_lengthCodes_symbols v_in_at) fun r_2 v_p1_at_1 => mR0 (P_repeatExtra F r_2) fun r_3 => mR1 (BitReader_number F n_in_row_data v_in_end v_in_row_length c_in_row_data v_p1_at_1 r_3) fun r_5 v_at_4 => mC (r_2 < 0) (some (0, c_lengths, v_at_4)) (mC (r_5 < 0) (some (0, c_lengths, v_at_4)) (mC (r_2 = 16) (mC (x2 = 0) (some (0, c_lengths, v_at_4)) ((Unpacker_readLengths_62 F x1 k_2) c_lengths v_at_4 x2 r_2 r_5)) ((Unpacker_readLengths_62 F x1 k_2) c_lengths v_at_4 x2 r_2 r_5)))))
abbrev Unpacker_readLengths_w (E : xE) (a_this : Nat) (a_lengths : Nat) (a_in : Nat) (a_in_row : Nat) (a_in_row_data : Nat) (a_lengthCodes : Nat) (a_lengthCodes_counts : Nat) (a_lengthCodes_symbols : Nat) (n_in_row_data : Nat) (n_lengthCodes_symbols : Nat) (x_out : Value) (x_fixedSymbols : Value) (x_fixedDistances : Value) (x_madeSymbols : Value) (x_madeDistances : Value) (x_lengthCodes_offsets : Value) (v_in_end : Int32) (v_in_row_length : Int32) (c_in_row_data : Nat → Int32) (c_lengthCodes_counts : Nat → Int32) (c_lengthCodes_symbols : Nat → Int32) (c_lengths : Nat → Int32) (v_in_at : Int32) (v_outStart : Int32) (v_farthest : Int32) : va_W := [(a_this, .inr (9, [.ref a_in, x_out, x_fixedSymbols, x_fixedDistances, x_madeSymbols, x_madeDistances, .ref a_lengthCodes, .ref a_lengths, .int v_outStart, .int v_farthest])), (a_lengths, .inl (E.2.1, 320, .inl c_lengths)), (a_in, .inr (0, [.ref a_in_row, .int v_in_at, .int v_in_end])), (a_in_row, .inr (2, [.ref a_in_row_data, .int v_in_row_length])), (a_in_row_data, .inl (E.2.2.1, n_in_row_data, .inl c_in_row_data)), (a_lengthCodes, .inr (8, [.ref a_lengthCodes_counts, x_lengthCodes_offsets, .ref a_lengthCodes_symbols])), (a_lengthCodes_counts, .inl (E.2.1, 16, .inl c_lengthCodes_counts)), (a_lengthCodes_symbols, .inl (E.2.1, n_lengthCodes_symbols, .inl c_lengthCodes_symbols))]
def Unpacker_readLengths (F : Nat) (n_in_row_data : Nat) (n_lengthCodes_symbols : Nat) (v_in_end : Int32) (v_in_row_length : Int32) (c_in_row_data : Nat → Int32) (c_lengthCodes_counts : Nat → Int32) (c_lengthCodes_symbols : Nat → Int32) (c_lengths : Nat → Int32) (v_in_at : Int32) (x1 : Int32) : Option (Int32 × (Nat → Int32) × Int32) :=
  (mW3 (Unpacker_readLengths_2 F n_in_row_data n_lengthCodes_symbols v_in_end v_in_row_length c_in_row_data c_lengthCodes_counts c_lengthCodes_symbols x1) F) c_lengths v_in_at 0
abbrev Unpacker_readLengths_rm : Room := { frames := 3, cells := 0, slots := 0, locals := 71 }
set_option maxHeartbeats 4000000 in
set_option maxRecDepth 100000 in
theorem c_Unpacker_readLengths (l : Launch) (E : xE) (F sz : Nat) (a_this : Nat) (a_lengths : Nat) (a_in : Nat) (a_in_row : Nat) (a_in_row_data : Nat) (a_lengthCodes : Nat) (a_lengthCodes_counts : Nat) (a_lengthCodes_symbols : Nat) (n_in_row_data : Nat) (n_lengthCodes_symbols : Nat) (x_out : Value) (x_fixedSymbols : Value) (x_fixedDistances : Value) (x_madeSymbols : Value) (x_madeDistances : Value) (x_lengthCodes_offsets : Value) (v_in_end : Int32) (v_in_row_length : Int32) (c_in_row_data : Nat → Int32) (c_lengthCodes_counts : Nat → Int32) (c_lengthCodes_symbols : Nat → Int32) (c_lengths : Nat → Int32) (v_in_at : Int32) (v_outStart : Int32) (v_farthest : Int32) (x1 : Int32) (res : Int32 × (Nat → Int32) × Int32) (hm : Unpacker_readLengths F n_in_row_data n_lengthCodes_symbols v_in_end v_in_row_length c_in_row_data c_lengthCodes_counts c_lengthCodes_symbols c_lengths v_in_at x1 = some res) : Met l y_Unpacker_readLengths (Cond.code y_Unpacker_readLengths b_Unpacker_readLengths 8 (some .boolean) :: x_tb) Unpacker_readLengths_rm (va_Pc [.ref a_this, .int x1] (xPre E (Unpacker_readLengths_w E a_this a_lengths a_in a_in_row a_in_row_data a_lengthCodes a_lengthCodes_counts a_lengthCodes_symbols n_in_row_data n_lengthCodes_symbols x_out x_fixedSymbols x_fixedDistances x_madeSymbols x_madeDistances x_lengthCodes_offsets v_in_end v_in_row_length c_in_row_data c_lengthCodes_counts c_lengthCodes_symbols c_lengths v_in_at v_outStart v_farthest) sz)) (xQi E (fun (r : Int32) (u : (Nat → Int32) × Int32) => r = res.1 ∧ u = res.2) (fun (u : (Nat → Int32) × Int32) => (Unpacker_readLengths_w E a_this a_lengths a_in a_in_row a_in_row_data a_lengthCodes a_lengthCodes_counts a_lengthCodes_symbols n_in_row_data n_lengthCodes_symbols x_out x_fixedSymbols x_fixedDistances x_madeSymbols x_madeDistances x_lengthCodes_offsets v_in_end v_in_row_length c_in_row_data c_lengthCodes_counts c_lengthCodes_symbols u.1 u.2 v_outStart v_farthest)) (va_A (Unpacker_readLengths_w E a_this a_lengths a_in a_in_row a_in_row_data a_lengthCodes a_lengthCodes_counts a_lengthCodes_symbols n_in_row_data n_lengthCodes_symbols x_out x_fixedSymbols x_fixedDistances x_madeSymbols x_madeDistances x_lengthCodes_offsets v_in_end v_in_row_length c_in_row_data c_lengthCodes_counts c_lengthCodes_symbols c_lengths v_in_at v_outStart v_farthest) sz)) 0 0 (va_A (Unpacker_readLengths_w E a_this a_lengths a_in a_in_row a_in_row_data a_lengthCodes a_lengthCodes_counts a_lengthCodes_symbols n_in_row_data n_lengthCodes_symbols x_out x_fixedSymbols x_fixedDistances x_madeSymbols x_madeDistances x_lengthCodes_offsets v_in_end v_in_row_length c_in_row_data c_lengthCodes_counts c_lengthCodes_symbols c_lengths v_in_at v_outStart v_farthest) sz) := by
  refine xEnZ (by decide) (Nat.le_of_ble_eq_true rfl) ?_
  intro p e s m args below meth c A ls Q hx hb hnm hts hown hml hK hA hI hN hret hP hD hS hl
  replace hown : s.vm.findClass R_Unpacker = some m.cls := hown
  replace hl : lv_has ls 8 [(0, .ref a_this), (1, .int x1)] := hl
  obtain ⟨H, eH⟩ : ∃ z, z = s.heap := ⟨_, rfl⟩
  obtain ⟨locs, eL⟩ : ∃ z : List Loc, z = [] := ⟨_, rfl⟩
  rw [show W p l e Unpacker_readLengths_rm s m args below meth c s.heap [] 0 0 Q (F0 m 0 ls []) = W p l e Unpacker_readLengths_rm s m args below meth c H locs 0 0 Q (F0 m 0 ls []) by rw [eH, eL]]
  replace hP : va_P E.1 vwCl (Unpacker_readLengths_w E a_this a_lengths a_in a_in_row a_in_row_data a_lengthCodes a_lengthCodes_counts a_lengthCodes_symbols n_in_row_data n_lengthCodes_symbols x_out x_fixedSymbols x_fixedDistances x_madeSymbols x_madeDistances x_lengthCodes_offsets v_in_end v_in_row_length c_in_row_data c_lengthCodes_counts c_lengthCodes_symbols c_lengths v_in_at v_outStart v_farthest) H := by rw [eH]; exact hP
  replace hS : va_S A s.heap H locs := by rw [eH, eL]; exact hS
  clear eH eL
  rw [Unpacker_readLengths] at hm
  have h_2 : ∀ (n_2 : Nat) (c_lengths : Nat → Int32) (v_in_at : Int32) (x2 : Int32) (H : Heap) (locs : List Loc) (ls : Array Slot), (mW3 (Unpacker_readLengths_2 F n_in_row_data n_lengthCodes_symbols v_in_end v_in_row_length c_in_row_data c_lengthCodes_counts c_lengthCodes_symbols x1) n_2) c_lengths v_in_at x2 = some res → va_P E.1 vwCl (Unpacker_readLengths_w E a_this a_lengths a_in a_in_row a_in_row_data a_lengthCodes a_lengthCodes_counts a_lengthCodes_symbols n_in_row_data n_lengthCodes_symbols x_out x_fixedSymbols x_fixedDistances x_madeSymbols x_madeDistances x_lengthCodes_offsets v_in_end v_in_row_length c_in_row_data c_lengthCodes_counts c_lengthCodes_symbols c_lengths v_in_at v_outStart v_farthest) H → va_D A (Unpacker_readLengths_w E a_this a_lengths a_in a_in_row a_in_row_data a_lengthCodes a_lengthCodes_counts a_lengthCodes_symbols n_in_row_data n_lengthCodes_symbols x_out x_fixedSymbols x_fixedDistances x_madeSymbols x_madeDistances x_lengthCodes_offsets v_in_end v_in_row_length c_in_row_data c_lengthCodes_counts c_lengthCodes_symbols c_lengths v_in_at v_outStart v_farthest) → va_S A s.heap H locs → lv_has ls 8 [(0, .ref a_this), (1, .int x1), (2, .int x2)] → W p l e Unpacker_readLengths_rm s m args below meth c H locs 0 0 Q (F0 m 2 ls []) := by
    intro n_2
    induction n_2 with
    | zero => exact fun _ _ _ _ _ _ hm _ _ _ _ => (mW3_z hm).elim
    | succ n_2 ih_2 =>
      intro c_lengths v_in_at x2 H locs ls hm hP hD hS hl
      replace hm := mW3_s hm
      rw [Unpacker_readLengths_2] at hm
      refine lv_iload_n hx hb d_Unpacker_readLengths_2 rfl (lv_at hl 2 rfl) ?_
      refine lv_iload_n hx hb d_Unpacker_readLengths_3 rfl (lv_at hl 1 rfl) ?_
      refine lv_icmp_ge (tgt := 140) hx hb d_Unpacker_readLengths_4 (by decide) (fun c4 => ?_) (fun c4 => ?_)
      · replace hm := mC_t hm c4
        refine lv_iconst (v := 1) hx hb d_Unpacker_readLengths_140 (by decide) ?_
        replace hm := Option.some.inj hm
        subst hm
        exact hret d_Unpacker_readLengths_141 (by decide) (u := (c_lengths, v_in_at)) ⟨rfl, rfl⟩ hP hD hS
      · replace hm := mC_f hm c4
        refine lv_iload_n hx hb d_Unpacker_readLengths_7 rfl (lv_at hl 1 rfl) ?_
        refine lv_aload_n hx hb d_Unpacker_readLengths_8 rfl (lv_at hl 0 rfl) ?_
        refine va_get (D := E.1) (ci := 9) (v := .ref a_lengths) (C := R_Unpacker) (T := F_Unpacker) (N := 10) hx hb hts i_Unpacker hown hK hP 0 rfl rfl 7 (by decide) (hts _ tw_350) (fun _ h9 => h9) rfl d_Unpacker_readLengths_9 ?_
        refine va_alen (v := 320) hx hb hK hP 1 0 rfl rfl rfl d_Unpacker_readLengths_12 ?_
        refine lv_icmp_gt (tgt := 140) hx hb d_Unpacker_readLengths_13 (by decide) (fun c13 => ?_) (fun c13 => ?_)
        · replace hm := mC_t hm c13
          refine lv_iconst (v := 1) hx hb d_Unpacker_readLengths_140 (by decide) ?_
          replace hm := Option.some.inj hm
          subst hm
          exact hret d_Unpacker_readLengths_141 (by decide) (u := (c_lengths, v_in_at)) ⟨rfl, rfl⟩ hP hD hS
        · replace hm := mC_f hm c13
          refine lv_aload_n hx hb d_Unpacker_readLengths_16 rfl (lv_at hl 0 rfl) ?_
          refine va_get (D := E.1) (ci := 9) (v := .ref a_lengthCodes) (C := R_Unpacker) (T := F_Unpacker) (N := 10) hx hb hts i_Unpacker hown hK hP 0 rfl rfl 6 (by decide) (hts _ tw_349) (fun _ h9 => h9) rfl d_Unpacker_readLengths_17 ?_
          refine lv_aload_n hx hb d_Unpacker_readLengths_20 rfl (lv_at hl 0 rfl) ?_
          refine va_get (D := E.1) (ci := 9) (v := .ref a_in) (C := R_Unpacker) (T := F_Unpacker) (N := 10) hx hb hts i_Unpacker hown hK hP 0 rfl rfl 0 (by decide) (hts _ tw_343) (fun _ h9 => h9) rfl d_Unpacker_readLengths_21 ?_
          obtain ⟨r_2, v_p1_at_1, hc24, hm⟩ := mR1_e hm
          refine xmi (wc := (Table_next_w E a_in a_in_row a_in_row_data a_lengthCodes a_lengthCodes_counts a_lengthCodes_symbols n_in_row_data n_lengthCodes_symbols x_lengthCodes_offsets v_in_end v_in_row_length c_in_row_data c_lengthCodes_counts c_lengthCodes_symbols v_in_at)) [false, false, true, true, true, true, true, true] [0, 1, 2, 3, 4, 5] [0, 1, 2, 3, 4, 5] hP hD hS hA rfl (by decide) (by decide) 6 (by decide) (fun _ => rfl) (fun hPc hDc hFc => va_runV (As := [.ref a_in]) (rest := []) ⟨hx, hb, hml, hown, hts⟩ (c_Table_next l E F H.size a_in a_in_row a_in_row_data a_lengthCodes a_lengthCodes_counts a_lengthCodes_symbols n_in_row_data n_lengthCodes_symbols x_lengthCodes_offsets v_in_end v_in_row_length c_in_row_data c_lengthCodes_counts c_lengthCodes_symbols v_in_at (r_2, v_p1_at_1) hc24) (cwV 1 hts (x_gV tw_734 tw_735 tw_736 tw_78 tw_737) rfl rfl rfl (by decide +kernel) ⟨Nat.le_of_ble_eq_true rfl, Nat.le_of_ble_eq_true rfl⟩) (xPV 8 3 rfl rfl hPc hDc hFc hK hI hN hS) rfl rfl hl.1 rfl (lv_room (Nat.le_of_ble_eq_true rfl)) d_Unpacker_readLengths_24 ⟨Nat.le_of_ble_eq_true rfl, Nat.le_of_ble_eq_true rfl⟩) (fun r9 u9 H locs hw hP hD hS => ?_)
          have hw1 : r_2 = r9 := hw.1.symm
          subst hw1
          have hw2 : v_p1_at_1 = u9 := hw.2.symm
          subst hw2
          replace hP : va_P E.1 vwCl (Unpacker_readLengths_w E a_this a_lengths a_in a_in_row a_in_row_data a_lengthCodes a_lengthCodes_counts a_lengthCodes_symbols n_in_row_data n_lengthCodes_symbols x_out x_fixedSymbols x_fixedDistances x_madeSymbols x_madeDistances x_lengthCodes_offsets v_in_end v_in_row_length c_in_row_data c_lengthCodes_counts c_lengthCodes_symbols c_lengths v_p1_at_1 v_outStart v_farthest) H := hP
          replace hD : va_D A (Unpacker_readLengths_w E a_this a_lengths a_in a_in_row a_in_row_data a_lengthCodes a_lengthCodes_counts a_lengthCodes_symbols n_in_row_data n_lengthCodes_symbols x_out x_fixedSymbols x_fixedDistances x_madeSymbols x_madeDistances x_lengthCodes_offsets v_in_end v_in_row_length c_in_row_data c_lengthCodes_counts c_lengthCodes_symbols c_lengths v_p1_at_1 v_outStart v_farthest) := hD
          refine lv_istore_n (lv' := [(3, .int r_2), (0, .ref a_this), (1, .int x1), (2, .int x2)]) hx hb d_Unpacker_readLengths_27 rfl hl (by decide) rfl (fun ls hl => ?_)
          refine lv_aload_n hx hb d_Unpacker_readLengths_28 rfl (lv_at hl 1 rfl) ?_
          refine va_get (D := E.1) (ci := 9) (v := .ref a_in) (C := R_Unpacker) (T := F_Unpacker) (N := 10) hx hb hts i_Unpacker hown hK hP 0 rfl rfl 0 (by decide) (hts _ tw_343) (fun _ h9 => h9) rfl d_Unpacker_readLengths_29 ?_
          refine lv_iload_n hx hb d_Unpacker_readLengths_32 rfl (lv_at hl 0 rfl) ?_
          obtain ⟨r_3, hc33, hm⟩ := mR0_e hm
          refine xmi (wc := (P_repeatExtra_w E)) [false, false, false, false, false, false, false, false] [] [] hP hD hS hA rfl (by decide) (by decide) 0 (by decide) (fun _ => rfl) (fun hPc hDc hFc => va_runSN (As := [.int r_2]) (rest := [.ref a_in]) ⟨hx, hb, hml, hown, hts⟩ (c_P_repeatExtra l E F H.size r_2 (r_3, ()) hc33) ⟨(va_cnB 1 hts (x_g tw_575) rfl rfl rfl (nM_15 hN) (hts _ tw_66) (by decide +kernel) ⟨Nat.le_of_ble_eq_true rfl, Nat.le_of_ble_eq_true rfl⟩), (hts _ tw_574), trivial⟩ (xPS hPc hDc hFc hK hI hN hS) rfl rfl hl.1 rfl (lv_room (Nat.le_of_ble_eq_true rfl)) d_Unpacker_readLengths_33 ⟨Nat.le_of_ble_eq_true rfl, Nat.le_of_ble_eq_true rfl⟩) (fun r9 u9 H locs hw hP hD hS => ?_)
          have hw1 : r_3 = r9 := hw.1.symm
          subst hw1
          replace hP : va_P E.1 vwCl (Unpacker_readLengths_w E a_this a_lengths a_in a_in_row a_in_row_data a_lengthCodes a_lengthCodes_counts a_lengthCodes_symbols n_in_row_data n_lengthCodes_symbols x_out x_fixedSymbols x_fixedDistances x_madeSymbols x_madeDistances x_lengthCodes_offsets v_in_end v_in_row_length c_in_row_data c_lengthCodes_counts c_lengthCodes_symbols c_lengths v_p1_at_1 v_outStart v_farthest) H := hP
          replace hD : va_D A (Unpacker_readLengths_w E a_this a_lengths a_in a_in_row a_in_row_data a_lengthCodes a_lengthCodes_counts a_lengthCodes_symbols n_in_row_data n_lengthCodes_symbols x_out x_fixedSymbols x_fixedDistances x_madeSymbols x_madeDistances x_lengthCodes_offsets v_in_end v_in_row_length c_in_row_data c_lengthCodes_counts c_lengthCodes_symbols c_lengths v_p1_at_1 v_outStart v_farthest) := hD
          obtain ⟨r_5, v_at_4, hc36, hm⟩ := mR1_e hm
          refine xmi (wc := (BitReader_number_w E a_in a_in_row a_in_row_data n_in_row_data v_in_end v_in_row_length c_in_row_data v_p1_at_1)) [false, false, true, true, true, false, false, false] [0, 1, 2] [0, 1, 2] hP hD hS hA rfl (by decide) (by decide) 3 (by decide) (fun _ => rfl) (fun hPc hDc hFc => va_runV (As := [.int r_3]) (rest := []) ⟨hx, hb, hml, hown, hts⟩ (c_BitReader_number l E F H.size a_in a_in_row a_in_row_data n_in_row_data v_in_end v_in_row_length c_in_row_data v_p1_at_1 r_3 (r_5, v_at_4) hc36) (cwV 1 hts (x_gV tw_706 tw_707 tw_708 tw_77 tw_709) rfl rfl rfl (by decide +kernel) ⟨Nat.le_of_ble_eq_true rfl, Nat.le_of_ble_eq_true rfl⟩) (xPV 0 0 rfl rfl hPc hDc hFc hK hI hN hS) rfl rfl hl.1 rfl (lv_room (Nat.le_of_ble_eq_true rfl)) d_Unpacker_readLengths_36 ⟨Nat.le_of_ble_eq_true rfl, Nat.le_of_ble_eq_true rfl⟩) (fun r9 u9 H locs hw hP hD hS => ?_)
          have hw1 : r_5 = r9 := hw.1.symm
          subst hw1
          have hw2 : v_at_4 = u9 := hw.2.symm
          subst hw2
          replace hP : va_P E.1 vwCl (Unpacker_readLengths_w E a_this a_lengths a_in a_in_row a_in_row_data a_lengthCodes a_lengthCodes_counts a_lengthCodes_symbols n_in_row_data n_lengthCodes_symbols x_out x_fixedSymbols x_fixedDistances x_madeSymbols x_madeDistances x_lengthCodes_offsets v_in_end v_in_row_length c_in_row_data c_lengthCodes_counts c_lengthCodes_symbols c_lengths v_at_4 v_outStart v_farthest) H := hP
          replace hD : va_D A (Unpacker_readLengths_w E a_this a_lengths a_in a_in_row a_in_row_data a_lengthCodes a_lengthCodes_counts a_lengthCodes_symbols n_in_row_data n_lengthCodes_symbols x_out x_fixedSymbols x_fixedDistances x_madeSymbols x_madeDistances x_lengthCodes_offsets v_in_end v_in_row_length c_in_row_data c_lengthCodes_counts c_lengthCodes_symbols c_lengths v_at_4 v_outStart v_farthest) := hD
          refine lv_istore (lv' := [(4, .int r_5), (3, .int r_2), (0, .ref a_this), (1, .int x1), (2, .int x2)]) hx hb d_Unpacker_readLengths_39 hl (by decide) rfl (fun ls hl => ?_)
          refine lv_iload_n hx hb d_Unpacker_readLengths_41 rfl (lv_at hl 1 rfl) ?_
          refine lv_if_lt (tgt := 60) hx hb d_Unpacker_readLengths_42 (by decide) (fun c42 => ?_) (fun c42 => ?_)
          · replace hm := mC_t hm c42
            refine lv_iconst (v := 0) hx hb d_Unpacker_readLengths_60 (by decide) ?_
            replace hm := Option.some.inj hm
            subst hm
            exact hret d_Unpacker_readLengths_61 (by decide) (u := (c_lengths, v_at_4)) ⟨rfl, rfl⟩ hP hD hS
          · replace hm := mC_f hm c42
            refine lv_iload hx hb d_Unpacker_readLengths_45 (lv_at hl 0 rfl) ?_
            refine lv_if_lt (tgt := 60) hx hb d_Unpacker_readLengths_47 (by decide) (fun c47 => ?_) (fun c47 => ?_)
            · replace hm := mC_t hm c47
              refine lv_iconst (v := 0) hx hb d_Unpacker_readLengths_60 (by decide) ?_
              replace hm := Option.some.inj hm
              subst hm
              exact hret d_Unpacker_readLengths_61 (by decide) (u := (c_lengths, v_at_4)) ⟨rfl, rfl⟩ hP hD hS
            · replace hm := mC_f hm c47
              have h_62 : ∀ (c_lengths : Nat → Int32) (v_in_at : Int32) (x2 : Int32) (x3 : Int32) (x4 : Int32) (H : Heap) (locs : List Loc) (ls : Array Slot), (Unpacker_readLengths_62 F x1 (mW3 (Unpacker_readLengths_2 F n_in_row_data n_lengthCodes_symbols v_in_end v_in_row_length c_in_row_data c_lengthCodes_counts c_lengthCodes_symbols x1) n_2)) c_lengths v_in_at x2 x3 x4 = some res → va_P E.1 vwCl (Unpacker_readLengths_w E a_this a_lengths a_in a_in_row a_in_row_data a_lengthCodes a_lengthCodes_counts a_lengthCodes_symbols n_in_row_data n_lengthCodes_symbols x_out x_fixedSymbols x_fixedDistances x_madeSymbols x_madeDistances x_lengthCodes_offsets v_in_end v_in_row_length c_in_row_data c_lengthCodes_counts c_lengthCodes_symbols c_lengths v_in_at v_outStart v_farthest) H → va_D A (Unpacker_readLengths_w E a_this a_lengths a_in a_in_row a_in_row_data a_lengthCodes a_lengthCodes_counts a_lengthCodes_symbols n_in_row_data n_lengthCodes_symbols x_out x_fixedSymbols x_fixedDistances x_madeSymbols x_madeDistances x_lengthCodes_offsets v_in_end v_in_row_length c_in_row_data c_lengthCodes_counts c_lengthCodes_symbols c_lengths v_in_at v_outStart v_farthest) → va_S A s.heap H locs → lv_has ls 8 [(0, .ref a_this), (1, .int x1), (2, .int x2), (3, .int x3), (4, .int x4)] → W p l e Unpacker_readLengths_rm s m args below meth c H locs 0 0 Q (F0 m 62 ls []) := by
                intro c_lengths v_in_at x2 x3 x4 H locs ls hm hP hD hS hl
                rw [Unpacker_readLengths_62] at hm
                refine lv_iload_n hx hb d_Unpacker_readLengths_62 rfl (lv_at hl 3 rfl) ?_
                obtain ⟨r_6, hc63, hm⟩ := mR0_e hm
                refine xmi (wc := (P_repeatBase_w E)) [false, false, false, false, false, false, false, false] [] [] hP hD hS hA rfl (by decide) (by decide) 0 (by decide) (fun _ => rfl) (fun hPc hDc hFc => va_runSN (As := [.int x3]) (rest := []) ⟨hx, hb, hml, hown, hts⟩ (c_P_repeatBase l E F H.size x3 (r_6, ()) hc63) ⟨(va_cnB 1 hts (x_g tw_567) rfl rfl rfl (nM_16 hN) (hts _ tw_66) (by decide +kernel) ⟨Nat.le_of_ble_eq_true rfl, Nat.le_of_ble_eq_true rfl⟩), (hts _ tw_566), trivial⟩ (xPS hPc hDc hFc hK hI hN hS) rfl rfl hl.1 rfl (lv_room (Nat.le_of_ble_eq_true rfl)) d_Unpacker_readLengths_63 ⟨Nat.le_of_ble_eq_true rfl, Nat.le_of_ble_eq_true rfl⟩) (fun r9 u9 H locs hw hP hD hS => ?_)
                have hw1 : r_6 = r9 := hw.1.symm
                subst hw1
                replace hP : va_P E.1 vwCl (Unpacker_readLengths_w E a_this a_lengths a_in a_in_row a_in_row_data a_lengthCodes a_lengthCodes_counts a_lengthCodes_symbols n_in_row_data n_lengthCodes_symbols x_out x_fixedSymbols x_fixedDistances x_madeSymbols x_madeDistances x_lengthCodes_offsets v_in_end v_in_row_length c_in_row_data c_lengthCodes_counts c_lengthCodes_symbols c_lengths v_in_at v_outStart v_farthest) H := hP
                replace hD : va_D A (Unpacker_readLengths_w E a_this a_lengths a_in a_in_row a_in_row_data a_lengthCodes a_lengthCodes_counts a_lengthCodes_symbols n_in_row_data n_lengthCodes_symbols x_out x_fixedSymbols x_fixedDistances x_madeSymbols x_madeDistances x_lengthCodes_offsets v_in_end v_in_row_length c_in_row_data c_lengthCodes_counts c_lengthCodes_symbols c_lengths v_in_at v_outStart v_farthest) := hD
                refine lv_iload hx hb d_Unpacker_readLengths_66 (lv_at hl 4 rfl) ?_
                refine lv_iadd hx hb d_Unpacker_readLengths_68 ?_
                refine lv_topi (fun y5_7 ey5_7 => ?_)
                replace hm := mL_e hm y5_7 ey5_7
                refine lv_istore (lv' := [(5, .int y5_7), (0, .ref a_this), (1, .int x1), (2, .int x2), (3, .int x3), (4, .int x4)]) hx hb d_Unpacker_readLengths_69 hl (by decide) rfl (fun ls hl => ?_)
                refine lv_iload hx hb d_Unpacker_readLengths_71 (lv_at hl 0 rfl) ?_
                refine lv_iload_n hx hb d_Unpacker_readLengths_73 rfl (lv_at hl 2 rfl) ?_
                refine lv_iload_n hx hb d_Unpacker_readLengths_74 rfl (lv_at hl 3 rfl) ?_
                refine lv_isub hx hb d_Unpacker_readLengths_75 ?_
                refine lv_icmp_le (tgt := 81) hx hb d_Unpacker_readLengths_76 (by decide) (fun c76 => ?_) (fun c76 => ?_)
                · replace hm := mC_t hm c76
                  have h_109 : ∀ (c_lengths : Nat → Int32) (v_in_at : Int32) (x2 : Int32) (x5 : Int32) (s0 : Int32) (H : Heap) (locs : List Loc) (ls : Array Slot), (Unpacker_readLengths_109 F (mW3 (Unpacker_readLengths_2 F n_in_row_data n_lengthCodes_symbols v_in_end v_in_row_length c_in_row_data c_lengthCodes_counts c_lengthCodes_symbols x1) n_2)) c_lengths v_in_at x2 x5 s0 = some res → va_P E.1 vwCl (Unpacker_readLengths_w E a_this a_lengths a_in a_in_row a_in_row_data a_lengthCodes a_lengthCodes_counts a_lengthCodes_symbols n_in_row_data n_lengthCodes_symbols x_out x_fixedSymbols x_fixedDistances x_madeSymbols x_madeDistances x_lengthCodes_offsets v_in_end v_in_row_length c_in_row_data c_lengthCodes_counts c_lengthCodes_symbols c_lengths v_in_at v_outStart v_farthest) H → va_D A (Unpacker_readLengths_w E a_this a_lengths a_in a_in_row a_in_row_data a_lengthCodes a_lengthCodes_counts a_lengthCodes_symbols n_in_row_data n_lengthCodes_symbols x_out x_fixedSymbols x_fixedDistances x_madeSymbols x_madeDistances x_lengthCodes_offsets v_in_end v_in_row_length c_in_row_data c_lengthCodes_counts c_lengthCodes_symbols c_lengths v_in_at v_outStart v_farthest) → va_S A s.heap H locs → lv_has ls 8 [(0, .ref a_this), (1, .int x1), (2, .int x2), (5, .int x5)] → W p l e Unpacker_readLengths_rm s m args below meth c H locs 0 0 Q (F0 m 109 ls [.int s0]) := by
                    intro c_lengths v_in_at x2 x5 s0 H locs ls hm hP hD hS hl
                    rw [Unpacker_readLengths_109] at hm
                    have h_137 : ∀ (c_lengths : Nat → Int32) (v_in_at : Int32) (x2 : Int32) (H : Heap) (locs : List Loc) (ls : Array Slot), (Unpacker_readLengths_137 F (mW3 (Unpacker_readLengths_2 F n_in_row_data n_lengthCodes_symbols v_in_end v_in_row_length c_in_row_data c_lengthCodes_counts c_lengthCodes_symbols x1) n_2)) c_lengths v_in_at x2 = some res → va_P E.1 vwCl (Unpacker_readLengths_w E a_this a_lengths a_in a_in_row a_in_row_data a_lengthCodes a_lengthCodes_counts a_lengthCodes_symbols n_in_row_data n_lengthCodes_symbols x_out x_fixedSymbols x_fixedDistances x_madeSymbols x_madeDistances x_lengthCodes_offsets v_in_end v_in_row_length c_in_row_data c_lengthCodes_counts c_lengthCodes_symbols c_lengths v_in_at v_outStart v_farthest) H → va_D A (Unpacker_readLengths_w E a_this a_lengths a_in a_in_row a_in_row_data a_lengthCodes a_lengthCodes_counts a_lengthCodes_symbols n_in_row_data n_lengthCodes_symbols x_out x_fixedSymbols x_fixedDistances x_madeSymbols x_madeDistances x_lengthCodes_offsets v_in_end v_in_row_length c_in_row_data c_lengthCodes_counts c_lengthCodes_symbols c_lengths v_in_at v_outStart v_farthest) → va_S A s.heap H locs → lv_has ls 8 [(0, .ref a_this), (1, .int x1), (2, .int x2)] → W p l e Unpacker_readLengths_rm s m args below meth c H locs 0 0 Q (F0 m 137 ls []) := by
                      intro c_lengths v_in_at x2 H locs ls hm hP hD hS hl
                      rw [Unpacker_readLengths_137] at hm
                      refine lv_goto (tgt := 2) hx hb d_Unpacker_readLengths_137 (by decide) ?_
                      exact ih_2 _ _ _ H locs ls hm hP hD hS hl
                    have h_117 : ∀ (n_117 : Nat) (c_lengths : Nat → Int32) (v_in_at : Int32) (x2 : Int32) (x6 : Int32) (x7 : Int32) (H : Heap) (locs : List Loc) (ls : Array Slot), (mW5 (Unpacker_readLengths_117 F (Unpacker_readLengths_137 F (mW3 (Unpacker_readLengths_2 F n_in_row_data n_lengthCodes_symbols v_in_end v_in_row_length c_in_row_data c_lengthCodes_counts c_lengthCodes_symbols x1) n_2))) n_117) c_lengths v_in_at x2 x6 x7 = some res → va_P E.1 vwCl (Unpacker_readLengths_w E a_this a_lengths a_in a_in_row a_in_row_data a_lengthCodes a_lengthCodes_counts a_lengthCodes_symbols n_in_row_data n_lengthCodes_symbols x_out x_fixedSymbols x_fixedDistances x_madeSymbols x_madeDistances x_lengthCodes_offsets v_in_end v_in_row_length c_in_row_data c_lengthCodes_counts c_lengthCodes_symbols c_lengths v_in_at v_outStart v_farthest) H → va_D A (Unpacker_readLengths_w E a_this a_lengths a_in a_in_row a_in_row_data a_lengthCodes a_lengthCodes_counts a_lengthCodes_symbols n_in_row_data n_lengthCodes_symbols x_out x_fixedSymbols x_fixedDistances x_madeSymbols x_madeDistances x_lengthCodes_offsets v_in_end v_in_row_length c_in_row_data c_lengthCodes_counts c_lengthCodes_symbols c_lengths v_in_at v_outStart v_farthest) → va_S A s.heap H locs → lv_has ls 8 [(0, .ref a_this), (1, .int x1), (2, .int x2), (6, .int x6), (7, .int x7)] → W p l e Unpacker_readLengths_rm s m args below meth c H locs 0 0 Q (F0 m 117 ls []) := by
                      intro n_117
                      induction n_117 with
                      | zero => exact fun _ _ _ _ _ _ _ _ hm _ _ _ _ => (mW5_z hm).elim
                      | succ n_117 ih_117 =>
                        intro c_lengths v_in_at x2 x6 x7 H locs ls hm hP hD hS hl
                        replace hm := mW5_s hm
                        rw [Unpacker_readLengths_117] at hm
                        refine lv_iload_n hx hb d_Unpacker_readLengths_117 rfl (lv_at hl 2 rfl) ?_
                        refine lv_iload hx hb d_Unpacker_readLengths_118 (lv_at hl 4 rfl) ?_
                        refine lv_icmp_ge (tgt := 137) hx hb d_Unpacker_readLengths_120 (by decide) (fun c120 => ?_) (fun c120 => ?_)
                        · replace hm := mC_t hm c120
                          exact h_137 _ _ _ H locs ls hm hP hD hS (lv_sub hl [0, 1, 2] rfl)
                        · replace hm := mC_f hm c120
                          refine lv_aload_n hx hb d_Unpacker_readLengths_123 rfl (lv_at hl 0 rfl) ?_
                          refine va_get (D := E.1) (ci := 9) (v := .ref a_lengths) (C := R_Unpacker) (T := F_Unpacker) (N := 10) hx hb hts i_Unpacker hown hK hP 0 rfl rfl 7 (by decide) (hts _ tw_350) (fun _ h9 => h9) rfl d_Unpacker_readLengths_124 ?_
                          refine lv_iload_n hx hb d_Unpacker_readLengths_127 rfl (lv_at hl 2 rfl) ?_
                          refine lv_iload hx hb d_Unpacker_readLengths_128 (lv_at hl 3 rfl) ?_
                          obtain ⟨hi130, hm⟩ := mG_e hm
                          obtain ⟨c_8, ec_8⟩ : ∃ z : Nat → Int32, z = upd c_lengths x2.toNatClampNeg x6 := ⟨_, rfl⟩
                          replace hm := mL_e hm c_8 ec_8
                          refine va_iast hx hb hK hP hD hS 1 0 rfl rfl hi130 d_Unpacker_readLengths_130 (fun H locs hP hD hS => ?_)
                          rw [← ec_8] at hP hD
                          replace hP : va_P E.1 vwCl (Unpacker_readLengths_w E a_this a_lengths a_in a_in_row a_in_row_data a_lengthCodes a_lengthCodes_counts a_lengthCodes_symbols n_in_row_data n_lengthCodes_symbols x_out x_fixedSymbols x_fixedDistances x_madeSymbols x_madeDistances x_lengthCodes_offsets v_in_end v_in_row_length c_in_row_data c_lengthCodes_counts c_lengthCodes_symbols c_8 v_in_at v_outStart v_farthest) H := hP
                          replace hD : va_D A (Unpacker_readLengths_w E a_this a_lengths a_in a_in_row a_in_row_data a_lengthCodes a_lengthCodes_counts a_lengthCodes_symbols n_in_row_data n_lengthCodes_symbols x_out x_fixedSymbols x_fixedDistances x_madeSymbols x_madeDistances x_lengthCodes_offsets v_in_end v_in_row_length c_in_row_data c_lengthCodes_counts c_lengthCodes_symbols c_8 v_in_at v_outStart v_farthest) := hD
                          obtain ⟨y2_9, ey2_9⟩ : ∃ y : Int32, y = x2 + 1 := ⟨_, rfl⟩
                          replace hm := mL_e hm y2_9 ey2_9
                          refine lv_iinc (v := y2_9) (lv' := [(2, .int y2_9), (0, .ref a_this), (1, .int x1), (6, .int x6), (7, .int x7)]) hx hb d_Unpacker_readLengths_131 hl (k := 2) rfl (by rw [ey2_9]; rfl) (by decide) rfl (fun ls hl => ?_)
                          refine lv_goto (tgt := 117) hx hb d_Unpacker_readLengths_134 (by decide) ?_
                          exact ih_117 _ _ _ _ _ H locs ls hm hP hD hS (lv_sub hl [1, 2, 0, 3, 4] rfl)
                    refine lv_istore (lv' := [(6, .int s0), (0, .ref a_this), (1, .int x1), (2, .int x2), (5, .int x5)]) hx hb d_Unpacker_readLengths_109 hl (by decide) rfl (fun ls hl => ?_)
                    refine lv_iload_n hx hb d_Unpacker_readLengths_111 rfl (lv_at hl 3 rfl) ?_
                    refine lv_iload hx hb d_Unpacker_readLengths_112 (lv_at hl 4 rfl) ?_
                    refine lv_iadd hx hb d_Unpacker_readLengths_114 ?_
                    refine lv_topi (fun y7_10 ey7_10 => ?_)
                    replace hm := mL_e hm y7_10 ey7_10
                    refine lv_istore (lv' := [(7, .int y7_10), (6, .int s0), (0, .ref a_this), (1, .int x1), (2, .int x2), (5, .int x5)]) hx hb d_Unpacker_readLengths_115 hl (by decide) rfl (fun ls hl => ?_)
                    exact h_117 F _ _ _ _ _ H locs ls hm hP hD hS (lv_sub hl [2, 3, 4, 1, 0] rfl)
                  refine lv_iload_n hx hb d_Unpacker_readLengths_81 rfl (lv_at hl 4 rfl) ?_
                  refine lv_bipush (v := 16) hx hb d_Unpacker_readLengths_82 (by decide) ?_
                  refine lv_icmp_ge (tgt := 91) hx hb d_Unpacker_readLengths_84 (by decide) (fun c84 => ?_) (fun c84 => ?_)
                  · replace hm := mC_t hm c84
                    refine lv_iload_n hx hb d_Unpacker_readLengths_91 rfl (lv_at hl 4 rfl) ?_
                    refine lv_bipush (v := 16) hx hb d_Unpacker_readLengths_92 (by decide) ?_
                    refine lv_icmp_ne (tgt := 108) hx hb d_Unpacker_readLengths_94 (by decide) (fun c94 => ?_) (fun c94 => ?_)
                    · replace hm := mC_f hm c94
                      refine lv_iconst (v := 0) hx hb d_Unpacker_readLengths_108 (by decide) ?_
                      exact h_109 _ _ _ _ _ H locs ls hm hP hD hS (lv_sub hl [1, 2, 3, 0] rfl)
                    · replace hm := mC_t hm c94
                      refine lv_aload_n hx hb d_Unpacker_readLengths_97 rfl (lv_at hl 1 rfl) ?_
                      refine va_get (D := E.1) (ci := 9) (v := .ref a_lengths) (C := R_Unpacker) (T := F_Unpacker) (N := 10) hx hb hts i_Unpacker hown hK hP 0 rfl rfl 7 (by decide) (hts _ tw_350) (fun _ h9 => h9) rfl d_Unpacker_readLengths_98 ?_
                      refine lv_iload_n hx hb d_Unpacker_readLengths_101 rfl (lv_at hl 3 rfl) ?_
                      refine lv_iconst (v := 1) hx hb d_Unpacker_readLengths_102 (by decide) ?_
                      refine lv_isub hx hb d_Unpacker_readLengths_103 ?_
                      refine lv_topi (fun i_11 ei_11 => ?_)
                      replace hm := mL_e hm i_11 ei_11
                      obtain ⟨hi104, hm⟩ := mG_e hm
                      refine va_iald hx hb hK hP 1 0 rfl rfl hi104 d_Unpacker_readLengths_104 ?_
                      refine lv_goto (tgt := 109) hx hb d_Unpacker_readLengths_105 (by decide) ?_
                      exact h_109 _ _ _ _ _ H locs ls hm hP hD hS (lv_sub hl [1, 2, 3, 0] rfl)
                  · replace hm := mC_f hm c84
                    refine lv_iload_n hx hb d_Unpacker_readLengths_87 rfl (lv_at hl 4 rfl) ?_
                    refine lv_goto (tgt := 109) hx hb d_Unpacker_readLengths_88 (by decide) ?_
                    exact h_109 _ _ _ _ _ H locs ls hm hP hD hS (lv_sub hl [1, 2, 3, 0] rfl)
                · replace hm := mC_f hm c76
                  refine lv_iconst (v := 0) hx hb d_Unpacker_readLengths_79 (by decide) ?_
                  replace hm := Option.some.inj hm
                  subst hm
                  exact hret d_Unpacker_readLengths_80 (by decide) (u := (c_lengths, v_in_at)) ⟨rfl, rfl⟩ hP hD hS
              refine lv_iload_n hx hb d_Unpacker_readLengths_50 rfl (lv_at hl 1 rfl) ?_
              refine lv_bipush (v := 16) hx hb d_Unpacker_readLengths_51 (by decide) ?_
              refine lv_icmp_ne (tgt := 62) hx hb d_Unpacker_readLengths_53 (by decide) (fun c53 => ?_) (fun c53 => ?_)
              · replace hm := mC_f hm c53
                exact h_62 _ _ _ _ _ H locs ls hm hP hD hS (lv_sub hl [2, 3, 4, 1, 0] rfl)
              · replace hm := mC_t hm c53
                refine lv_iload_n hx hb d_Unpacker_readLengths_56 rfl (lv_at hl 4 rfl) ?_
                refine lv_if_ne (tgt := 62) hx hb d_Unpacker_readLengths_57 (by decide) (fun c57 => ?_) (fun c57 => ?_)
                · replace hm := mC_f hm c57
                  exact h_62 _ _ _ _ _ H locs ls hm hP hD hS (lv_sub hl [2, 3, 4, 1, 0] rfl)
                · replace hm := mC_t hm c57
                  refine lv_iconst (v := 0) hx hb d_Unpacker_readLengths_60 (by decide) ?_
                  replace hm := Option.some.inj hm
                  subst hm
                  exact hret d_Unpacker_readLengths_61 (by decide) (u := (c_lengths, v_at_4)) ⟨rfl, rfl⟩ hP hD hS
  refine lv_iconst (v := 0) hx hb d_Unpacker_readLengths_0 (by decide) ?_
  refine lv_istore_n (lv' := [(2, .int 0), (0, .ref a_this), (1, .int x1)]) hx hb d_Unpacker_readLengths_1 rfl hl (by decide) rfl (fun ls hl => ?_)
  exact h_2 F _ _ _ H locs ls hm hP hD hS (lv_sub hl [1, 2, 0] rfl)
theorem d_Unpacker_makeCodes_0 : decode b_Unpacker_makeCodes 0 = .ok (.aload_n 0, 1) := by decide +kernel
theorem d_Unpacker_makeCodes_1 : decode b_Unpacker_makeCodes 1 = .ok (.getfield 14, 3) := by decide +kernel
theorem d_Unpacker_makeCodes_4 : decode b_Unpacker_makeCodes 4 = .ok (.iconst 5, 1) := by decide +kernel
theorem d_Unpacker_makeCodes_5 : decode b_Unpacker_makeCodes 5 = .ok (.invokevirtual 82, 3) := by decide +kernel
theorem d_Unpacker_makeCodes_8 : decode b_Unpacker_makeCodes 8 = .ok (.istore_n 1, 1) := by decide +kernel
theorem d_Unpacker_makeCodes_9 : decode b_Unpacker_makeCodes 9 = .ok (.aload_n 0, 1) := by decide +kernel
theorem d_Unpacker_makeCodes_10 : decode b_Unpacker_makeCodes 10 = .ok (.getfield 14, 3) := by decide +kernel
theorem d_Unpacker_makeCodes_13 : decode b_Unpacker_makeCodes 13 = .ok (.iconst 5, 1) := by decide +kernel
theorem d_Unpacker_makeCodes_14 : decode b_Unpacker_makeCodes 14 = .ok (.invokevirtual 82, 3) := by decide +kernel
theorem d_Unpacker_makeCodes_17 : decode b_Unpacker_makeCodes 17 = .ok (.istore_n 2, 1) := by decide +kernel
theorem d_Unpacker_makeCodes_18 : decode b_Unpacker_makeCodes 18 = .ok (.aload_n 0, 1) := by decide +kernel
theorem d_Unpacker_makeCodes_19 : decode b_Unpacker_makeCodes 19 = .ok (.getfield 14, 3) := by decide +kernel
theorem d_Unpacker_makeCodes_22 : decode b_Unpacker_makeCodes 22 = .ok (.iconst 4, 1) := by decide +kernel
theorem d_Unpacker_makeCodes_23 : decode b_Unpacker_makeCodes 23 = .ok (.invokevirtual 82, 3) := by decide +kernel
theorem d_Unpacker_makeCodes_26 : decode b_Unpacker_makeCodes 26 = .ok (.istore_n 3, 1) := by decide +kernel
theorem d_Unpacker_makeCodes_27 : decode b_Unpacker_makeCodes 27 = .ok (.iload_n 1, 1) := by decide +kernel
theorem d_Unpacker_makeCodes_28 : decode b_Unpacker_makeCodes 28 = .ok (.ifCond .lt 23, 3) := by decide +kernel
theorem d_Unpacker_makeCodes_31 : decode b_Unpacker_makeCodes 31 = .ok (.iload_n 1, 1) := by decide +kernel
theorem d_Unpacker_makeCodes_32 : decode b_Unpacker_makeCodes 32 = .ok (.bipush 29, 2) := by decide +kernel
theorem d_Unpacker_makeCodes_34 : decode b_Unpacker_makeCodes 34 = .ok (.if_icmp .gt 17, 3) := by decide +kernel
theorem d_Unpacker_makeCodes_37 : decode b_Unpacker_makeCodes 37 = .ok (.iload_n 2, 1) := by decide +kernel
theorem d_Unpacker_makeCodes_38 : decode b_Unpacker_makeCodes 38 = .ok (.ifCond .lt 13, 3) := by decide +kernel
theorem d_Unpacker_makeCodes_41 : decode b_Unpacker_makeCodes 41 = .ok (.iload_n 2, 1) := by decide +kernel
theorem d_Unpacker_makeCodes_42 : decode b_Unpacker_makeCodes 42 = .ok (.bipush 29, 2) := by decide +kernel
theorem d_Unpacker_makeCodes_44 : decode b_Unpacker_makeCodes 44 = .ok (.if_icmp .gt 7, 3) := by decide +kernel
theorem d_Unpacker_makeCodes_47 : decode b_Unpacker_makeCodes 47 = .ok (.iload_n 3, 1) := by decide +kernel
theorem d_Unpacker_makeCodes_48 : decode b_Unpacker_makeCodes 48 = .ok (.ifCond .ge 5, 3) := by decide +kernel
theorem d_Unpacker_makeCodes_51 : decode b_Unpacker_makeCodes 51 = .ok (.iconst 0, 1) := by decide +kernel
theorem d_Unpacker_makeCodes_52 : decode b_Unpacker_makeCodes 52 = .ok (.ireturn, 1) := by decide +kernel
theorem d_Unpacker_makeCodes_53 : decode b_Unpacker_makeCodes 53 = .ok (.aload_n 0, 1) := by decide +kernel
theorem d_Unpacker_makeCodes_54 : decode b_Unpacker_makeCodes 54 = .ok (.getfield 45, 3) := by decide +kernel
theorem d_Unpacker_makeCodes_57 : decode b_Unpacker_makeCodes 57 = .ok (.iconst 0, 1) := by decide +kernel
theorem d_Unpacker_makeCodes_58 : decode b_Unpacker_makeCodes 58 = .ok (.invokestatic 57, 3) := by decide +kernel
theorem d_Unpacker_makeCodes_61 : decode b_Unpacker_makeCodes 61 = .ok (.iconst 0, 1) := by decide +kernel
theorem d_Unpacker_makeCodes_62 : decode b_Unpacker_makeCodes 62 = .ok (.istore 4, 2) := by decide +kernel
theorem d_Unpacker_makeCodes_64 : decode b_Unpacker_makeCodes 64 = .ok (.iload 4, 2) := by decide +kernel
theorem d_Unpacker_makeCodes_66 : decode b_Unpacker_makeCodes 66 = .ok (.iload_n 3, 1) := by decide +kernel
theorem d_Unpacker_makeCodes_67 : decode b_Unpacker_makeCodes 67 = .ok (.iconst 4, 1) := by decide +kernel
theorem d_Unpacker_makeCodes_68 : decode b_Unpacker_makeCodes 68 = .ok (.iadd, 1) := by decide +kernel
theorem d_Unpacker_makeCodes_69 : decode b_Unpacker_makeCodes 69 = .ok (.if_icmp .ge 48, 3) := by decide +kernel
theorem d_Unpacker_makeCodes_72 : decode b_Unpacker_makeCodes 72 = .ok (.iload 4, 2) := by decide +kernel
theorem d_Unpacker_makeCodes_74 : decode b_Unpacker_makeCodes 74 = .ok (.getstatic 118, 3) := by decide +kernel
theorem d_Unpacker_makeCodes_77 : decode b_Unpacker_makeCodes 77 = .ok (.arraylength, 1) := by decide +kernel
theorem d_Unpacker_makeCodes_78 : decode b_Unpacker_makeCodes 78 = .ok (.if_icmp .ge 39, 3) := by decide +kernel
theorem d_Unpacker_makeCodes_81 : decode b_Unpacker_makeCodes 81 = .ok (.aload_n 0, 1) := by decide +kernel
theorem d_Unpacker_makeCodes_82 : decode b_Unpacker_makeCodes 82 = .ok (.getfield 14, 3) := by decide +kernel
theorem d_Unpacker_makeCodes_85 : decode b_Unpacker_makeCodes 85 = .ok (.iconst 3, 1) := by decide +kernel
theorem d_Unpacker_makeCodes_86 : decode b_Unpacker_makeCodes 86 = .ok (.invokevirtual 82, 3) := by decide +kernel
theorem d_Unpacker_makeCodes_89 : decode b_Unpacker_makeCodes 89 = .ok (.istore 5, 2) := by decide +kernel
theorem d_Unpacker_makeCodes_91 : decode b_Unpacker_makeCodes 91 = .ok (.iload 5, 2) := by decide +kernel
theorem d_Unpacker_makeCodes_93 : decode b_Unpacker_makeCodes 93 = .ok (.ifCond .ge 5, 3) := by decide +kernel
theorem d_Unpacker_makeCodes_96 : decode b_Unpacker_makeCodes 96 = .ok (.iconst 0, 1) := by decide +kernel
theorem d_Unpacker_makeCodes_97 : decode b_Unpacker_makeCodes 97 = .ok (.ireturn, 1) := by decide +kernel
theorem d_Unpacker_makeCodes_98 : decode b_Unpacker_makeCodes 98 = .ok (.aload_n 0, 1) := by decide +kernel
theorem d_Unpacker_makeCodes_99 : decode b_Unpacker_makeCodes 99 = .ok (.getfield 45, 3) := by decide +kernel
theorem d_Unpacker_makeCodes_102 : decode b_Unpacker_makeCodes 102 = .ok (.getstatic 118, 3) := by decide +kernel
theorem d_Unpacker_makeCodes_105 : decode b_Unpacker_makeCodes 105 = .ok (.iload 4, 2) := by decide +kernel
theorem d_Unpacker_makeCodes_107 : decode b_Unpacker_makeCodes 107 = .ok (.iaload, 1) := by decide +kernel
theorem d_Unpacker_makeCodes_108 : decode b_Unpacker_makeCodes 108 = .ok (.iload 5, 2) := by decide +kernel
theorem d_Unpacker_makeCodes_110 : decode b_Unpacker_makeCodes 110 = .ok (.iastore, 1) := by decide +kernel
theorem d_Unpacker_makeCodes_111 : decode b_Unpacker_makeCodes 111 = .ok (.iinc 4 1, 3) := by decide +kernel
theorem d_Unpacker_makeCodes_114 : decode b_Unpacker_makeCodes 114 = .ok (.goto (-50), 3) := by decide +kernel
theorem d_Unpacker_makeCodes_117 : decode b_Unpacker_makeCodes 117 = .ok (.iload_n 1, 1) := by decide +kernel
theorem d_Unpacker_makeCodes_118 : decode b_Unpacker_makeCodes 118 = .ok (.sipush 257, 3) := by decide +kernel
theorem d_Unpacker_makeCodes_121 : decode b_Unpacker_makeCodes 121 = .ok (.iadd, 1) := by decide +kernel
theorem d_Unpacker_makeCodes_122 : decode b_Unpacker_makeCodes 122 = .ok (.istore 4, 2) := by decide +kernel
theorem d_Unpacker_makeCodes_124 : decode b_Unpacker_makeCodes 124 = .ok (.iload_n 2, 1) := by decide +kernel
theorem d_Unpacker_makeCodes_125 : decode b_Unpacker_makeCodes 125 = .ok (.iconst 1, 1) := by decide +kernel
theorem d_Unpacker_makeCodes_126 : decode b_Unpacker_makeCodes 126 = .ok (.iadd, 1) := by decide +kernel
theorem d_Unpacker_makeCodes_127 : decode b_Unpacker_makeCodes 127 = .ok (.istore 5, 2) := by decide +kernel
theorem d_Unpacker_makeCodes_129 : decode b_Unpacker_makeCodes 129 = .ok (.aload_n 0, 1) := by decide +kernel
theorem d_Unpacker_makeCodes_130 : decode b_Unpacker_makeCodes 130 = .ok (.getfield 42, 3) := by decide +kernel
theorem d_Unpacker_makeCodes_133 : decode b_Unpacker_makeCodes 133 = .ok (.aload_n 0, 1) := by decide +kernel
theorem d_Unpacker_makeCodes_134 : decode b_Unpacker_makeCodes 134 = .ok (.getfield 45, 3) := by decide +kernel
theorem d_Unpacker_makeCodes_137 : decode b_Unpacker_makeCodes 137 = .ok (.iconst 0, 1) := by decide +kernel
theorem d_Unpacker_makeCodes_138 : decode b_Unpacker_makeCodes 138 = .ok (.bipush 19, 2) := by decide +kernel
theorem d_Unpacker_makeCodes_140 : decode b_Unpacker_makeCodes 140 = .ok (.iconst 0, 1) := by decide +kernel
theorem d_Unpacker_makeCodes_141 : decode b_Unpacker_makeCodes 141 = .ok (.invokevirtual 53, 3) := by decide +kernel
theorem d_Unpacker_makeCodes_144 : decode b_Unpacker_makeCodes 144 = .ok (.ifCond .eq 67, 3) := by decide +kernel
theorem d_Unpacker_makeCodes_147 : decode b_Unpacker_makeCodes 147 = .ok (.aload_n 0, 1) := by decide +kernel
theorem d_Unpacker_makeCodes_148 : decode b_Unpacker_makeCodes 148 = .ok (.iload 4, 2) := by decide +kernel
theorem d_Unpacker_makeCodes_150 : decode b_Unpacker_makeCodes 150 = .ok (.iload 5, 2) := by decide +kernel
theorem d_Unpacker_makeCodes_152 : decode b_Unpacker_makeCodes 152 = .ok (.iadd, 1) := by decide +kernel
theorem d_Unpacker_makeCodes_153 : decode b_Unpacker_makeCodes 153 = .ok (.invokevirtual 121, 3) := by decide +kernel
theorem d_Unpacker_makeCodes_156 : decode b_Unpacker_makeCodes 156 = .ok (.ifCond .eq 55, 3) := by decide +kernel
theorem d_Unpacker_makeCodes_159 : decode b_Unpacker_makeCodes 159 = .ok (.aload_n 0, 1) := by decide +kernel
theorem d_Unpacker_makeCodes_160 : decode b_Unpacker_makeCodes 160 = .ok (.getfield 45, 3) := by decide +kernel
theorem d_Unpacker_makeCodes_163 : decode b_Unpacker_makeCodes 163 = .ok (.sipush 256, 3) := by decide +kernel
theorem d_Unpacker_makeCodes_166 : decode b_Unpacker_makeCodes 166 = .ok (.iaload, 1) := by decide +kernel
theorem d_Unpacker_makeCodes_167 : decode b_Unpacker_makeCodes 167 = .ok (.ifCond .le 44, 3) := by decide +kernel
theorem d_Unpacker_makeCodes_170 : decode b_Unpacker_makeCodes 170 = .ok (.aload_n 0, 1) := by decide +kernel
theorem d_Unpacker_makeCodes_171 : decode b_Unpacker_makeCodes 171 = .ok (.getfield 36, 3) := by decide +kernel
theorem d_Unpacker_makeCodes_174 : decode b_Unpacker_makeCodes 174 = .ok (.aload_n 0, 1) := by decide +kernel
theorem d_Unpacker_makeCodes_175 : decode b_Unpacker_makeCodes 175 = .ok (.getfield 45, 3) := by decide +kernel
theorem d_Unpacker_makeCodes_178 : decode b_Unpacker_makeCodes 178 = .ok (.iconst 0, 1) := by decide +kernel
theorem d_Unpacker_makeCodes_179 : decode b_Unpacker_makeCodes 179 = .ok (.iload 4, 2) := by decide +kernel
theorem d_Unpacker_makeCodes_181 : decode b_Unpacker_makeCodes 181 = .ok (.iconst 0, 1) := by decide +kernel
theorem d_Unpacker_makeCodes_182 : decode b_Unpacker_makeCodes 182 = .ok (.invokevirtual 53, 3) := by decide +kernel
theorem d_Unpacker_makeCodes_185 : decode b_Unpacker_makeCodes 185 = .ok (.ifCond .eq 26, 3) := by decide +kernel
theorem d_Unpacker_makeCodes_188 : decode b_Unpacker_makeCodes 188 = .ok (.aload_n 0, 1) := by decide +kernel
theorem d_Unpacker_makeCodes_189 : decode b_Unpacker_makeCodes 189 = .ok (.getfield 39, 3) := by decide +kernel
theorem d_Unpacker_makeCodes_192 : decode b_Unpacker_makeCodes 192 = .ok (.aload_n 0, 1) := by decide +kernel
theorem d_Unpacker_makeCodes_193 : decode b_Unpacker_makeCodes 193 = .ok (.getfield 45, 3) := by decide +kernel
theorem d_Unpacker_makeCodes_196 : decode b_Unpacker_makeCodes 196 = .ok (.iload 4, 2) := by decide +kernel
theorem d_Unpacker_makeCodes_198 : decode b_Unpacker_makeCodes 198 = .ok (.iload 5, 2) := by decide +kernel
theorem d_Unpacker_makeCodes_200 : decode b_Unpacker_makeCodes 200 = .ok (.iconst 1, 1) := by decide +kernel
theorem d_Unpacker_makeCodes_201 : decode b_Unpacker_makeCodes 201 = .ok (.invokevirtual 53, 3) := by decide +kernel
theorem d_Unpacker_makeCodes_204 : decode b_Unpacker_makeCodes 204 = .ok (.ifCond .eq 7, 3) := by decide +kernel
theorem d_Unpacker_makeCodes_207 : decode b_Unpacker_makeCodes 207 = .ok (.iconst 1, 1) := by decide +kernel
theorem d_Unpacker_makeCodes_208 : decode b_Unpacker_makeCodes 208 = .ok (.goto 4, 3) := by decide +kernel
theorem d_Unpacker_makeCodes_211 : decode b_Unpacker_makeCodes 211 = .ok (.iconst 0, 1) := by decide +kernel
theorem d_Unpacker_makeCodes_212 : decode b_Unpacker_makeCodes 212 = .ok (.ireturn, 1) := by decide +kernel
def Unpacker_makeCodes_117 (F : Nat) (n_in_row_data : Nat) (n_lengthCodes_symbols : Nat) (n_madeSymbols_symbols : Nat) (n_madeDistances_symbols : Nat) (v_in_end : Int32) (v_in_row_length : Int32) (c_in_row_data : Nat → Int32) (v_in_at : Int32) (c_lengths : Nat → Int32) (c_lengthCodes_symbols : Nat → Int32) (c_lengthCodes_counts : Nat → Int32) (c_lengthCodes_offsets : Nat → Int32) (c_madeSymbols_symbols : Nat → Int32) (c_madeSymbols_counts : Nat → Int32) (c_madeSymbols_offsets : Nat → Int32) (c_madeDistances_symbols : Nat → Int32) (c_madeDistances_counts : Nat → Int32) (c_madeDistances_offsets : Nat → Int32) (x1 : Int32) (x2 : Int32) : Option (Int32 × Int32 × (Nat → Int32) × (Nat → Int32) × (Nat → Int32) × (Nat → Int32) × (Nat → Int32) × (Nat → Int32) × (Nat → Int32) × (Nat → Int32) × (Nat → Int32) × (Nat → Int32)) :=
  mL (x1 + 257) fun y4_7 => mL (x2 + 1) fun y5_8 => mR3 (Table_make F n_lengthCodes_symbols 320 c_lengths c_lengthCodes_symbols c_lengthCodes_counts c_lengthCodes_offsets 0 19 0) fun r_12 c_symbols_9 c_counts_10 c_offsets_11 => mC (r_12 = 0) (some (0, v_in_at, c_lengths, c_symbols_9, c_counts_10, c_offsets_11, c_madeSymbols_symbols, c_madeSymbols_counts, c_madeSymbols_offsets, c_madeDistances_symbols, c_madeDistances_counts, c_madeDistances_offsets)) (mL (y4_7 + y5_8) fun t_13 => mR2 (Unpacker_readLengths F n_in_row_data n_lengthCodes_symbols v_in_end v_in_row_length c_in_row_data c_counts_10 c_symbols_9 c_lengths v_in_at t_13) fun r_16 c_lengths_14 v_in_at_15 => mC (r_16 = 0) (some (0, v_in_at_15, c_lengths_14, c_symbols_9, c_counts_10, c_offsets_11, c_madeSymbols_symbols, c_madeSymbols_counts, c_madeSymbols_offsets, c_madeDistances_symbols, c_madeDistances_counts, c_madeDistances_offsets)) (mG 256 320 (mC ((c_lengths_14 (256 : Int32).toNatClampNeg) ≤ 0) (some (0, v_in_at_15, c_lengths_14, c_symbols_9, c_counts_10, c_offsets_11, c_madeSymbols_symbols, c_madeSymbols_counts, c_madeSymbols_offsets, c_madeDistances_symbols, c_madeDistances_counts, c_madeDistances_offsets)) (mR3 (Table_make F n_madeSymbols_symbols 320 c_lengths_14 c_madeSymbols_symbols c_madeSymbols_counts c_madeSymbols_offsets 0 y4_7 0) fun r_20 c_symbols_17 c_counts_18 c_offsets_19 => mC (r_20 = 0) (some (0, v_in_at_15, c_lengths_14, c_symbols_9, c_counts_10, c_offsets_11, c_symbols_17, c_counts_18, c_offsets_19, c_madeDistances_symbols, c_madeDistances_counts, c_madeDistances_offsets)) (mR3 (Table_make F n_madeDistances_symbols 320 c_lengths_14 c_madeDistances_symbols c_madeDistances_counts c_madeDistances_offsets y4_7 y5_8 1) fun r_24 c_symbols_21 c_counts_22 c_offsets_23 => mC (r_24 = 0) (some (0, v_in_at_15, c_lengths_14, c_symbols_9, c_counts_10, c_offsets_11, c_symbols_17, c_counts_18, c_offsets_19, c_symbols_21, c_counts_22, c_offsets_23)) (some (1, v_in_at_15, c_lengths_14, c_symbols_9, c_counts_10, c_offsets_11, c_symbols_17, c_counts_18, c_offsets_19, c_symbols_21, c_counts_22, c_offsets_23)))))))
def Unpacker_makeCodes_64 (F : Nat) (n_in_row_data : Nat) (v_in_end : Int32) (v_in_row_length : Int32) (c_in_row_data : Nat → Int32) (k_117 : Int32 → (Nat → Int32) → (Nat → Int32) → (Nat → Int32) → (Nat → Int32) → (Nat → Int32) → (Nat → Int32) → (Nat → Int32) → (Nat → Int32) → (Nat → Int32) → (Nat → Int32) → Int32 → Int32 → Option (Int32 × Int32 × (Nat → Int32) × (Nat → Int32) × (Nat → Int32) × (Nat → Int32) × (Nat → Int32) × (Nat → Int32) × (Nat → Int32) × (Nat → Int32) × (Nat → Int32) × (Nat → Int32))) (k_64 : Int32 → (Nat → Int32) → (Nat → Int32) → (Nat → Int32) → (Nat → Int32) → (Nat → Int32) → (Nat → Int32) → (Nat → Int32) → (Nat → Int32) → (Nat → Int32) → (Nat → Int32) → Int32 → Int32 → Int32 → Int32 → Option (Int32 × Int32 × (Nat → Int32) × (Nat → Int32) × (Nat → Int32) × (Nat → Int32) × (Nat → Int32) × (Nat → Int32) × (Nat → Int32) × (Nat → Int32) × (Nat → Int32) × (Nat → Int32))) (v_in_at : Int32) (c_lengths : Nat → Int32) (c_lengthCodes_symbols : Nat → Int32) (c_lengthCodes_counts : Nat → Int32) (c_lengthCodes_offsets : Nat → Int32) (c_madeSymbols_symbols : Nat → Int32) (c_madeSymbols_counts : Nat → Int32) (c_madeSymbols_offsets : Nat → Int32) (c_madeDistances_symbols : Nat → Int32) (c_madeDistances_counts : Nat → Int32) (c_madeDistances_offsets : Nat → Int32) (x1 : Int32) (x2 : Int32) (x3 : Int32) (x4 : Int32) : Option (Int32 × Int32 × (Nat → Int32) × (Nat → Int32) × (Nat → Int32) × (Nat → Int32) × (Nat → Int32) × (Nat → Int32) × (Nat → Int32) × (Nat → Int32) × (Nat → Int32) × (Nat → Int32)) :=
  mC ((x3 + 4) ≤ x4) (k_117 v_in_at c_lengths c_lengthCodes_symbols c_lengthCodes_counts c_lengthCodes_offsets c_madeSymbols_symbols c_madeSymbols_counts c_madeSymbols_offsets c_madeDistances_symbols c_madeDistances_counts c_madeDistances_offsets x1 x2) (mC (19 ≤ x4) (k_117 v_in_at c_lengths c_lengthCodes_symbols c_lengthCodes_counts c_lengthCodes_offsets c_madeSymbols_symbols c_madeSymbols_counts c_madeSymbols_offsets c_madeDistances_symbols c_madeDistances_counts c_madeDistances_offsets x1 x2) (mR1 (BitReader_number F n_in_row_data v_in_end v_in_row_length c_in_row_data v_in_at 3) fun r_26 v_at_25 => mC (0 ≤ r_26) (mG x4 19 (mL (tb_order x4.toNatClampNeg) fun t_27 => mG t_27 320 (mL (upd c_lengths t_27.toNatClampNeg r_26) fun c_28 => mL (x4 + 1) fun y4_29 => k_64 v_at_25 c_28 c_lengthCodes_symbols c_lengthCodes_counts c_lengthCodes_offsets c_madeSymbols_symbols c_madeSymbols_counts c_madeSymbols_offsets c_madeDistances_symbols c_madeDistances_counts c_madeDistances_offsets x1 x2 x3 y4_29))) (some (0, v_at_25, c_lengths, c_lengthCodes_symbols, c_lengthCodes_counts, c_lengthCodes_offsets, c_madeSymbols_symbols, c_madeSymbols_counts, c_madeSymbols_offsets, c_madeDistances_symbols, c_madeDistances_counts, c_madeDistances_offsets))))
abbrev Unpacker_makeCodes_w (E : xE) (a_this : Nat) (a_in : Nat) (a_in_row : Nat) (a_in_row_data : Nat) (a_lengths : Nat) (a_lengthCodes : Nat) (a_lengthCodes_symbols : Nat) (a_lengthCodes_counts : Nat) (a_lengthCodes_offsets : Nat) (a_madeSymbols : Nat) (a_madeSymbols_symbols : Nat) (a_madeSymbols_counts : Nat) (a_madeSymbols_offsets : Nat) (a_madeDistances : Nat) (a_madeDistances_symbols : Nat) (a_madeDistances_counts : Nat) (a_madeDistances_offsets : Nat) (n_in_row_data : Nat) (n_lengthCodes_symbols : Nat) (n_madeSymbols_symbols : Nat) (n_madeDistances_symbols : Nat) (x_out : Value) (x_fixedSymbols : Value) (x_fixedDistances : Value) (v_in_end : Int32) (v_in_row_length : Int32) (c_in_row_data : Nat → Int32) (v_in_at : Int32) (c_lengths : Nat → Int32) (c_lengthCodes_symbols : Nat → Int32) (c_lengthCodes_counts : Nat → Int32) (c_lengthCodes_offsets : Nat → Int32) (c_madeSymbols_symbols : Nat → Int32) (c_madeSymbols_counts : Nat → Int32) (c_madeSymbols_offsets : Nat → Int32) (c_madeDistances_symbols : Nat → Int32) (c_madeDistances_counts : Nat → Int32) (c_madeDistances_offsets : Nat → Int32) (v_outStart : Int32) (v_farthest : Int32) : va_W := [(a_this, .inr (9, [.ref a_in, x_out, x_fixedSymbols, x_fixedDistances, .ref a_madeSymbols, .ref a_madeDistances, .ref a_lengthCodes, .ref a_lengths, .int v_outStart, .int v_farthest])), (a_in, .inr (0, [.ref a_in_row, .int v_in_at, .int v_in_end])), (a_in_row, .inr (2, [.ref a_in_row_data, .int v_in_row_length])), (a_in_row_data, .inl (E.2.2.1, n_in_row_data, .inl c_in_row_data)), (a_lengths, .inl (E.2.1, 320, .inl c_lengths)), (a_lengthCodes, .inr (8, [.ref a_lengthCodes_counts, .ref a_lengthCodes_offsets, .ref a_lengthCodes_symbols])), (a_lengthCodes_symbols, .inl (E.2.1, n_lengthCodes_symbols, .inl c_lengthCodes_symbols)), (a_lengthCodes_counts, .inl (E.2.1, 16, .inl c_lengthCodes_counts)), (a_lengthCodes_offsets, .inl (E.2.1, 16, .inl c_lengthCodes_offsets)), (a_madeSymbols, .inr (8, [.ref a_madeSymbols_counts, .ref a_madeSymbols_offsets, .ref a_madeSymbols_symbols])), (a_madeSymbols_symbols, .inl (E.2.1, n_madeSymbols_symbols, .inl c_madeSymbols_symbols)), (a_madeSymbols_counts, .inl (E.2.1, 16, .inl c_madeSymbols_counts)), (a_madeSymbols_offsets, .inl (E.2.1, 16, .inl c_madeSymbols_offsets)), (a_madeDistances, .inr (8, [.ref a_madeDistances_counts, .ref a_madeDistances_offsets, .ref a_madeDistances_symbols])), (a_madeDistances_symbols, .inl (E.2.1, n_madeDistances_symbols, .inl c_madeDistances_symbols)), (a_madeDistances_counts, .inl (E.2.1, 16, .inl c_madeDistances_counts)), (a_madeDistances_offsets, .inl (E.2.1, 16, .inl c_madeDistances_offsets))]
def Unpacker_makeCodes (F : Nat) (n_in_row_data : Nat) (n_lengthCodes_symbols : Nat) (n_madeSymbols_symbols : Nat) (n_madeDistances_symbols : Nat) (v_in_end : Int32) (v_in_row_length : Int32) (c_in_row_data : Nat → Int32) (v_in_at : Int32) (c_lengths : Nat → Int32) (c_lengthCodes_symbols : Nat → Int32) (c_lengthCodes_counts : Nat → Int32) (c_lengthCodes_offsets : Nat → Int32) (c_madeSymbols_symbols : Nat → Int32) (c_madeSymbols_counts : Nat → Int32) (c_madeSymbols_offsets : Nat → Int32) (c_madeDistances_symbols : Nat → Int32) (c_madeDistances_counts : Nat → Int32) (c_madeDistances_offsets : Nat → Int32) : Option (Int32 × Int32 × (Nat → Int32) × (Nat → Int32) × (Nat → Int32) × (Nat → Int32) × (Nat → Int32) × (Nat → Int32) × (Nat → Int32) × (Nat → Int32) × (Nat → Int32) × (Nat → Int32)) :=
  mR1 (BitReader_number F n_in_row_data v_in_end v_in_row_length c_in_row_data v_in_at 5) fun r_2 v_at_1 => mR1 (BitReader_number F n_in_row_data v_in_end v_in_row_length c_in_row_data v_at_1 5) fun r_4 v_at_3 => mR1 (BitReader_number F n_in_row_data v_in_end v_in_row_length c_in_row_data v_at_3 4) fun r_6 v_at_5 => mC (r_2 < 0) (some (0, v_at_5, c_lengths, c_lengthCodes_symbols, c_lengthCodes_counts, c_lengthCodes_offsets, c_madeSymbols_symbols, c_madeSymbols_counts, c_madeSymbols_offsets, c_madeDistances_symbols, c_madeDistances_counts, c_madeDistances_offsets)) (mC (29 < r_2) (some (0, v_at_5, c_lengths, c_lengthCodes_symbols, c_lengthCodes_counts, c_lengthCodes_offsets, c_madeSymbols_symbols, c_madeSymbols_counts, c_madeSymbols_offsets, c_madeDistances_symbols, c_madeDistances_counts, c_madeDistances_offsets)) (mC (r_4 < 0) (some (0, v_at_5, c_lengths, c_lengthCodes_symbols, c_lengthCodes_counts, c_lengthCodes_offsets, c_madeSymbols_symbols, c_madeSymbols_counts, c_madeSymbols_offsets, c_madeDistances_symbols, c_madeDistances_counts, c_madeDistances_offsets)) (mC (29 < r_4) (some (0, v_at_5, c_lengths, c_lengthCodes_symbols, c_lengthCodes_counts, c_lengthCodes_offsets, c_madeSymbols_symbols, c_madeSymbols_counts, c_madeSymbols_offsets, c_madeDistances_symbols, c_madeDistances_counts, c_madeDistances_offsets)) (mC (0 ≤ r_6) (mR1 (Arr_fill F 320 c_lengths 0) fun _ c_p0_30 => (mW15 (Unpacker_makeCodes_64 F n_in_row_data v_in_end v_in_row_length c_in_row_data (Unpacker_makeCodes_117 F n_in_row_data n_lengthCodes_symbols n_madeSymbols_symbols n_madeDistances_symbols v_in_end v_in_row_length c_in_row_data)) F) v_at_5 c_p0_30 c_lengthCodes_symbols c_lengthCodes_counts c_lengthCodes_offsets c_madeSymbols_symbols c_madeSymbols_counts c_madeSymbols_offsets c_madeDistances_symbols c_madeDistances_counts c_madeDistances_offsets r_2 r_4 r_6 0) (some (0, v_at_5, c_lengths, c_lengthCodes_symbols, c_lengthCodes_counts, c_lengthCodes_offsets, c_madeSymbols_symbols, c_madeSymbols_counts, c_madeSymbols_offsets, c_madeDistances_symbols, c_madeDistances_counts, c_madeDistances_offsets))))))
abbrev Unpacker_makeCodes_rm : Room := { frames := 4, cells := 0, slots := 0, locals := 98 }
set_option maxHeartbeats 4000000 in
set_option maxRecDepth 100000 in
theorem c_Unpacker_makeCodes (l : Launch) (E : xE) (F sz : Nat) (a_this : Nat) (a_in : Nat) (a_in_row : Nat) (a_in_row_data : Nat) (a_lengths : Nat) (a_lengthCodes : Nat) (a_lengthCodes_symbols : Nat) (a_lengthCodes_counts : Nat) (a_lengthCodes_offsets : Nat) (a_madeSymbols : Nat) (a_madeSymbols_symbols : Nat) (a_madeSymbols_counts : Nat) (a_madeSymbols_offsets : Nat) (a_madeDistances : Nat) (a_madeDistances_symbols : Nat) (a_madeDistances_counts : Nat) (a_madeDistances_offsets : Nat) (n_in_row_data : Nat) (n_lengthCodes_symbols : Nat) (n_madeSymbols_symbols : Nat) (n_madeDistances_symbols : Nat) (x_out : Value) (x_fixedSymbols : Value) (x_fixedDistances : Value) (v_in_end : Int32) (v_in_row_length : Int32) (c_in_row_data : Nat → Int32) (v_in_at : Int32) (c_lengths : Nat → Int32) (c_lengthCodes_symbols : Nat → Int32) (c_lengthCodes_counts : Nat → Int32) (c_lengthCodes_offsets : Nat → Int32) (c_madeSymbols_symbols : Nat → Int32) (c_madeSymbols_counts : Nat → Int32) (c_madeSymbols_offsets : Nat → Int32) (c_madeDistances_symbols : Nat → Int32) (c_madeDistances_counts : Nat → Int32) (c_madeDistances_offsets : Nat → Int32) (v_outStart : Int32) (v_farthest : Int32) (res : Int32 × Int32 × (Nat → Int32) × (Nat → Int32) × (Nat → Int32) × (Nat → Int32) × (Nat → Int32) × (Nat → Int32) × (Nat → Int32) × (Nat → Int32) × (Nat → Int32) × (Nat → Int32)) (hm : Unpacker_makeCodes F n_in_row_data n_lengthCodes_symbols n_madeSymbols_symbols n_madeDistances_symbols v_in_end v_in_row_length c_in_row_data v_in_at c_lengths c_lengthCodes_symbols c_lengthCodes_counts c_lengthCodes_offsets c_madeSymbols_symbols c_madeSymbols_counts c_madeSymbols_offsets c_madeDistances_symbols c_madeDistances_counts c_madeDistances_offsets = some res) : Met l y_Unpacker_makeCodes (Cond.code y_Unpacker_makeCodes b_Unpacker_makeCodes 6 (some .boolean) :: x_tb) Unpacker_makeCodes_rm (va_Pc [.ref a_this] (xPre E (Unpacker_makeCodes_w E a_this a_in a_in_row a_in_row_data a_lengths a_lengthCodes a_lengthCodes_symbols a_lengthCodes_counts a_lengthCodes_offsets a_madeSymbols a_madeSymbols_symbols a_madeSymbols_counts a_madeSymbols_offsets a_madeDistances a_madeDistances_symbols a_madeDistances_counts a_madeDistances_offsets n_in_row_data n_lengthCodes_symbols n_madeSymbols_symbols n_madeDistances_symbols x_out x_fixedSymbols x_fixedDistances v_in_end v_in_row_length c_in_row_data v_in_at c_lengths c_lengthCodes_symbols c_lengthCodes_counts c_lengthCodes_offsets c_madeSymbols_symbols c_madeSymbols_counts c_madeSymbols_offsets c_madeDistances_symbols c_madeDistances_counts c_madeDistances_offsets v_outStart v_farthest) sz)) (xQi E (fun (r : Int32) (u : Int32 × (Nat → Int32) × (Nat → Int32) × (Nat → Int32) × (Nat → Int32) × (Nat → Int32) × (Nat → Int32) × (Nat → Int32) × (Nat → Int32) × (Nat → Int32) × (Nat → Int32)) => r = res.1 ∧ u = res.2) (fun (u : Int32 × (Nat → Int32) × (Nat → Int32) × (Nat → Int32) × (Nat → Int32) × (Nat → Int32) × (Nat → Int32) × (Nat → Int32) × (Nat → Int32) × (Nat → Int32) × (Nat → Int32)) => (Unpacker_makeCodes_w E a_this a_in a_in_row a_in_row_data a_lengths a_lengthCodes a_lengthCodes_symbols a_lengthCodes_counts a_lengthCodes_offsets a_madeSymbols a_madeSymbols_symbols a_madeSymbols_counts a_madeSymbols_offsets a_madeDistances a_madeDistances_symbols a_madeDistances_counts a_madeDistances_offsets n_in_row_data n_lengthCodes_symbols n_madeSymbols_symbols n_madeDistances_symbols x_out x_fixedSymbols x_fixedDistances v_in_end v_in_row_length c_in_row_data u.1 u.2.1 u.2.2.1 u.2.2.2.1 u.2.2.2.2.1 u.2.2.2.2.2.1 u.2.2.2.2.2.2.1 u.2.2.2.2.2.2.2.1 u.2.2.2.2.2.2.2.2.1 u.2.2.2.2.2.2.2.2.2.1 u.2.2.2.2.2.2.2.2.2.2 v_outStart v_farthest)) (va_A (Unpacker_makeCodes_w E a_this a_in a_in_row a_in_row_data a_lengths a_lengthCodes a_lengthCodes_symbols a_lengthCodes_counts a_lengthCodes_offsets a_madeSymbols a_madeSymbols_symbols a_madeSymbols_counts a_madeSymbols_offsets a_madeDistances a_madeDistances_symbols a_madeDistances_counts a_madeDistances_offsets n_in_row_data n_lengthCodes_symbols n_madeSymbols_symbols n_madeDistances_symbols x_out x_fixedSymbols x_fixedDistances v_in_end v_in_row_length c_in_row_data v_in_at c_lengths c_lengthCodes_symbols c_lengthCodes_counts c_lengthCodes_offsets c_madeSymbols_symbols c_madeSymbols_counts c_madeSymbols_offsets c_madeDistances_symbols c_madeDistances_counts c_madeDistances_offsets v_outStart v_farthest) sz)) 0 0 (va_A (Unpacker_makeCodes_w E a_this a_in a_in_row a_in_row_data a_lengths a_lengthCodes a_lengthCodes_symbols a_lengthCodes_counts a_lengthCodes_offsets a_madeSymbols a_madeSymbols_symbols a_madeSymbols_counts a_madeSymbols_offsets a_madeDistances a_madeDistances_symbols a_madeDistances_counts a_madeDistances_offsets n_in_row_data n_lengthCodes_symbols n_madeSymbols_symbols n_madeDistances_symbols x_out x_fixedSymbols x_fixedDistances v_in_end v_in_row_length c_in_row_data v_in_at c_lengths c_lengthCodes_symbols c_lengthCodes_counts c_lengthCodes_offsets c_madeSymbols_symbols c_madeSymbols_counts c_madeSymbols_offsets c_madeDistances_symbols c_madeDistances_counts c_madeDistances_offsets v_outStart v_farthest) sz) := by
  refine xEnZ (by decide) (Nat.le_of_ble_eq_true rfl) ?_
  intro p e s m args below meth c A ls Q hx hb hnm hts hown hml hK hA hI hN hret hP hD hS hl
  replace hown : s.vm.findClass R_Unpacker = some m.cls := hown
  replace hl : lv_has ls 6 [(0, .ref a_this)] := hl
  obtain ⟨H, eH⟩ : ∃ z, z = s.heap := ⟨_, rfl⟩
  obtain ⟨locs, eL⟩ : ∃ z : List Loc, z = [] := ⟨_, rfl⟩
  rw [show W p l e Unpacker_makeCodes_rm s m args below meth c s.heap [] 0 0 Q (F0 m 0 ls []) = W p l e Unpacker_makeCodes_rm s m args below meth c H locs 0 0 Q (F0 m 0 ls []) by rw [eH, eL]]
  replace hP : va_P E.1 vwCl (Unpacker_makeCodes_w E a_this a_in a_in_row a_in_row_data a_lengths a_lengthCodes a_lengthCodes_symbols a_lengthCodes_counts a_lengthCodes_offsets a_madeSymbols a_madeSymbols_symbols a_madeSymbols_counts a_madeSymbols_offsets a_madeDistances a_madeDistances_symbols a_madeDistances_counts a_madeDistances_offsets n_in_row_data n_lengthCodes_symbols n_madeSymbols_symbols n_madeDistances_symbols x_out x_fixedSymbols x_fixedDistances v_in_end v_in_row_length c_in_row_data v_in_at c_lengths c_lengthCodes_symbols c_lengthCodes_counts c_lengthCodes_offsets c_madeSymbols_symbols c_madeSymbols_counts c_madeSymbols_offsets c_madeDistances_symbols c_madeDistances_counts c_madeDistances_offsets v_outStart v_farthest) H := by rw [eH]; exact hP
  replace hS : va_S A s.heap H locs := by rw [eH, eL]; exact hS
  clear eH eL
  rw [Unpacker_makeCodes] at hm
  refine lv_aload_n hx hb d_Unpacker_makeCodes_0 rfl (lv_at hl 0 rfl) ?_
  refine va_get (D := E.1) (ci := 9) (v := .ref a_in) (C := R_Unpacker) (T := F_Unpacker) (N := 10) hx hb hts i_Unpacker hown hK hP 0 rfl rfl 0 (by decide) (hts _ tw_343) (fun _ h9 => h9) rfl d_Unpacker_makeCodes_1 ?_
  refine lv_iconst (v := 5) hx hb d_Unpacker_makeCodes_4 (by decide) ?_
  obtain ⟨r_2, v_at_1, hc5, hm⟩ := mR1_e hm
  refine xmi (wc := (BitReader_number_w E a_in a_in_row a_in_row_data n_in_row_data v_in_end v_in_row_length c_in_row_data v_in_at)) [false, true, true, true, false, false, false, false, false, false, false, false, false, false, false, false, false] [0, 1, 2] [0, 1, 2] hP hD hS hA rfl (by decide) (by decide) 3 (by decide) (fun _ => rfl) (fun hPc hDc hFc => va_runV (As := [.int 5]) (rest := []) ⟨hx, hb, hml, hown, hts⟩ (c_BitReader_number l E F H.size a_in a_in_row a_in_row_data n_in_row_data v_in_end v_in_row_length c_in_row_data v_in_at 5 (r_2, v_at_1) hc5) (cwV 1 hts (x_gV tw_706 tw_707 tw_708 tw_77 tw_709) rfl rfl rfl (by decide +kernel) ⟨Nat.le_of_ble_eq_true rfl, Nat.le_of_ble_eq_true rfl⟩) (xPV 0 0 rfl rfl hPc hDc hFc hK hI hN hS) rfl rfl hl.1 rfl (lv_room (Nat.le_of_ble_eq_true rfl)) d_Unpacker_makeCodes_5 ⟨Nat.le_of_ble_eq_true rfl, Nat.le_of_ble_eq_true rfl⟩) (fun r9 u9 H locs hw hP hD hS => ?_)
  have hw1 : r_2 = r9 := hw.1.symm
  subst hw1
  have hw2 : v_at_1 = u9 := hw.2.symm
  subst hw2
  replace hP : va_P E.1 vwCl (Unpacker_makeCodes_w E a_this a_in a_in_row a_in_row_data a_lengths a_lengthCodes a_lengthCodes_symbols a_lengthCodes_counts a_lengthCodes_offsets a_madeSymbols a_madeSymbols_symbols a_madeSymbols_counts a_madeSymbols_offsets a_madeDistances a_madeDistances_symbols a_madeDistances_counts a_madeDistances_offsets n_in_row_data n_lengthCodes_symbols n_madeSymbols_symbols n_madeDistances_symbols x_out x_fixedSymbols x_fixedDistances v_in_end v_in_row_length c_in_row_data v_at_1 c_lengths c_lengthCodes_symbols c_lengthCodes_counts c_lengthCodes_offsets c_madeSymbols_symbols c_madeSymbols_counts c_madeSymbols_offsets c_madeDistances_symbols c_madeDistances_counts c_madeDistances_offsets v_outStart v_farthest) H := hP
  replace hD : va_D A (Unpacker_makeCodes_w E a_this a_in a_in_row a_in_row_data a_lengths a_lengthCodes a_lengthCodes_symbols a_lengthCodes_counts a_lengthCodes_offsets a_madeSymbols a_madeSymbols_symbols a_madeSymbols_counts a_madeSymbols_offsets a_madeDistances a_madeDistances_symbols a_madeDistances_counts a_madeDistances_offsets n_in_row_data n_lengthCodes_symbols n_madeSymbols_symbols n_madeDistances_symbols x_out x_fixedSymbols x_fixedDistances v_in_end v_in_row_length c_in_row_data v_at_1 c_lengths c_lengthCodes_symbols c_lengthCodes_counts c_lengthCodes_offsets c_madeSymbols_symbols c_madeSymbols_counts c_madeSymbols_offsets c_madeDistances_symbols c_madeDistances_counts c_madeDistances_offsets v_outStart v_farthest) := hD
  refine lv_istore_n (lv' := [(1, .int r_2), (0, .ref a_this)]) hx hb d_Unpacker_makeCodes_8 rfl hl (by decide) rfl (fun ls hl => ?_)
  refine lv_aload_n hx hb d_Unpacker_makeCodes_9 rfl (lv_at hl 1 rfl) ?_
  refine va_get (D := E.1) (ci := 9) (v := .ref a_in) (C := R_Unpacker) (T := F_Unpacker) (N := 10) hx hb hts i_Unpacker hown hK hP 0 rfl rfl 0 (by decide) (hts _ tw_343) (fun _ h9 => h9) rfl d_Unpacker_makeCodes_10 ?_
  refine lv_iconst (v := 5) hx hb d_Unpacker_makeCodes_13 (by decide) ?_
  obtain ⟨r_4, v_at_3, hc14, hm⟩ := mR1_e hm
  refine xmi (wc := (BitReader_number_w E a_in a_in_row a_in_row_data n_in_row_data v_in_end v_in_row_length c_in_row_data v_at_1)) [false, true, true, true, false, false, false, false, false, false, false, false, false, false, false, false, false] [0, 1, 2] [0, 1, 2] hP hD hS hA rfl (by decide) (by decide) 3 (by decide) (fun _ => rfl) (fun hPc hDc hFc => va_runV (As := [.int 5]) (rest := []) ⟨hx, hb, hml, hown, hts⟩ (c_BitReader_number l E F H.size a_in a_in_row a_in_row_data n_in_row_data v_in_end v_in_row_length c_in_row_data v_at_1 5 (r_4, v_at_3) hc14) (cwV 1 hts (x_gV tw_706 tw_707 tw_708 tw_77 tw_709) rfl rfl rfl (by decide +kernel) ⟨Nat.le_of_ble_eq_true rfl, Nat.le_of_ble_eq_true rfl⟩) (xPV 0 0 rfl rfl hPc hDc hFc hK hI hN hS) rfl rfl hl.1 rfl (lv_room (Nat.le_of_ble_eq_true rfl)) d_Unpacker_makeCodes_14 ⟨Nat.le_of_ble_eq_true rfl, Nat.le_of_ble_eq_true rfl⟩) (fun r9 u9 H locs hw hP hD hS => ?_)
  have hw1 : r_4 = r9 := hw.1.symm
  subst hw1
  have hw2 : v_at_3 = u9 := hw.2.symm
  subst hw2
  replace hP : va_P E.1 vwCl (Unpacker_makeCodes_w E a_this a_in a_in_row a_in_row_data a_lengths a_lengthCodes a_lengthCodes_symbols a_lengthCodes_counts a_lengthCodes_offsets a_madeSymbols a_madeSymbols_symbols a_madeSymbols_counts a_madeSymbols_offsets a_madeDistances a_madeDistances_symbols a_madeDistances_counts a_madeDistances_offsets n_in_row_data n_lengthCodes_symbols n_madeSymbols_symbols n_madeDistances_symbols x_out x_fixedSymbols x_fixedDistances v_in_end v_in_row_length c_in_row_data v_at_3 c_lengths c_lengthCodes_symbols c_lengthCodes_counts c_lengthCodes_offsets c_madeSymbols_symbols c_madeSymbols_counts c_madeSymbols_offsets c_madeDistances_symbols c_madeDistances_counts c_madeDistances_offsets v_outStart v_farthest) H := hP
  replace hD : va_D A (Unpacker_makeCodes_w E a_this a_in a_in_row a_in_row_data a_lengths a_lengthCodes a_lengthCodes_symbols a_lengthCodes_counts a_lengthCodes_offsets a_madeSymbols a_madeSymbols_symbols a_madeSymbols_counts a_madeSymbols_offsets a_madeDistances a_madeDistances_symbols a_madeDistances_counts a_madeDistances_offsets n_in_row_data n_lengthCodes_symbols n_madeSymbols_symbols n_madeDistances_symbols x_out x_fixedSymbols x_fixedDistances v_in_end v_in_row_length c_in_row_data v_at_3 c_lengths c_lengthCodes_symbols c_lengthCodes_counts c_lengthCodes_offsets c_madeSymbols_symbols c_madeSymbols_counts c_madeSymbols_offsets c_madeDistances_symbols c_madeDistances_counts c_madeDistances_offsets v_outStart v_farthest) := hD
  refine lv_istore_n (lv' := [(2, .int r_4), (1, .int r_2), (0, .ref a_this)]) hx hb d_Unpacker_makeCodes_17 rfl hl (by decide) rfl (fun ls hl => ?_)
  refine lv_aload_n hx hb d_Unpacker_makeCodes_18 rfl (lv_at hl 2 rfl) ?_
  refine va_get (D := E.1) (ci := 9) (v := .ref a_in) (C := R_Unpacker) (T := F_Unpacker) (N := 10) hx hb hts i_Unpacker hown hK hP 0 rfl rfl 0 (by decide) (hts _ tw_343) (fun _ h9 => h9) rfl d_Unpacker_makeCodes_19 ?_
  refine lv_iconst (v := 4) hx hb d_Unpacker_makeCodes_22 (by decide) ?_
  obtain ⟨r_6, v_at_5, hc23, hm⟩ := mR1_e hm
  refine xmi (wc := (BitReader_number_w E a_in a_in_row a_in_row_data n_in_row_data v_in_end v_in_row_length c_in_row_data v_at_3)) [false, true, true, true, false, false, false, false, false, false, false, false, false, false, false, false, false] [0, 1, 2] [0, 1, 2] hP hD hS hA rfl (by decide) (by decide) 3 (by decide) (fun _ => rfl) (fun hPc hDc hFc => va_runV (As := [.int 4]) (rest := []) ⟨hx, hb, hml, hown, hts⟩ (c_BitReader_number l E F H.size a_in a_in_row a_in_row_data n_in_row_data v_in_end v_in_row_length c_in_row_data v_at_3 4 (r_6, v_at_5) hc23) (cwV 1 hts (x_gV tw_706 tw_707 tw_708 tw_77 tw_709) rfl rfl rfl (by decide +kernel) ⟨Nat.le_of_ble_eq_true rfl, Nat.le_of_ble_eq_true rfl⟩) (xPV 0 0 rfl rfl hPc hDc hFc hK hI hN hS) rfl rfl hl.1 rfl (lv_room (Nat.le_of_ble_eq_true rfl)) d_Unpacker_makeCodes_23 ⟨Nat.le_of_ble_eq_true rfl, Nat.le_of_ble_eq_true rfl⟩) (fun r9 u9 H locs hw hP hD hS => ?_)
  have hw1 : r_6 = r9 := hw.1.symm
  subst hw1
  have hw2 : v_at_5 = u9 := hw.2.symm
  subst hw2
  replace hP : va_P E.1 vwCl (Unpacker_makeCodes_w E a_this a_in a_in_row a_in_row_data a_lengths a_lengthCodes a_lengthCodes_symbols a_lengthCodes_counts a_lengthCodes_offsets a_madeSymbols a_madeSymbols_symbols a_madeSymbols_counts a_madeSymbols_offsets a_madeDistances a_madeDistances_symbols a_madeDistances_counts a_madeDistances_offsets n_in_row_data n_lengthCodes_symbols n_madeSymbols_symbols n_madeDistances_symbols x_out x_fixedSymbols x_fixedDistances v_in_end v_in_row_length c_in_row_data v_at_5 c_lengths c_lengthCodes_symbols c_lengthCodes_counts c_lengthCodes_offsets c_madeSymbols_symbols c_madeSymbols_counts c_madeSymbols_offsets c_madeDistances_symbols c_madeDistances_counts c_madeDistances_offsets v_outStart v_farthest) H := hP
  replace hD : va_D A (Unpacker_makeCodes_w E a_this a_in a_in_row a_in_row_data a_lengths a_lengthCodes a_lengthCodes_symbols a_lengthCodes_counts a_lengthCodes_offsets a_madeSymbols a_madeSymbols_symbols a_madeSymbols_counts a_madeSymbols_offsets a_madeDistances a_madeDistances_symbols a_madeDistances_counts a_madeDistances_offsets n_in_row_data n_lengthCodes_symbols n_madeSymbols_symbols n_madeDistances_symbols x_out x_fixedSymbols x_fixedDistances v_in_end v_in_row_length c_in_row_data v_at_5 c_lengths c_lengthCodes_symbols c_lengthCodes_counts c_lengthCodes_offsets c_madeSymbols_symbols c_madeSymbols_counts c_madeSymbols_offsets c_madeDistances_symbols c_madeDistances_counts c_madeDistances_offsets v_outStart v_farthest) := hD
  refine lv_istore_n (lv' := [(3, .int r_6), (2, .int r_4), (1, .int r_2), (0, .ref a_this)]) hx hb d_Unpacker_makeCodes_26 rfl hl (by decide) rfl (fun ls hl => ?_)
  refine lv_iload_n hx hb d_Unpacker_makeCodes_27 rfl (lv_at hl 2 rfl) ?_
  refine lv_if_lt (tgt := 51) hx hb d_Unpacker_makeCodes_28 (by decide) (fun c28 => ?_) (fun c28 => ?_)
  · replace hm := mC_t hm c28
    refine lv_iconst (v := 0) hx hb d_Unpacker_makeCodes_51 (by decide) ?_
    replace hm := Option.some.inj hm
    subst hm
    exact hret d_Unpacker_makeCodes_52 (by decide) (u := (v_at_5, c_lengths, c_lengthCodes_symbols, c_lengthCodes_counts, c_lengthCodes_offsets, c_madeSymbols_symbols, c_madeSymbols_counts, c_madeSymbols_offsets, c_madeDistances_symbols, c_madeDistances_counts, c_madeDistances_offsets)) ⟨rfl, rfl⟩ hP hD hS
  · replace hm := mC_f hm c28
    refine lv_iload_n hx hb d_Unpacker_makeCodes_31 rfl (lv_at hl 2 rfl) ?_
    refine lv_bipush (v := 29) hx hb d_Unpacker_makeCodes_32 (by decide) ?_
    refine lv_icmp_gt (tgt := 51) hx hb d_Unpacker_makeCodes_34 (by decide) (fun c34 => ?_) (fun c34 => ?_)
    · replace hm := mC_t hm c34
      refine lv_iconst (v := 0) hx hb d_Unpacker_makeCodes_51 (by decide) ?_
      replace hm := Option.some.inj hm
      subst hm
      exact hret d_Unpacker_makeCodes_52 (by decide) (u := (v_at_5, c_lengths, c_lengthCodes_symbols, c_lengthCodes_counts, c_lengthCodes_offsets, c_madeSymbols_symbols, c_madeSymbols_counts, c_madeSymbols_offsets, c_madeDistances_symbols, c_madeDistances_counts, c_madeDistances_offsets)) ⟨rfl, rfl⟩ hP hD hS
    · replace hm := mC_f hm c34
      refine lv_iload_n hx hb d_Unpacker_makeCodes_37 rfl (lv_at hl 1 rfl) ?_
      refine lv_if_lt (tgt := 51) hx hb d_Unpacker_makeCodes_38 (by decide) (fun c38 => ?_) (fun c38 => ?_)
      · replace hm := mC_t hm c38
        refine lv_iconst (v := 0) hx hb d_Unpacker_makeCodes_51 (by decide) ?_
        replace hm := Option.some.inj hm
        subst hm
        exact hret d_Unpacker_makeCodes_52 (by decide) (u := (v_at_5, c_lengths, c_lengthCodes_symbols, c_lengthCodes_counts, c_lengthCodes_offsets, c_madeSymbols_symbols, c_madeSymbols_counts, c_madeSymbols_offsets, c_madeDistances_symbols, c_madeDistances_counts, c_madeDistances_offsets)) ⟨rfl, rfl⟩ hP hD hS
      · replace hm := mC_f hm c38
        refine lv_iload_n hx hb d_Unpacker_makeCodes_41 rfl (lv_at hl 1 rfl) ?_
        refine lv_bipush (v := 29) hx hb d_Unpacker_makeCodes_42 (by decide) ?_
        refine lv_icmp_gt (tgt := 51) hx hb d_Unpacker_makeCodes_44 (by decide) (fun c44 => ?_) (fun c44 => ?_)
        · replace hm := mC_t hm c44
          refine lv_iconst (v := 0) hx hb d_Unpacker_makeCodes_51 (by decide) ?_
          replace hm := Option.some.inj hm
          subst hm
          exact hret d_Unpacker_makeCodes_52 (by decide) (u := (v_at_5, c_lengths, c_lengthCodes_symbols, c_lengthCodes_counts, c_lengthCodes_offsets, c_madeSymbols_symbols, c_madeSymbols_counts, c_madeSymbols_offsets, c_madeDistances_symbols, c_madeDistances_counts, c_madeDistances_offsets)) ⟨rfl, rfl⟩ hP hD hS
        · replace hm := mC_f hm c44
          refine lv_iload_n hx hb d_Unpacker_makeCodes_47 rfl (lv_at hl 0 rfl) ?_
          refine lv_if_ge (tgt := 53) hx hb d_Unpacker_makeCodes_48 (by decide) (fun c48 => ?_) (fun c48 => ?_)
          · replace hm := mC_t hm c48
            have h_117 : ∀ (v_in_at : Int32) (c_lengths : Nat → Int32) (c_lengthCodes_symbols : Nat → Int32) (c_lengthCodes_counts : Nat → Int32) (c_lengthCodes_offsets : Nat → Int32) (c_madeSymbols_symbols : Nat → Int32) (c_madeSymbols_counts : Nat → Int32) (c_madeSymbols_offsets : Nat → Int32) (c_madeDistances_symbols : Nat → Int32) (c_madeDistances_counts : Nat → Int32) (c_madeDistances_offsets : Nat → Int32) (x1 : Int32) (x2 : Int32) (H : Heap) (locs : List Loc) (ls : Array Slot), (Unpacker_makeCodes_117 F n_in_row_data n_lengthCodes_symbols n_madeSymbols_symbols n_madeDistances_symbols v_in_end v_in_row_length c_in_row_data) v_in_at c_lengths c_lengthCodes_symbols c_lengthCodes_counts c_lengthCodes_offsets c_madeSymbols_symbols c_madeSymbols_counts c_madeSymbols_offsets c_madeDistances_symbols c_madeDistances_counts c_madeDistances_offsets x1 x2 = some res → va_P E.1 vwCl (Unpacker_makeCodes_w E a_this a_in a_in_row a_in_row_data a_lengths a_lengthCodes a_lengthCodes_symbols a_lengthCodes_counts a_lengthCodes_offsets a_madeSymbols a_madeSymbols_symbols a_madeSymbols_counts a_madeSymbols_offsets a_madeDistances a_madeDistances_symbols a_madeDistances_counts a_madeDistances_offsets n_in_row_data n_lengthCodes_symbols n_madeSymbols_symbols n_madeDistances_symbols x_out x_fixedSymbols x_fixedDistances v_in_end v_in_row_length c_in_row_data v_in_at c_lengths c_lengthCodes_symbols c_lengthCodes_counts c_lengthCodes_offsets c_madeSymbols_symbols c_madeSymbols_counts c_madeSymbols_offsets c_madeDistances_symbols c_madeDistances_counts c_madeDistances_offsets v_outStart v_farthest) H → va_D A (Unpacker_makeCodes_w E a_this a_in a_in_row a_in_row_data a_lengths a_lengthCodes a_lengthCodes_symbols a_lengthCodes_counts a_lengthCodes_offsets a_madeSymbols a_madeSymbols_symbols a_madeSymbols_counts a_madeSymbols_offsets a_madeDistances a_madeDistances_symbols a_madeDistances_counts a_madeDistances_offsets n_in_row_data n_lengthCodes_symbols n_madeSymbols_symbols n_madeDistances_symbols x_out x_fixedSymbols x_fixedDistances v_in_end v_in_row_length c_in_row_data v_in_at c_lengths c_lengthCodes_symbols c_lengthCodes_counts c_lengthCodes_offsets c_madeSymbols_symbols c_madeSymbols_counts c_madeSymbols_offsets c_madeDistances_symbols c_madeDistances_counts c_madeDistances_offsets v_outStart v_farthest) → va_S A s.heap H locs → lv_has ls 6 [(0, .ref a_this), (1, .int x1), (2, .int x2)] → W p l e Unpacker_makeCodes_rm s m args below meth c H locs 0 0 Q (F0 m 117 ls []) := by
              intro v_in_at c_lengths c_lengthCodes_symbols c_lengthCodes_counts c_lengthCodes_offsets c_madeSymbols_symbols c_madeSymbols_counts c_madeSymbols_offsets c_madeDistances_symbols c_madeDistances_counts c_madeDistances_offsets x1 x2 H locs ls hm hP hD hS hl
              rw [Unpacker_makeCodes_117] at hm
              refine lv_iload_n hx hb d_Unpacker_makeCodes_117 rfl (lv_at hl 1 rfl) ?_
              refine lv_sipush (v := 257) hx hb d_Unpacker_makeCodes_118 (by decide) ?_
              refine lv_iadd hx hb d_Unpacker_makeCodes_121 ?_
              refine lv_topi (fun y4_7 ey4_7 => ?_)
              replace hm := mL_e hm y4_7 ey4_7
              refine lv_istore (lv' := [(4, .int y4_7), (0, .ref a_this), (1, .int x1), (2, .int x2)]) hx hb d_Unpacker_makeCodes_122 hl (by decide) rfl (fun ls hl => ?_)
              refine lv_iload_n hx hb d_Unpacker_makeCodes_124 rfl (lv_at hl 3 rfl) ?_
              refine lv_iconst (v := 1) hx hb d_Unpacker_makeCodes_125 (by decide) ?_
              refine lv_iadd hx hb d_Unpacker_makeCodes_126 ?_
              refine lv_topi (fun y5_8 ey5_8 => ?_)
              replace hm := mL_e hm y5_8 ey5_8
              refine lv_istore (lv' := [(5, .int y5_8), (4, .int y4_7), (0, .ref a_this), (1, .int x1), (2, .int x2)]) hx hb d_Unpacker_makeCodes_127 hl (by decide) rfl (fun ls hl => ?_)
              refine lv_aload_n hx hb d_Unpacker_makeCodes_129 rfl (lv_at hl 2 rfl) ?_
              refine va_get (D := E.1) (ci := 9) (v := .ref a_lengthCodes) (C := R_Unpacker) (T := F_Unpacker) (N := 10) hx hb hts i_Unpacker hown hK hP 0 rfl rfl 6 (by decide) (hts _ tw_349) (fun _ h9 => h9) rfl d_Unpacker_makeCodes_130 ?_
              refine lv_aload_n hx hb d_Unpacker_makeCodes_133 rfl (lv_at hl 2 rfl) ?_
              refine va_get (D := E.1) (ci := 9) (v := .ref a_lengths) (C := R_Unpacker) (T := F_Unpacker) (N := 10) hx hb hts i_Unpacker hown hK hP 0 rfl rfl 7 (by decide) (hts _ tw_350) (fun _ h9 => h9) rfl d_Unpacker_makeCodes_134 ?_
              refine lv_iconst (v := 0) hx hb d_Unpacker_makeCodes_137 (by decide) ?_
              refine lv_bipush (v := 19) hx hb d_Unpacker_makeCodes_138 (by decide) ?_
              refine lv_iconst (v := 0) hx hb d_Unpacker_makeCodes_140 (by decide) ?_
              obtain ⟨r_12, c_symbols_9, c_counts_10, c_offsets_11, hc141, hm⟩ := mR3_e hm
              refine xmi (wc := (Table_make_w E a_lengthCodes a_lengthCodes_symbols a_lengths a_lengthCodes_counts a_lengthCodes_offsets n_lengthCodes_symbols 320 c_lengths c_lengthCodes_symbols c_lengthCodes_counts c_lengthCodes_offsets)) [false, false, false, false, true, true, true, true, true, false, false, false, false, false, false, false, false] [1, 2, 0, 3, 4] [2, 0, 1, 3, 4] hP hD hS hA rfl (by decide) (by decide) 5 (by decide) (fun _ => rfl) (fun hPc hDc hFc => va_runV (As := [.ref a_lengths, .int 0, .int 19, .int 0]) (rest := []) ⟨hx, hb, hml, hown, hts⟩ (c_Table_make l E F H.size a_lengthCodes a_lengthCodes_symbols a_lengths a_lengthCodes_counts a_lengthCodes_offsets n_lengthCodes_symbols 320 c_lengths c_lengthCodes_symbols c_lengthCodes_counts c_lengthCodes_offsets 0 19 0 (r_12, c_symbols_9, c_counts_10, c_offsets_11) hc141) (cwV 4 hts (x_gV tw_333 tw_334 tw_335 tw_78 tw_336) rfl rfl rfl (by decide +kernel) ⟨Nat.le_of_ble_eq_true rfl, Nat.le_of_ble_eq_true rfl⟩) (xPV 8 0 rfl rfl hPc hDc hFc hK hI hN hS) rfl rfl hl.1 rfl (lv_room (Nat.le_of_ble_eq_true rfl)) d_Unpacker_makeCodes_141 ⟨Nat.le_of_ble_eq_true rfl, Nat.le_of_ble_eq_true rfl⟩) (fun r9 u9 H locs hw hP hD hS => ?_)
              have hw1 : r_12 = r9 := hw.1.symm
              subst hw1
              have hw2 : (c_symbols_9, c_counts_10, c_offsets_11) = u9 := hw.2.symm
              subst hw2
              replace hP : va_P E.1 vwCl (Unpacker_makeCodes_w E a_this a_in a_in_row a_in_row_data a_lengths a_lengthCodes a_lengthCodes_symbols a_lengthCodes_counts a_lengthCodes_offsets a_madeSymbols a_madeSymbols_symbols a_madeSymbols_counts a_madeSymbols_offsets a_madeDistances a_madeDistances_symbols a_madeDistances_counts a_madeDistances_offsets n_in_row_data n_lengthCodes_symbols n_madeSymbols_symbols n_madeDistances_symbols x_out x_fixedSymbols x_fixedDistances v_in_end v_in_row_length c_in_row_data v_in_at c_lengths c_symbols_9 c_counts_10 c_offsets_11 c_madeSymbols_symbols c_madeSymbols_counts c_madeSymbols_offsets c_madeDistances_symbols c_madeDistances_counts c_madeDistances_offsets v_outStart v_farthest) H := hP
              replace hD : va_D A (Unpacker_makeCodes_w E a_this a_in a_in_row a_in_row_data a_lengths a_lengthCodes a_lengthCodes_symbols a_lengthCodes_counts a_lengthCodes_offsets a_madeSymbols a_madeSymbols_symbols a_madeSymbols_counts a_madeSymbols_offsets a_madeDistances a_madeDistances_symbols a_madeDistances_counts a_madeDistances_offsets n_in_row_data n_lengthCodes_symbols n_madeSymbols_symbols n_madeDistances_symbols x_out x_fixedSymbols x_fixedDistances v_in_end v_in_row_length c_in_row_data v_in_at c_lengths c_symbols_9 c_counts_10 c_offsets_11 c_madeSymbols_symbols c_madeSymbols_counts c_madeSymbols_offsets c_madeDistances_symbols c_madeDistances_counts c_madeDistances_offsets v_outStart v_farthest) := hD
              refine lv_if_eq (tgt := 211) hx hb d_Unpacker_makeCodes_144 (by decide) (fun c144 => ?_) (fun c144 => ?_)
              · replace hm := mC_t hm c144
                refine lv_iconst (v := 0) hx hb d_Unpacker_makeCodes_211 (by decide) ?_
                replace hm := Option.some.inj hm
                subst hm
                exact hret d_Unpacker_makeCodes_212 (by decide) (u := (v_in_at, c_lengths, c_symbols_9, c_counts_10, c_offsets_11, c_madeSymbols_symbols, c_madeSymbols_counts, c_madeSymbols_offsets, c_madeDistances_symbols, c_madeDistances_counts, c_madeDistances_offsets)) ⟨rfl, rfl⟩ hP hD hS
              · replace hm := mC_f hm c144
                refine lv_aload_n hx hb d_Unpacker_makeCodes_147 rfl (lv_at hl 2 rfl) ?_
                refine lv_iload hx hb d_Unpacker_makeCodes_148 (lv_at hl 1 rfl) ?_
                refine lv_iload hx hb d_Unpacker_makeCodes_150 (lv_at hl 0 rfl) ?_
                refine lv_iadd hx hb d_Unpacker_makeCodes_152 ?_
                obtain ⟨t_13, et_13⟩ : ∃ z : Int32, z = y4_7 + y5_8 := ⟨_, rfl⟩
                rw [← et_13]
                replace hm := mL_e hm t_13 et_13
                obtain ⟨r_16, c_lengths_14, v_in_at_15, hc153, hm⟩ := mR2_e hm
                refine xmi (wc := (Unpacker_readLengths_w E a_this a_lengths a_in a_in_row a_in_row_data a_lengthCodes a_lengthCodes_counts a_lengthCodes_symbols n_in_row_data n_lengthCodes_symbols x_out x_fixedSymbols x_fixedDistances (.ref a_madeSymbols) (.ref a_madeDistances) (.ref a_lengthCodes_offsets) v_in_end v_in_row_length c_in_row_data c_counts_10 c_symbols_9 c_lengths v_in_at v_outStart v_farthest)) [true, true, true, true, true, true, true, true, false, false, false, false, false, false, false, false, false] [0, 4, 1, 2, 3, 5, 7, 6] [0, 2, 3, 4, 1, 5, 7, 6] hP hD hS hA rfl (by decide) (by decide) 8 (by decide) (fun _ => rfl) (fun hPc hDc hFc => va_runV (As := [.int t_13]) (rest := []) ⟨hx, hb, hml, hown, hts⟩ (c_Unpacker_readLengths l E F H.size a_this a_lengths a_in a_in_row a_in_row_data a_lengthCodes a_lengthCodes_counts a_lengthCodes_symbols n_in_row_data n_lengthCodes_symbols x_out x_fixedSymbols x_fixedDistances (.ref a_madeSymbols) (.ref a_madeDistances) (.ref a_lengthCodes_offsets) v_in_end v_in_row_length c_in_row_data c_counts_10 c_symbols_9 c_lengths v_in_at v_outStart v_farthest t_13 (r_16, c_lengths_14, v_in_at_15) hc153) (cwV 1 hts (x_gV tw_753 tw_755 tw_28 tw_76 tw_756) rfl rfl rfl (by decide +kernel) ⟨Nat.le_of_ble_eq_true rfl, Nat.le_of_ble_eq_true rfl⟩) (xPV 9 0 rfl rfl hPc hDc hFc hK hI hN hS) rfl rfl hl.1 rfl (lv_room (Nat.le_of_ble_eq_true rfl)) d_Unpacker_makeCodes_153 ⟨Nat.le_of_ble_eq_true rfl, Nat.le_of_ble_eq_true rfl⟩) (fun r9 u9 H locs hw hP hD hS => ?_)
                have hw1 : r_16 = r9 := hw.1.symm
                subst hw1
                have hw2 : (c_lengths_14, v_in_at_15) = u9 := hw.2.symm
                subst hw2
                replace hP : va_P E.1 vwCl (Unpacker_makeCodes_w E a_this a_in a_in_row a_in_row_data a_lengths a_lengthCodes a_lengthCodes_symbols a_lengthCodes_counts a_lengthCodes_offsets a_madeSymbols a_madeSymbols_symbols a_madeSymbols_counts a_madeSymbols_offsets a_madeDistances a_madeDistances_symbols a_madeDistances_counts a_madeDistances_offsets n_in_row_data n_lengthCodes_symbols n_madeSymbols_symbols n_madeDistances_symbols x_out x_fixedSymbols x_fixedDistances v_in_end v_in_row_length c_in_row_data v_in_at_15 c_lengths_14 c_symbols_9 c_counts_10 c_offsets_11 c_madeSymbols_symbols c_madeSymbols_counts c_madeSymbols_offsets c_madeDistances_symbols c_madeDistances_counts c_madeDistances_offsets v_outStart v_farthest) H := hP
                replace hD : va_D A (Unpacker_makeCodes_w E a_this a_in a_in_row a_in_row_data a_lengths a_lengthCodes a_lengthCodes_symbols a_lengthCodes_counts a_lengthCodes_offsets a_madeSymbols a_madeSymbols_symbols a_madeSymbols_counts a_madeSymbols_offsets a_madeDistances a_madeDistances_symbols a_madeDistances_counts a_madeDistances_offsets n_in_row_data n_lengthCodes_symbols n_madeSymbols_symbols n_madeDistances_symbols x_out x_fixedSymbols x_fixedDistances v_in_end v_in_row_length c_in_row_data v_in_at_15 c_lengths_14 c_symbols_9 c_counts_10 c_offsets_11 c_madeSymbols_symbols c_madeSymbols_counts c_madeSymbols_offsets c_madeDistances_symbols c_madeDistances_counts c_madeDistances_offsets v_outStart v_farthest) := hD
                refine lv_if_eq (tgt := 211) hx hb d_Unpacker_makeCodes_156 (by decide) (fun c156 => ?_) (fun c156 => ?_)
                · replace hm := mC_t hm c156
                  refine lv_iconst (v := 0) hx hb d_Unpacker_makeCodes_211 (by decide) ?_
                  replace hm := Option.some.inj hm
                  subst hm
                  exact hret d_Unpacker_makeCodes_212 (by decide) (u := (v_in_at_15, c_lengths_14, c_symbols_9, c_counts_10, c_offsets_11, c_madeSymbols_symbols, c_madeSymbols_counts, c_madeSymbols_offsets, c_madeDistances_symbols, c_madeDistances_counts, c_madeDistances_offsets)) ⟨rfl, rfl⟩ hP hD hS
                · replace hm := mC_f hm c156
                  refine lv_aload_n hx hb d_Unpacker_makeCodes_159 rfl (lv_at hl 2 rfl) ?_
                  refine va_get (D := E.1) (ci := 9) (v := .ref a_lengths) (C := R_Unpacker) (T := F_Unpacker) (N := 10) hx hb hts i_Unpacker hown hK hP 0 rfl rfl 7 (by decide) (hts _ tw_350) (fun _ h9 => h9) rfl d_Unpacker_makeCodes_160 ?_
                  refine lv_sipush (v := 256) hx hb d_Unpacker_makeCodes_163 (by decide) ?_
                  obtain ⟨hi166, hm⟩ := mG_e hm
                  refine va_iald hx hb hK hP 4 0 rfl rfl hi166 d_Unpacker_makeCodes_166 ?_
                  refine lv_if_le (tgt := 211) hx hb d_Unpacker_makeCodes_167 (by decide) (fun c167 => ?_) (fun c167 => ?_)
                  · replace hm := mC_t hm c167
                    refine lv_iconst (v := 0) hx hb d_Unpacker_makeCodes_211 (by decide) ?_
                    replace hm := Option.some.inj hm
                    subst hm
                    exact hret d_Unpacker_makeCodes_212 (by decide) (u := (v_in_at_15, c_lengths_14, c_symbols_9, c_counts_10, c_offsets_11, c_madeSymbols_symbols, c_madeSymbols_counts, c_madeSymbols_offsets, c_madeDistances_symbols, c_madeDistances_counts, c_madeDistances_offsets)) ⟨rfl, rfl⟩ hP hD hS
                  · replace hm := mC_f hm c167
                    refine lv_aload_n hx hb d_Unpacker_makeCodes_170 rfl (lv_at hl 2 rfl) ?_
                    refine va_get (D := E.1) (ci := 9) (v := .ref a_madeSymbols) (C := R_Unpacker) (T := F_Unpacker) (N := 10) hx hb hts i_Unpacker hown hK hP 0 rfl rfl 4 (by decide) (hts _ tw_347) (fun _ h9 => h9) rfl d_Unpacker_makeCodes_171 ?_
                    refine lv_aload_n hx hb d_Unpacker_makeCodes_174 rfl (lv_at hl 2 rfl) ?_
                    refine va_get (D := E.1) (ci := 9) (v := .ref a_lengths) (C := R_Unpacker) (T := F_Unpacker) (N := 10) hx hb hts i_Unpacker hown hK hP 0 rfl rfl 7 (by decide) (hts _ tw_350) (fun _ h9 => h9) rfl d_Unpacker_makeCodes_175 ?_
                    refine lv_iconst (v := 0) hx hb d_Unpacker_makeCodes_178 (by decide) ?_
                    refine lv_iload hx hb d_Unpacker_makeCodes_179 (lv_at hl 1 rfl) ?_
                    refine lv_iconst (v := 0) hx hb d_Unpacker_makeCodes_181 (by decide) ?_
                    obtain ⟨r_20, c_symbols_17, c_counts_18, c_offsets_19, hc182, hm⟩ := mR3_e hm
                    refine xmi (wc := (Table_make_w E a_madeSymbols a_madeSymbols_symbols a_lengths a_madeSymbols_counts a_madeSymbols_offsets n_madeSymbols_symbols 320 c_lengths_14 c_madeSymbols_symbols c_madeSymbols_counts c_madeSymbols_offsets)) [false, false, false, false, true, false, false, false, false, true, true, true, true, false, false, false, false] [1, 2, 0, 3, 4] [2, 0, 1, 3, 4] hP hD hS hA rfl (by decide) (by decide) 5 (by decide) (fun _ => rfl) (fun hPc hDc hFc => va_runV (As := [.ref a_lengths, .int 0, .int y4_7, .int 0]) (rest := []) ⟨hx, hb, hml, hown, hts⟩ (c_Table_make l E F H.size a_madeSymbols a_madeSymbols_symbols a_lengths a_madeSymbols_counts a_madeSymbols_offsets n_madeSymbols_symbols 320 c_lengths_14 c_madeSymbols_symbols c_madeSymbols_counts c_madeSymbols_offsets 0 y4_7 0 (r_20, c_symbols_17, c_counts_18, c_offsets_19) hc182) (cwV 4 hts (x_gV tw_333 tw_334 tw_335 tw_78 tw_336) rfl rfl rfl (by decide +kernel) ⟨Nat.le_of_ble_eq_true rfl, Nat.le_of_ble_eq_true rfl⟩) (xPV 8 0 rfl rfl hPc hDc hFc hK hI hN hS) rfl rfl hl.1 rfl (lv_room (Nat.le_of_ble_eq_true rfl)) d_Unpacker_makeCodes_182 ⟨Nat.le_of_ble_eq_true rfl, Nat.le_of_ble_eq_true rfl⟩) (fun r9 u9 H locs hw hP hD hS => ?_)
                    have hw1 : r_20 = r9 := hw.1.symm
                    subst hw1
                    have hw2 : (c_symbols_17, c_counts_18, c_offsets_19) = u9 := hw.2.symm
                    subst hw2
                    replace hP : va_P E.1 vwCl (Unpacker_makeCodes_w E a_this a_in a_in_row a_in_row_data a_lengths a_lengthCodes a_lengthCodes_symbols a_lengthCodes_counts a_lengthCodes_offsets a_madeSymbols a_madeSymbols_symbols a_madeSymbols_counts a_madeSymbols_offsets a_madeDistances a_madeDistances_symbols a_madeDistances_counts a_madeDistances_offsets n_in_row_data n_lengthCodes_symbols n_madeSymbols_symbols n_madeDistances_symbols x_out x_fixedSymbols x_fixedDistances v_in_end v_in_row_length c_in_row_data v_in_at_15 c_lengths_14 c_symbols_9 c_counts_10 c_offsets_11 c_symbols_17 c_counts_18 c_offsets_19 c_madeDistances_symbols c_madeDistances_counts c_madeDistances_offsets v_outStart v_farthest) H := hP
                    replace hD : va_D A (Unpacker_makeCodes_w E a_this a_in a_in_row a_in_row_data a_lengths a_lengthCodes a_lengthCodes_symbols a_lengthCodes_counts a_lengthCodes_offsets a_madeSymbols a_madeSymbols_symbols a_madeSymbols_counts a_madeSymbols_offsets a_madeDistances a_madeDistances_symbols a_madeDistances_counts a_madeDistances_offsets n_in_row_data n_lengthCodes_symbols n_madeSymbols_symbols n_madeDistances_symbols x_out x_fixedSymbols x_fixedDistances v_in_end v_in_row_length c_in_row_data v_in_at_15 c_lengths_14 c_symbols_9 c_counts_10 c_offsets_11 c_symbols_17 c_counts_18 c_offsets_19 c_madeDistances_symbols c_madeDistances_counts c_madeDistances_offsets v_outStart v_farthest) := hD
                    refine lv_if_eq (tgt := 211) hx hb d_Unpacker_makeCodes_185 (by decide) (fun c185 => ?_) (fun c185 => ?_)
                    · replace hm := mC_t hm c185
                      refine lv_iconst (v := 0) hx hb d_Unpacker_makeCodes_211 (by decide) ?_
                      replace hm := Option.some.inj hm
                      subst hm
                      exact hret d_Unpacker_makeCodes_212 (by decide) (u := (v_in_at_15, c_lengths_14, c_symbols_9, c_counts_10, c_offsets_11, c_symbols_17, c_counts_18, c_offsets_19, c_madeDistances_symbols, c_madeDistances_counts, c_madeDistances_offsets)) ⟨rfl, rfl⟩ hP hD hS
                    · replace hm := mC_f hm c185
                      refine lv_aload_n hx hb d_Unpacker_makeCodes_188 rfl (lv_at hl 2 rfl) ?_
                      refine va_get (D := E.1) (ci := 9) (v := .ref a_madeDistances) (C := R_Unpacker) (T := F_Unpacker) (N := 10) hx hb hts i_Unpacker hown hK hP 0 rfl rfl 5 (by decide) (hts _ tw_348) (fun _ h9 => h9) rfl d_Unpacker_makeCodes_189 ?_
                      refine lv_aload_n hx hb d_Unpacker_makeCodes_192 rfl (lv_at hl 2 rfl) ?_
                      refine va_get (D := E.1) (ci := 9) (v := .ref a_lengths) (C := R_Unpacker) (T := F_Unpacker) (N := 10) hx hb hts i_Unpacker hown hK hP 0 rfl rfl 7 (by decide) (hts _ tw_350) (fun _ h9 => h9) rfl d_Unpacker_makeCodes_193 ?_
                      refine lv_iload hx hb d_Unpacker_makeCodes_196 (lv_at hl 1 rfl) ?_
                      refine lv_iload hx hb d_Unpacker_makeCodes_198 (lv_at hl 0 rfl) ?_
                      refine lv_iconst (v := 1) hx hb d_Unpacker_makeCodes_200 (by decide) ?_
                      obtain ⟨r_24, c_symbols_21, c_counts_22, c_offsets_23, hc201, hm⟩ := mR3_e hm
                      refine xmi (wc := (Table_make_w E a_madeDistances a_madeDistances_symbols a_lengths a_madeDistances_counts a_madeDistances_offsets n_madeDistances_symbols 320 c_lengths_14 c_madeDistances_symbols c_madeDistances_counts c_madeDistances_offsets)) [false, false, false, false, true, false, false, false, false, false, false, false, false, true, true, true, true] [1, 2, 0, 3, 4] [2, 0, 1, 3, 4] hP hD hS hA rfl (by decide) (by decide) 5 (by decide) (fun _ => rfl) (fun hPc hDc hFc => va_runV (As := [.ref a_lengths, .int y4_7, .int y5_8, .int 1]) (rest := []) ⟨hx, hb, hml, hown, hts⟩ (c_Table_make l E F H.size a_madeDistances a_madeDistances_symbols a_lengths a_madeDistances_counts a_madeDistances_offsets n_madeDistances_symbols 320 c_lengths_14 c_madeDistances_symbols c_madeDistances_counts c_madeDistances_offsets y4_7 y5_8 1 (r_24, c_symbols_21, c_counts_22, c_offsets_23) hc201) (cwV 4 hts (x_gV tw_333 tw_334 tw_335 tw_78 tw_336) rfl rfl rfl (by decide +kernel) ⟨Nat.le_of_ble_eq_true rfl, Nat.le_of_ble_eq_true rfl⟩) (xPV 8 0 rfl rfl hPc hDc hFc hK hI hN hS) rfl rfl hl.1 rfl (lv_room (Nat.le_of_ble_eq_true rfl)) d_Unpacker_makeCodes_201 ⟨Nat.le_of_ble_eq_true rfl, Nat.le_of_ble_eq_true rfl⟩) (fun r9 u9 H locs hw hP hD hS => ?_)
                      have hw1 : r_24 = r9 := hw.1.symm
                      subst hw1
                      have hw2 : (c_symbols_21, c_counts_22, c_offsets_23) = u9 := hw.2.symm
                      subst hw2
                      replace hP : va_P E.1 vwCl (Unpacker_makeCodes_w E a_this a_in a_in_row a_in_row_data a_lengths a_lengthCodes a_lengthCodes_symbols a_lengthCodes_counts a_lengthCodes_offsets a_madeSymbols a_madeSymbols_symbols a_madeSymbols_counts a_madeSymbols_offsets a_madeDistances a_madeDistances_symbols a_madeDistances_counts a_madeDistances_offsets n_in_row_data n_lengthCodes_symbols n_madeSymbols_symbols n_madeDistances_symbols x_out x_fixedSymbols x_fixedDistances v_in_end v_in_row_length c_in_row_data v_in_at_15 c_lengths_14 c_symbols_9 c_counts_10 c_offsets_11 c_symbols_17 c_counts_18 c_offsets_19 c_symbols_21 c_counts_22 c_offsets_23 v_outStart v_farthest) H := hP
                      replace hD : va_D A (Unpacker_makeCodes_w E a_this a_in a_in_row a_in_row_data a_lengths a_lengthCodes a_lengthCodes_symbols a_lengthCodes_counts a_lengthCodes_offsets a_madeSymbols a_madeSymbols_symbols a_madeSymbols_counts a_madeSymbols_offsets a_madeDistances a_madeDistances_symbols a_madeDistances_counts a_madeDistances_offsets n_in_row_data n_lengthCodes_symbols n_madeSymbols_symbols n_madeDistances_symbols x_out x_fixedSymbols x_fixedDistances v_in_end v_in_row_length c_in_row_data v_in_at_15 c_lengths_14 c_symbols_9 c_counts_10 c_offsets_11 c_symbols_17 c_counts_18 c_offsets_19 c_symbols_21 c_counts_22 c_offsets_23 v_outStart v_farthest) := hD
                      refine lv_if_eq (tgt := 211) hx hb d_Unpacker_makeCodes_204 (by decide) (fun c204 => ?_) (fun c204 => ?_)
                      · replace hm := mC_t hm c204
                        refine lv_iconst (v := 0) hx hb d_Unpacker_makeCodes_211 (by decide) ?_
                        replace hm := Option.some.inj hm
                        subst hm
                        exact hret d_Unpacker_makeCodes_212 (by decide) (u := (v_in_at_15, c_lengths_14, c_symbols_9, c_counts_10, c_offsets_11, c_symbols_17, c_counts_18, c_offsets_19, c_symbols_21, c_counts_22, c_offsets_23)) ⟨rfl, rfl⟩ hP hD hS
                      · replace hm := mC_f hm c204
                        refine lv_iconst (v := 1) hx hb d_Unpacker_makeCodes_207 (by decide) ?_
                        refine lv_goto (tgt := 212) hx hb d_Unpacker_makeCodes_208 (by decide) ?_
                        replace hm := Option.some.inj hm
                        subst hm
                        exact hret d_Unpacker_makeCodes_212 (by decide) (u := (v_in_at_15, c_lengths_14, c_symbols_9, c_counts_10, c_offsets_11, c_symbols_17, c_counts_18, c_offsets_19, c_symbols_21, c_counts_22, c_offsets_23)) ⟨rfl, rfl⟩ hP hD hS
            have h_64 : ∀ (n_64 : Nat) (v_in_at : Int32) (c_lengths : Nat → Int32) (c_lengthCodes_symbols : Nat → Int32) (c_lengthCodes_counts : Nat → Int32) (c_lengthCodes_offsets : Nat → Int32) (c_madeSymbols_symbols : Nat → Int32) (c_madeSymbols_counts : Nat → Int32) (c_madeSymbols_offsets : Nat → Int32) (c_madeDistances_symbols : Nat → Int32) (c_madeDistances_counts : Nat → Int32) (c_madeDistances_offsets : Nat → Int32) (x1 : Int32) (x2 : Int32) (x3 : Int32) (x4 : Int32) (H : Heap) (locs : List Loc) (ls : Array Slot), (mW15 (Unpacker_makeCodes_64 F n_in_row_data v_in_end v_in_row_length c_in_row_data (Unpacker_makeCodes_117 F n_in_row_data n_lengthCodes_symbols n_madeSymbols_symbols n_madeDistances_symbols v_in_end v_in_row_length c_in_row_data)) n_64) v_in_at c_lengths c_lengthCodes_symbols c_lengthCodes_counts c_lengthCodes_offsets c_madeSymbols_symbols c_madeSymbols_counts c_madeSymbols_offsets c_madeDistances_symbols c_madeDistances_counts c_madeDistances_offsets x1 x2 x3 x4 = some res → va_P E.1 vwCl (Unpacker_makeCodes_w E a_this a_in a_in_row a_in_row_data a_lengths a_lengthCodes a_lengthCodes_symbols a_lengthCodes_counts a_lengthCodes_offsets a_madeSymbols a_madeSymbols_symbols a_madeSymbols_counts a_madeSymbols_offsets a_madeDistances a_madeDistances_symbols a_madeDistances_counts a_madeDistances_offsets n_in_row_data n_lengthCodes_symbols n_madeSymbols_symbols n_madeDistances_symbols x_out x_fixedSymbols x_fixedDistances v_in_end v_in_row_length c_in_row_data v_in_at c_lengths c_lengthCodes_symbols c_lengthCodes_counts c_lengthCodes_offsets c_madeSymbols_symbols c_madeSymbols_counts c_madeSymbols_offsets c_madeDistances_symbols c_madeDistances_counts c_madeDistances_offsets v_outStart v_farthest) H → va_D A (Unpacker_makeCodes_w E a_this a_in a_in_row a_in_row_data a_lengths a_lengthCodes a_lengthCodes_symbols a_lengthCodes_counts a_lengthCodes_offsets a_madeSymbols a_madeSymbols_symbols a_madeSymbols_counts a_madeSymbols_offsets a_madeDistances a_madeDistances_symbols a_madeDistances_counts a_madeDistances_offsets n_in_row_data n_lengthCodes_symbols n_madeSymbols_symbols n_madeDistances_symbols x_out x_fixedSymbols x_fixedDistances v_in_end v_in_row_length c_in_row_data v_in_at c_lengths c_lengthCodes_symbols c_lengthCodes_counts c_lengthCodes_offsets c_madeSymbols_symbols c_madeSymbols_counts c_madeSymbols_offsets c_madeDistances_symbols c_madeDistances_counts c_madeDistances_offsets v_outStart v_farthest) → va_S A s.heap H locs → lv_has ls 6 [(0, .ref a_this), (1, .int x1), (2, .int x2), (3, .int x3), (4, .int x4)] → W p l e Unpacker_makeCodes_rm s m args below meth c H locs 0 0 Q (F0 m 64 ls []) := by
              intro n_64
              induction n_64 with
              | zero => exact fun _ _ _ _ _ _ _ _ _ _ _ _ _ _ _ _ _ _ hm _ _ _ _ => (mW15_z hm).elim
              | succ n_64 ih_64 =>
                intro v_in_at c_lengths c_lengthCodes_symbols c_lengthCodes_counts c_lengthCodes_offsets c_madeSymbols_symbols c_madeSymbols_counts c_madeSymbols_offsets c_madeDistances_symbols c_madeDistances_counts c_madeDistances_offsets x1 x2 x3 x4 H locs ls hm hP hD hS hl
                replace hm := mW15_s hm
                rw [Unpacker_makeCodes_64] at hm
                refine lv_iload hx hb d_Unpacker_makeCodes_64 (lv_at hl 4 rfl) ?_
                refine lv_iload_n hx hb d_Unpacker_makeCodes_66 rfl (lv_at hl 3 rfl) ?_
                refine lv_iconst (v := 4) hx hb d_Unpacker_makeCodes_67 (by decide) ?_
                refine lv_iadd hx hb d_Unpacker_makeCodes_68 ?_
                refine lv_icmp_ge (tgt := 117) hx hb d_Unpacker_makeCodes_69 (by decide) (fun c69 => ?_) (fun c69 => ?_)
                · replace hm := mC_t hm c69
                  exact h_117 _ _ _ _ _ _ _ _ _ _ _ _ _ H locs ls hm hP hD hS (lv_sub hl [0, 1, 2] rfl)
                · replace hm := mC_f hm c69
                  refine lv_iload hx hb d_Unpacker_makeCodes_72 (lv_at hl 4 rfl) ?_
                  refine va_getsN hx hb hI.1 hS hown (va_Nw.use rfl (nF_3 hN)) (fun _ h9 => h9) d_Unpacker_makeCodes_74 ?_
                  refine va_tlen (v := 19) hx hb hI.2 hS rfl d_Unpacker_makeCodes_77 ?_
                  refine lv_icmp_ge (tgt := 117) hx hb d_Unpacker_makeCodes_78 (by decide) (fun c78 => ?_) (fun c78 => ?_)
                  · replace hm := mC_t hm c78
                    exact h_117 _ _ _ _ _ _ _ _ _ _ _ _ _ H locs ls hm hP hD hS (lv_sub hl [0, 1, 2] rfl)
                  · replace hm := mC_f hm c78
                    refine lv_aload_n hx hb d_Unpacker_makeCodes_81 rfl (lv_at hl 0 rfl) ?_
                    refine va_get (D := E.1) (ci := 9) (v := .ref a_in) (C := R_Unpacker) (T := F_Unpacker) (N := 10) hx hb hts i_Unpacker hown hK hP 0 rfl rfl 0 (by decide) (hts _ tw_343) (fun _ h9 => h9) rfl d_Unpacker_makeCodes_82 ?_
                    refine lv_iconst (v := 3) hx hb d_Unpacker_makeCodes_85 (by decide) ?_
                    obtain ⟨r_26, v_at_25, hc86, hm⟩ := mR1_e hm
                    refine xmi (wc := (BitReader_number_w E a_in a_in_row a_in_row_data n_in_row_data v_in_end v_in_row_length c_in_row_data v_in_at)) [false, true, true, true, false, false, false, false, false, false, false, false, false, false, false, false, false] [0, 1, 2] [0, 1, 2] hP hD hS hA rfl (by decide) (by decide) 3 (by decide) (fun _ => rfl) (fun hPc hDc hFc => va_runV (As := [.int 3]) (rest := []) ⟨hx, hb, hml, hown, hts⟩ (c_BitReader_number l E F H.size a_in a_in_row a_in_row_data n_in_row_data v_in_end v_in_row_length c_in_row_data v_in_at 3 (r_26, v_at_25) hc86) (cwV 1 hts (x_gV tw_706 tw_707 tw_708 tw_77 tw_709) rfl rfl rfl (by decide +kernel) ⟨Nat.le_of_ble_eq_true rfl, Nat.le_of_ble_eq_true rfl⟩) (xPV 0 0 rfl rfl hPc hDc hFc hK hI hN hS) rfl rfl hl.1 rfl (lv_room (Nat.le_of_ble_eq_true rfl)) d_Unpacker_makeCodes_86 ⟨Nat.le_of_ble_eq_true rfl, Nat.le_of_ble_eq_true rfl⟩) (fun r9 u9 H locs hw hP hD hS => ?_)
                    have hw1 : r_26 = r9 := hw.1.symm
                    subst hw1
                    have hw2 : v_at_25 = u9 := hw.2.symm
                    subst hw2
                    replace hP : va_P E.1 vwCl (Unpacker_makeCodes_w E a_this a_in a_in_row a_in_row_data a_lengths a_lengthCodes a_lengthCodes_symbols a_lengthCodes_counts a_lengthCodes_offsets a_madeSymbols a_madeSymbols_symbols a_madeSymbols_counts a_madeSymbols_offsets a_madeDistances a_madeDistances_symbols a_madeDistances_counts a_madeDistances_offsets n_in_row_data n_lengthCodes_symbols n_madeSymbols_symbols n_madeDistances_symbols x_out x_fixedSymbols x_fixedDistances v_in_end v_in_row_length c_in_row_data v_at_25 c_lengths c_lengthCodes_symbols c_lengthCodes_counts c_lengthCodes_offsets c_madeSymbols_symbols c_madeSymbols_counts c_madeSymbols_offsets c_madeDistances_symbols c_madeDistances_counts c_madeDistances_offsets v_outStart v_farthest) H := hP
                    replace hD : va_D A (Unpacker_makeCodes_w E a_this a_in a_in_row a_in_row_data a_lengths a_lengthCodes a_lengthCodes_symbols a_lengthCodes_counts a_lengthCodes_offsets a_madeSymbols a_madeSymbols_symbols a_madeSymbols_counts a_madeSymbols_offsets a_madeDistances a_madeDistances_symbols a_madeDistances_counts a_madeDistances_offsets n_in_row_data n_lengthCodes_symbols n_madeSymbols_symbols n_madeDistances_symbols x_out x_fixedSymbols x_fixedDistances v_in_end v_in_row_length c_in_row_data v_at_25 c_lengths c_lengthCodes_symbols c_lengthCodes_counts c_lengthCodes_offsets c_madeSymbols_symbols c_madeSymbols_counts c_madeSymbols_offsets c_madeDistances_symbols c_madeDistances_counts c_madeDistances_offsets v_outStart v_farthest) := hD
                    refine lv_istore (lv' := [(5, .int r_26), (0, .ref a_this), (1, .int x1), (2, .int x2), (3, .int x3), (4, .int x4)]) hx hb d_Unpacker_makeCodes_89 hl (by decide) rfl (fun ls hl => ?_)
                    refine lv_iload hx hb d_Unpacker_makeCodes_91 (lv_at hl 0 rfl) ?_
                    refine lv_if_ge (tgt := 98) hx hb d_Unpacker_makeCodes_93 (by decide) (fun c93 => ?_) (fun c93 => ?_)
                    · replace hm := mC_t hm c93
                      refine lv_aload_n hx hb d_Unpacker_makeCodes_98 rfl (lv_at hl 1 rfl) ?_
                      refine va_get (D := E.1) (ci := 9) (v := .ref a_lengths) (C := R_Unpacker) (T := F_Unpacker) (N := 10) hx hb hts i_Unpacker hown hK hP 0 rfl rfl 7 (by decide) (hts _ tw_350) (fun _ h9 => h9) rfl d_Unpacker_makeCodes_99 ?_
                      refine va_getsN hx hb hI.1 hS hown (va_Nw.use rfl (nF_3 hN)) (fun _ h9 => h9) d_Unpacker_makeCodes_102 ?_
                      refine lv_iload hx hb d_Unpacker_makeCodes_105 (lv_at hl 5 rfl) ?_
                      obtain ⟨hi107, hm⟩ := mG_e hm
                      refine va_ti hx hb hI.2 hS hi107 (v := .int (tb_order x4.toNatClampNeg)) rfl d_Unpacker_makeCodes_107 ?_
                      refine lv_iload hx hb d_Unpacker_makeCodes_108 (lv_at hl 0 rfl) ?_
                      obtain ⟨t_27, et_27⟩ : ∃ z : Int32, z = tb_order x4.toNatClampNeg := ⟨_, rfl⟩
                      rw [← et_27]
                      replace hm := mL_e hm t_27 et_27
                      obtain ⟨hi110, hm⟩ := mG_e hm
                      obtain ⟨c_28, ec_28⟩ : ∃ z : Nat → Int32, z = upd c_lengths t_27.toNatClampNeg r_26 := ⟨_, rfl⟩
                      replace hm := mL_e hm c_28 ec_28
                      refine va_iast hx hb hK hP hD hS 4 0 rfl rfl hi110 d_Unpacker_makeCodes_110 (fun H locs hP hD hS => ?_)
                      rw [← ec_28] at hP hD
                      replace hP : va_P E.1 vwCl (Unpacker_makeCodes_w E a_this a_in a_in_row a_in_row_data a_lengths a_lengthCodes a_lengthCodes_symbols a_lengthCodes_counts a_lengthCodes_offsets a_madeSymbols a_madeSymbols_symbols a_madeSymbols_counts a_madeSymbols_offsets a_madeDistances a_madeDistances_symbols a_madeDistances_counts a_madeDistances_offsets n_in_row_data n_lengthCodes_symbols n_madeSymbols_symbols n_madeDistances_symbols x_out x_fixedSymbols x_fixedDistances v_in_end v_in_row_length c_in_row_data v_at_25 c_28 c_lengthCodes_symbols c_lengthCodes_counts c_lengthCodes_offsets c_madeSymbols_symbols c_madeSymbols_counts c_madeSymbols_offsets c_madeDistances_symbols c_madeDistances_counts c_madeDistances_offsets v_outStart v_farthest) H := hP
                      replace hD : va_D A (Unpacker_makeCodes_w E a_this a_in a_in_row a_in_row_data a_lengths a_lengthCodes a_lengthCodes_symbols a_lengthCodes_counts a_lengthCodes_offsets a_madeSymbols a_madeSymbols_symbols a_madeSymbols_counts a_madeSymbols_offsets a_madeDistances a_madeDistances_symbols a_madeDistances_counts a_madeDistances_offsets n_in_row_data n_lengthCodes_symbols n_madeSymbols_symbols n_madeDistances_symbols x_out x_fixedSymbols x_fixedDistances v_in_end v_in_row_length c_in_row_data v_at_25 c_28 c_lengthCodes_symbols c_lengthCodes_counts c_lengthCodes_offsets c_madeSymbols_symbols c_madeSymbols_counts c_madeSymbols_offsets c_madeDistances_symbols c_madeDistances_counts c_madeDistances_offsets v_outStart v_farthest) := hD
                      obtain ⟨y4_29, ey4_29⟩ : ∃ y : Int32, y = x4 + 1 := ⟨_, rfl⟩
                      replace hm := mL_e hm y4_29 ey4_29
                      refine lv_iinc (v := y4_29) (lv' := [(4, .int y4_29), (5, .int r_26), (0, .ref a_this), (1, .int x1), (2, .int x2), (3, .int x3)]) hx hb d_Unpacker_makeCodes_111 hl (k := 5) rfl (by rw [ey4_29]; rfl) (by decide) rfl (fun ls hl => ?_)
                      refine lv_goto (tgt := 64) hx hb d_Unpacker_makeCodes_114 (by decide) ?_
                      exact ih_64 _ _ _ _ _ _ _ _ _ _ _ _ _ _ _ H locs ls hm hP hD hS (lv_sub hl [2, 3, 4, 5, 0] rfl)
                    · replace hm := mC_f hm c93
                      refine lv_iconst (v := 0) hx hb d_Unpacker_makeCodes_96 (by decide) ?_
                      replace hm := Option.some.inj hm
                      subst hm
                      exact hret d_Unpacker_makeCodes_97 (by decide) (u := (v_at_25, c_lengths, c_lengthCodes_symbols, c_lengthCodes_counts, c_lengthCodes_offsets, c_madeSymbols_symbols, c_madeSymbols_counts, c_madeSymbols_offsets, c_madeDistances_symbols, c_madeDistances_counts, c_madeDistances_offsets)) ⟨rfl, rfl⟩ hP hD hS
            refine lv_aload_n hx hb d_Unpacker_makeCodes_53 rfl (lv_at hl 3 rfl) ?_
            refine va_get (D := E.1) (ci := 9) (v := .ref a_lengths) (C := R_Unpacker) (T := F_Unpacker) (N := 10) hx hb hts i_Unpacker hown hK hP 0 rfl rfl 7 (by decide) (hts _ tw_350) (fun _ h9 => h9) rfl d_Unpacker_makeCodes_54 ?_
            refine lv_iconst (v := 0) hx hb d_Unpacker_makeCodes_57 (by decide) ?_
            obtain ⟨r_31, c_p0_30, hc58, hm⟩ := mR1_e hm
            refine xmv (wc := (Arr_fill_w E a_lengths 320 c_lengths)) [false, false, false, false, true, false, false, false, false, false, false, false, false, false, false, false, false] [0] [0] hP hD hS hA rfl (by decide) (by decide) 1 (by decide) (fun _ => rfl) (fun hPc hDc hFc => va_runS (As := [.ref a_lengths, .int 0]) (rest := []) ⟨hx, hb, hml, hown, hts⟩ (c_Arr_fill l E F H.size a_lengths 320 c_lengths 0 (r_31, c_p0_30) hc58) (va_cwS 2 hts (x_gS tw_342 tw_239 tw_75 tw_240) rfl rfl rfl (by decide +kernel) ⟨Nat.le_of_ble_eq_true rfl, Nat.le_of_ble_eq_true rfl⟩) (xPS hPc hDc hFc hK hI hN hS) rfl rfl hl.1 rfl (lv_room (Nat.le_of_ble_eq_true rfl)) d_Unpacker_makeCodes_58 ⟨Nat.le_of_ble_eq_true rfl, Nat.le_of_ble_eq_true rfl⟩) (fun u9 H locs hw hP hD hS => ?_)
            have hw2 : c_p0_30 = u9 := hw.symm
            subst hw2
            replace hP : va_P E.1 vwCl (Unpacker_makeCodes_w E a_this a_in a_in_row a_in_row_data a_lengths a_lengthCodes a_lengthCodes_symbols a_lengthCodes_counts a_lengthCodes_offsets a_madeSymbols a_madeSymbols_symbols a_madeSymbols_counts a_madeSymbols_offsets a_madeDistances a_madeDistances_symbols a_madeDistances_counts a_madeDistances_offsets n_in_row_data n_lengthCodes_symbols n_madeSymbols_symbols n_madeDistances_symbols x_out x_fixedSymbols x_fixedDistances v_in_end v_in_row_length c_in_row_data v_at_5 c_p0_30 c_lengthCodes_symbols c_lengthCodes_counts c_lengthCodes_offsets c_madeSymbols_symbols c_madeSymbols_counts c_madeSymbols_offsets c_madeDistances_symbols c_madeDistances_counts c_madeDistances_offsets v_outStart v_farthest) H := hP
            replace hD : va_D A (Unpacker_makeCodes_w E a_this a_in a_in_row a_in_row_data a_lengths a_lengthCodes a_lengthCodes_symbols a_lengthCodes_counts a_lengthCodes_offsets a_madeSymbols a_madeSymbols_symbols a_madeSymbols_counts a_madeSymbols_offsets a_madeDistances a_madeDistances_symbols a_madeDistances_counts a_madeDistances_offsets n_in_row_data n_lengthCodes_symbols n_madeSymbols_symbols n_madeDistances_symbols x_out x_fixedSymbols x_fixedDistances v_in_end v_in_row_length c_in_row_data v_at_5 c_p0_30 c_lengthCodes_symbols c_lengthCodes_counts c_lengthCodes_offsets c_madeSymbols_symbols c_madeSymbols_counts c_madeSymbols_offsets c_madeDistances_symbols c_madeDistances_counts c_madeDistances_offsets v_outStart v_farthest) := hD
            refine lv_iconst (v := 0) hx hb d_Unpacker_makeCodes_61 (by decide) ?_
            refine lv_istore (lv' := [(4, .int 0), (3, .int r_6), (2, .int r_4), (1, .int r_2), (0, .ref a_this)]) hx hb d_Unpacker_makeCodes_62 hl (by decide) rfl (fun ls hl => ?_)
            exact h_64 F _ _ _ _ _ _ _ _ _ _ _ _ _ _ _ H locs ls hm hP hD hS (lv_sub hl [4, 3, 2, 1, 0] rfl)
          · replace hm := mC_f hm c48
            refine lv_iconst (v := 0) hx hb d_Unpacker_makeCodes_51 (by decide) ?_
            replace hm := Option.some.inj hm
            subst hm
            exact hret d_Unpacker_makeCodes_52 (by decide) (u := (v_at_5, c_lengths, c_lengthCodes_symbols, c_lengthCodes_counts, c_lengthCodes_offsets, c_madeSymbols_symbols, c_madeSymbols_counts, c_madeSymbols_offsets, c_madeDistances_symbols, c_madeDistances_counts, c_madeDistances_offsets)) ⟨rfl, rfl⟩ hP hD hS
theorem d_Unpacker_repeatBytes_0 : decode b_Unpacker_repeatBytes 0 = .ok (.aload_n 0, 1) := by decide +kernel
theorem d_Unpacker_repeatBytes_1 : decode b_Unpacker_repeatBytes 1 = .ok (.getfield 14, 3) := by decide +kernel
theorem d_Unpacker_repeatBytes_4 : decode b_Unpacker_repeatBytes 4 = .ok (.iload_n 1, 1) := by decide +kernel
theorem d_Unpacker_repeatBytes_5 : decode b_Unpacker_repeatBytes 5 = .ok (.invokestatic 139, 3) := by decide +kernel
theorem d_Unpacker_repeatBytes_8 : decode b_Unpacker_repeatBytes 8 = .ok (.invokevirtual 82, 3) := by decide +kernel
theorem d_Unpacker_repeatBytes_11 : decode b_Unpacker_repeatBytes 11 = .ok (.istore_n 3, 1) := by decide +kernel
theorem d_Unpacker_repeatBytes_12 : decode b_Unpacker_repeatBytes 12 = .ok (.aload_n 2, 1) := by decide +kernel
theorem d_Unpacker_repeatBytes_13 : decode b_Unpacker_repeatBytes 13 = .ok (.aload_n 0, 1) := by decide +kernel
theorem d_Unpacker_repeatBytes_14 : decode b_Unpacker_repeatBytes 14 = .ok (.getfield 14, 3) := by decide +kernel
theorem d_Unpacker_repeatBytes_17 : decode b_Unpacker_repeatBytes 17 = .ok (.invokevirtual 125, 3) := by decide +kernel
theorem d_Unpacker_repeatBytes_20 : decode b_Unpacker_repeatBytes 20 = .ok (.istore 4, 2) := by decide +kernel
theorem d_Unpacker_repeatBytes_22 : decode b_Unpacker_repeatBytes 22 = .ok (.iload_n 3, 1) := by decide +kernel
theorem d_Unpacker_repeatBytes_23 : decode b_Unpacker_repeatBytes 23 = .ok (.ifCond .lt 15, 3) := by decide +kernel
theorem d_Unpacker_repeatBytes_26 : decode b_Unpacker_repeatBytes 26 = .ok (.iload 4, 2) := by decide +kernel
theorem d_Unpacker_repeatBytes_28 : decode b_Unpacker_repeatBytes 28 = .ok (.ifCond .lt 10, 3) := by decide +kernel
theorem d_Unpacker_repeatBytes_31 : decode b_Unpacker_repeatBytes 31 = .ok (.iload 4, 2) := by decide +kernel
theorem d_Unpacker_repeatBytes_33 : decode b_Unpacker_repeatBytes 33 = .ok (.bipush 29, 2) := by decide +kernel
theorem d_Unpacker_repeatBytes_35 : decode b_Unpacker_repeatBytes 35 = .ok (.if_icmp .le 5, 3) := by decide +kernel
theorem d_Unpacker_repeatBytes_38 : decode b_Unpacker_repeatBytes 38 = .ok (.iconst 0, 1) := by decide +kernel
theorem d_Unpacker_repeatBytes_39 : decode b_Unpacker_repeatBytes 39 = .ok (.ireturn, 1) := by decide +kernel
theorem d_Unpacker_repeatBytes_40 : decode b_Unpacker_repeatBytes 40 = .ok (.aload_n 0, 1) := by decide +kernel
theorem d_Unpacker_repeatBytes_41 : decode b_Unpacker_repeatBytes 41 = .ok (.getfield 14, 3) := by decide +kernel
theorem d_Unpacker_repeatBytes_44 : decode b_Unpacker_repeatBytes 44 = .ok (.iload 4, 2) := by decide +kernel
theorem d_Unpacker_repeatBytes_46 : decode b_Unpacker_repeatBytes 46 = .ok (.invokestatic 142, 3) := by decide +kernel
theorem d_Unpacker_repeatBytes_49 : decode b_Unpacker_repeatBytes 49 = .ok (.invokevirtual 82, 3) := by decide +kernel
theorem d_Unpacker_repeatBytes_52 : decode b_Unpacker_repeatBytes 52 = .ok (.istore 5, 2) := by decide +kernel
theorem d_Unpacker_repeatBytes_54 : decode b_Unpacker_repeatBytes 54 = .ok (.iload_n 1, 1) := by decide +kernel
theorem d_Unpacker_repeatBytes_55 : decode b_Unpacker_repeatBytes 55 = .ok (.invokestatic 145, 3) := by decide +kernel
theorem d_Unpacker_repeatBytes_58 : decode b_Unpacker_repeatBytes 58 = .ok (.iload_n 3, 1) := by decide +kernel
theorem d_Unpacker_repeatBytes_59 : decode b_Unpacker_repeatBytes 59 = .ok (.iadd, 1) := by decide +kernel
theorem d_Unpacker_repeatBytes_60 : decode b_Unpacker_repeatBytes 60 = .ok (.istore 6, 2) := by decide +kernel
theorem d_Unpacker_repeatBytes_62 : decode b_Unpacker_repeatBytes 62 = .ok (.iload 4, 2) := by decide +kernel
theorem d_Unpacker_repeatBytes_64 : decode b_Unpacker_repeatBytes 64 = .ok (.invokestatic 148, 3) := by decide +kernel
theorem d_Unpacker_repeatBytes_67 : decode b_Unpacker_repeatBytes 67 = .ok (.iload 5, 2) := by decide +kernel
theorem d_Unpacker_repeatBytes_69 : decode b_Unpacker_repeatBytes 69 = .ok (.iadd, 1) := by decide +kernel
theorem d_Unpacker_repeatBytes_70 : decode b_Unpacker_repeatBytes 70 = .ok (.istore 7, 2) := by decide +kernel
theorem d_Unpacker_repeatBytes_72 : decode b_Unpacker_repeatBytes 72 = .ok (.iload 5, 2) := by decide +kernel
theorem d_Unpacker_repeatBytes_74 : decode b_Unpacker_repeatBytes 74 = .ok (.ifCond .lt 25, 3) := by decide +kernel
theorem d_Unpacker_repeatBytes_77 : decode b_Unpacker_repeatBytes 77 = .ok (.iload 7, 2) := by decide +kernel
theorem d_Unpacker_repeatBytes_79 : decode b_Unpacker_repeatBytes 79 = .ok (.aload_n 0, 1) := by decide +kernel
theorem d_Unpacker_repeatBytes_80 : decode b_Unpacker_repeatBytes 80 = .ok (.invokevirtual 112, 3) := by decide +kernel
theorem d_Unpacker_repeatBytes_83 : decode b_Unpacker_repeatBytes 83 = .ok (.if_icmp .gt 16, 3) := by decide +kernel
theorem d_Unpacker_repeatBytes_86 : decode b_Unpacker_repeatBytes 86 = .ok (.iload 7, 2) := by decide +kernel
theorem d_Unpacker_repeatBytes_88 : decode b_Unpacker_repeatBytes 88 = .ok (.aload_n 0, 1) := by decide +kernel
theorem d_Unpacker_repeatBytes_89 : decode b_Unpacker_repeatBytes 89 = .ok (.getfield 98, 3) := by decide +kernel
theorem d_Unpacker_repeatBytes_92 : decode b_Unpacker_repeatBytes 92 = .ok (.if_icmp .gt 7, 3) := by decide +kernel
theorem d_Unpacker_repeatBytes_95 : decode b_Unpacker_repeatBytes 95 = .ok (.iconst 1, 1) := by decide +kernel
theorem d_Unpacker_repeatBytes_96 : decode b_Unpacker_repeatBytes 96 = .ok (.goto 4, 3) := by decide +kernel
theorem d_Unpacker_repeatBytes_99 : decode b_Unpacker_repeatBytes 99 = .ok (.iconst 0, 1) := by decide +kernel
theorem d_Unpacker_repeatBytes_100 : decode b_Unpacker_repeatBytes 100 = .ok (.istore 8, 2) := by decide +kernel
theorem d_Unpacker_repeatBytes_102 : decode b_Unpacker_repeatBytes 102 = .ok (.iload 8, 2) := by decide +kernel
theorem d_Unpacker_repeatBytes_104 : decode b_Unpacker_repeatBytes 104 = .ok (.ifCond .eq 16, 3) := by decide +kernel
theorem d_Unpacker_repeatBytes_107 : decode b_Unpacker_repeatBytes 107 = .ok (.iload 6, 2) := by decide +kernel
theorem d_Unpacker_repeatBytes_109 : decode b_Unpacker_repeatBytes 109 = .ok (.sipush 8192, 3) := by decide +kernel
theorem d_Unpacker_repeatBytes_112 : decode b_Unpacker_repeatBytes 112 = .ok (.aload_n 0, 1) := by decide +kernel
theorem d_Unpacker_repeatBytes_113 : decode b_Unpacker_repeatBytes 113 = .ok (.invokevirtual 112, 3) := by decide +kernel
theorem d_Unpacker_repeatBytes_116 : decode b_Unpacker_repeatBytes 116 = .ok (.isub, 1) := by decide +kernel
theorem d_Unpacker_repeatBytes_117 : decode b_Unpacker_repeatBytes 117 = .ok (.if_icmp .le 5, 3) := by decide +kernel
theorem d_Unpacker_repeatBytes_120 : decode b_Unpacker_repeatBytes 120 = .ok (.iconst 0, 1) := by decide +kernel
theorem d_Unpacker_repeatBytes_121 : decode b_Unpacker_repeatBytes 121 = .ok (.ireturn, 1) := by decide +kernel
theorem d_Unpacker_repeatBytes_122 : decode b_Unpacker_repeatBytes 122 = .ok (.iconst 0, 1) := by decide +kernel
theorem d_Unpacker_repeatBytes_123 : decode b_Unpacker_repeatBytes 123 = .ok (.istore 9, 2) := by decide +kernel
theorem d_Unpacker_repeatBytes_125 : decode b_Unpacker_repeatBytes 125 = .ok (.iload 9, 2) := by decide +kernel
theorem d_Unpacker_repeatBytes_127 : decode b_Unpacker_repeatBytes 127 = .ok (.iload 6, 2) := by decide +kernel
theorem d_Unpacker_repeatBytes_129 : decode b_Unpacker_repeatBytes 129 = .ok (.if_icmp .ge 33, 3) := by decide +kernel
theorem d_Unpacker_repeatBytes_132 : decode b_Unpacker_repeatBytes 132 = .ok (.aload_n 0, 1) := by decide +kernel
theorem d_Unpacker_repeatBytes_133 : decode b_Unpacker_repeatBytes 133 = .ok (.getfield 20, 3) := by decide +kernel
theorem d_Unpacker_repeatBytes_136 : decode b_Unpacker_repeatBytes 136 = .ok (.aload_n 0, 1) := by decide +kernel
theorem d_Unpacker_repeatBytes_137 : decode b_Unpacker_repeatBytes 137 = .ok (.getfield 20, 3) := by decide +kernel
theorem d_Unpacker_repeatBytes_140 : decode b_Unpacker_repeatBytes 140 = .ok (.aload_n 0, 1) := by decide +kernel
theorem d_Unpacker_repeatBytes_141 : decode b_Unpacker_repeatBytes 141 = .ok (.getfield 20, 3) := by decide +kernel
theorem d_Unpacker_repeatBytes_144 : decode b_Unpacker_repeatBytes 144 = .ok (.invokevirtual 67, 3) := by decide +kernel
theorem d_Unpacker_repeatBytes_147 : decode b_Unpacker_repeatBytes 147 = .ok (.iload 7, 2) := by decide +kernel
theorem d_Unpacker_repeatBytes_149 : decode b_Unpacker_repeatBytes 149 = .ok (.isub, 1) := by decide +kernel
theorem d_Unpacker_repeatBytes_150 : decode b_Unpacker_repeatBytes 150 = .ok (.invokevirtual 151, 3) := by decide +kernel
theorem d_Unpacker_repeatBytes_153 : decode b_Unpacker_repeatBytes 153 = .ok (.invokevirtual 115, 3) := by decide +kernel
theorem d_Unpacker_repeatBytes_156 : decode b_Unpacker_repeatBytes 156 = .ok (.iinc 9 1, 3) := by decide +kernel
theorem d_Unpacker_repeatBytes_159 : decode b_Unpacker_repeatBytes 159 = .ok (.goto (-34), 3) := by decide +kernel
theorem d_Unpacker_repeatBytes_162 : decode b_Unpacker_repeatBytes 162 = .ok (.iconst 1, 1) := by decide +kernel
theorem d_Unpacker_repeatBytes_163 : decode b_Unpacker_repeatBytes 163 = .ok (.ireturn, 1) := by decide +kernel
def Unpacker_repeatBytes_125 (F : Nat) (n_out_data : Nat) (k_125 : Int32 → Int32 → (Nat → Int32) → Int32 → Int32 → Int32 → Option (Int32 × Int32 × Int32 × (Nat → Int32))) (v_in_at : Int32) (v_out_length : Int32) (c_out_data : Nat → Int32) (x6 : Int32) (x7 : Int32) (x9 : Int32) : Option (Int32 × Int32 × Int32 × (Nat → Int32)) :=
  mC (x6 ≤ x9) (some (1, v_in_at, v_out_length, c_out_data)) (mR0 (Bytes_length F v_out_length) fun r_7 => mL (r_7 - x7) fun t_8 => mR0 (Bytes_at F n_out_data v_out_length c_out_data t_8) fun r_9 => mR2 (Bytes_add F n_out_data v_out_length c_out_data r_9) fun _ v_length_10 c_data_11 => mL (x9 + 1) fun y9_13 => k_125 v_in_at v_length_10 c_data_11 x6 x7 y9_13)
def Unpacker_repeatBytes_100 (F : Nat) (n_out_data : Nat) (v_outStart : Int32) (v_in_at : Int32) (v_out_length : Int32) (c_out_data : Nat → Int32) (x6 : Int32) (x7 : Int32) (s0 : Int32) : Option (Int32 × Int32 × Int32 × (Nat → Int32)) :=
  mC (s0 = 0) (some (0, v_in_at, v_out_length, c_out_data)) (mR0 (Unpacker_made F v_outStart v_out_length) fun r_6 => mC (x6 ≤ (8192 - r_6)) ((mW6 (Unpacker_repeatBytes_125 F n_out_data) F) v_in_at v_out_length c_out_data x6 x7 0) (some (0, v_in_at, v_out_length, c_out_data)))
def Unpacker_repeatBytes_99 (F : Nat) (n_out_data : Nat) (v_outStart : Int32) (v_in_at : Int32) (v_out_length : Int32) (c_out_data : Nat → Int32) (x6 : Int32) (x7 : Int32) : Option (Int32 × Int32 × Int32 × (Nat → Int32)) :=
  (Unpacker_repeatBytes_100 F n_out_data v_outStart) v_in_at v_out_length c_out_data x6 x7 0
abbrev Unpacker_repeatBytes_w (E : xE) (a_this : Nat) (a_in : Nat) (a_in_row : Nat) (a_in_row_data : Nat) (a_p2 : Nat) (a_p2_counts : Nat) (a_p2_symbols : Nat) (a_out : Nat) (a_out_data : Nat) (n_in_row_data : Nat) (n_p2_symbols : Nat) (n_out_data : Nat) (x_fixedSymbols : Value) (x_fixedDistances : Value) (x_madeSymbols : Value) (x_madeDistances : Value) (x_lengthCodes : Value) (x_lengths : Value) (x_p2_offsets : Value) (v_outStart : Int32) (v_farthest : Int32) (v_in_end : Int32) (v_in_row_length : Int32) (c_in_row_data : Nat → Int32) (c_p2_counts : Nat → Int32) (c_p2_symbols : Nat → Int32) (v_in_at : Int32) (v_out_length : Int32) (c_out_data : Nat → Int32) : va_W := [(a_this, .inr (9, [.ref a_in, .ref a_out, x_fixedSymbols, x_fixedDistances, x_madeSymbols, x_madeDistances, x_lengthCodes, x_lengths, .int v_outStart, .int v_farthest])), (a_in, .inr (0, [.ref a_in_row, .int v_in_at, .int v_in_end])), (a_in_row, .inr (2, [.ref a_in_row_data, .int v_in_row_length])), (a_in_row_data, .inl (E.2.2.1, n_in_row_data, .inl c_in_row_data)), (a_p2, .inr (8, [.ref a_p2_counts, x_p2_offsets, .ref a_p2_symbols])), (a_p2_counts, .inl (E.2.1, 16, .inl c_p2_counts)), (a_p2_symbols, .inl (E.2.1, n_p2_symbols, .inl c_p2_symbols)), (a_out, .inr (2, [.ref a_out_data, .int v_out_length])), (a_out_data, .inl (E.2.2.1, n_out_data, .inl c_out_data))]
def Unpacker_repeatBytes (F : Nat) (n_in_row_data : Nat) (n_p2_symbols : Nat) (n_out_data : Nat) (v_outStart : Int32) (v_farthest : Int32) (v_in_end : Int32) (v_in_row_length : Int32) (c_in_row_data : Nat → Int32) (c_p2_counts : Nat → Int32) (c_p2_symbols : Nat → Int32) (v_in_at : Int32) (v_out_length : Int32) (c_out_data : Nat → Int32) (x1 : Int32) : Option (Int32 × Int32 × Int32 × (Nat → Int32)) :=
  mR0 (P_lengthExtra F x1) fun r_1 => mR1 (BitReader_number F n_in_row_data v_in_end v_in_row_length c_in_row_data v_in_at r_1) fun r_3 v_at_2 => mR1 (Table_next F n_in_row_data n_p2_symbols v_in_end v_in_row_length c_in_row_data c_p2_counts c_p2_symbols v_at_2) fun r_5 v_p1_at_4 => mC (r_3 < 0) (some (0, v_p1_at_4, v_out_length, c_out_data)) (mC (r_5 < 0) (some (0, v_p1_at_4, v_out_length, c_out_data)) (mC (r_5 ≤ 29) (mR0 (P_distanceExtra F r_5) fun r_14 => mR1 (BitReader_number F n_in_row_data v_in_end v_in_row_length c_in_row_data v_p1_at_4 r_14) fun r_16 v_at_15 => mR0 (P_lengthBase F x1) fun r_17 => mL (r_17 + r_3) fun y6_18 => mR0 (P_distanceBase F r_5) fun r_19 => mL (r_19 + r_16) fun y7_20 => mC (r_16 < 0) ((Unpacker_repeatBytes_99 F n_out_data v_outStart) v_at_15 v_out_length c_out_data y6_18 y7_20) (mR0 (Unpacker_made F v_outStart v_out_length) fun r_21 => mC (r_21 < y7_20) ((Unpacker_repeatBytes_99 F n_out_data v_outStart) v_at_15 v_out_length c_out_data y6_18 y7_20) (mC (v_farthest < y7_20) ((Unpacker_repeatBytes_99 F n_out_data v_outStart) v_at_15 v_out_length c_out_data y6_18 y7_20) ((Unpacker_repeatBytes_100 F n_out_data v_outStart) v_at_15 v_out_length c_out_data y6_18 y7_20 1)))) (some (0, v_p1_at_4, v_out_length, c_out_data))))
abbrev Unpacker_repeatBytes_rm : Room := { frames := 3, cells := 0, slots := 0, locals := 71 }
set_option maxHeartbeats 4000000 in
set_option maxRecDepth 100000 in
theorem c_Unpacker_repeatBytes (l : Launch) (E : xE) (F sz : Nat) (a_this : Nat) (a_in : Nat) (a_in_row : Nat) (a_in_row_data : Nat) (a_p2 : Nat) (a_p2_counts : Nat) (a_p2_symbols : Nat) (a_out : Nat) (a_out_data : Nat) (n_in_row_data : Nat) (n_p2_symbols : Nat) (n_out_data : Nat) (x_fixedSymbols : Value) (x_fixedDistances : Value) (x_madeSymbols : Value) (x_madeDistances : Value) (x_lengthCodes : Value) (x_lengths : Value) (x_p2_offsets : Value) (v_outStart : Int32) (v_farthest : Int32) (v_in_end : Int32) (v_in_row_length : Int32) (c_in_row_data : Nat → Int32) (c_p2_counts : Nat → Int32) (c_p2_symbols : Nat → Int32) (v_in_at : Int32) (v_out_length : Int32) (c_out_data : Nat → Int32) (x1 : Int32) (res : Int32 × Int32 × Int32 × (Nat → Int32)) (hm : Unpacker_repeatBytes F n_in_row_data n_p2_symbols n_out_data v_outStart v_farthest v_in_end v_in_row_length c_in_row_data c_p2_counts c_p2_symbols v_in_at v_out_length c_out_data x1 = some res) : Met l y_Unpacker_repeatBytes (Cond.code y_Unpacker_repeatBytes b_Unpacker_repeatBytes 10 (some .boolean) :: x_tb) Unpacker_repeatBytes_rm (va_Pc [.ref a_this, .int x1, .ref a_p2] (xPre E (Unpacker_repeatBytes_w E a_this a_in a_in_row a_in_row_data a_p2 a_p2_counts a_p2_symbols a_out a_out_data n_in_row_data n_p2_symbols n_out_data x_fixedSymbols x_fixedDistances x_madeSymbols x_madeDistances x_lengthCodes x_lengths x_p2_offsets v_outStart v_farthest v_in_end v_in_row_length c_in_row_data c_p2_counts c_p2_symbols v_in_at v_out_length c_out_data) sz)) (xQi E (fun (r : Int32) (u : Int32 × Int32 × (Nat → Int32)) => r = res.1 ∧ u = res.2) (fun (u : Int32 × Int32 × (Nat → Int32)) => (Unpacker_repeatBytes_w E a_this a_in a_in_row a_in_row_data a_p2 a_p2_counts a_p2_symbols a_out a_out_data n_in_row_data n_p2_symbols n_out_data x_fixedSymbols x_fixedDistances x_madeSymbols x_madeDistances x_lengthCodes x_lengths x_p2_offsets v_outStart v_farthest v_in_end v_in_row_length c_in_row_data c_p2_counts c_p2_symbols u.1 u.2.1 u.2.2)) (va_A (Unpacker_repeatBytes_w E a_this a_in a_in_row a_in_row_data a_p2 a_p2_counts a_p2_symbols a_out a_out_data n_in_row_data n_p2_symbols n_out_data x_fixedSymbols x_fixedDistances x_madeSymbols x_madeDistances x_lengthCodes x_lengths x_p2_offsets v_outStart v_farthest v_in_end v_in_row_length c_in_row_data c_p2_counts c_p2_symbols v_in_at v_out_length c_out_data) sz)) 0 0 (va_A (Unpacker_repeatBytes_w E a_this a_in a_in_row a_in_row_data a_p2 a_p2_counts a_p2_symbols a_out a_out_data n_in_row_data n_p2_symbols n_out_data x_fixedSymbols x_fixedDistances x_madeSymbols x_madeDistances x_lengthCodes x_lengths x_p2_offsets v_outStart v_farthest v_in_end v_in_row_length c_in_row_data c_p2_counts c_p2_symbols v_in_at v_out_length c_out_data) sz) := by
  refine xEnZ (by decide) (Nat.le_of_ble_eq_true rfl) ?_
  intro p e s m args below meth c A ls Q hx hb hnm hts hown hml hK hA hI hN hret hP hD hS hl
  replace hown : s.vm.findClass R_Unpacker = some m.cls := hown
  replace hl : lv_has ls 10 [(0, .ref a_this), (1, .int x1), (2, .ref a_p2)] := hl
  obtain ⟨H, eH⟩ : ∃ z, z = s.heap := ⟨_, rfl⟩
  obtain ⟨locs, eL⟩ : ∃ z : List Loc, z = [] := ⟨_, rfl⟩
  rw [show W p l e Unpacker_repeatBytes_rm s m args below meth c s.heap [] 0 0 Q (F0 m 0 ls []) = W p l e Unpacker_repeatBytes_rm s m args below meth c H locs 0 0 Q (F0 m 0 ls []) by rw [eH, eL]]
  replace hP : va_P E.1 vwCl (Unpacker_repeatBytes_w E a_this a_in a_in_row a_in_row_data a_p2 a_p2_counts a_p2_symbols a_out a_out_data n_in_row_data n_p2_symbols n_out_data x_fixedSymbols x_fixedDistances x_madeSymbols x_madeDistances x_lengthCodes x_lengths x_p2_offsets v_outStart v_farthest v_in_end v_in_row_length c_in_row_data c_p2_counts c_p2_symbols v_in_at v_out_length c_out_data) H := by rw [eH]; exact hP
  replace hS : va_S A s.heap H locs := by rw [eH, eL]; exact hS
  clear eH eL
  rw [Unpacker_repeatBytes] at hm
  refine lv_aload_n hx hb d_Unpacker_repeatBytes_0 rfl (lv_at hl 0 rfl) ?_
  refine va_get (D := E.1) (ci := 9) (v := .ref a_in) (C := R_Unpacker) (T := F_Unpacker) (N := 10) hx hb hts i_Unpacker hown hK hP 0 rfl rfl 0 (by decide) (hts _ tw_343) (fun _ h9 => h9) rfl d_Unpacker_repeatBytes_1 ?_
  refine lv_iload_n hx hb d_Unpacker_repeatBytes_4 rfl (lv_at hl 1 rfl) ?_
  obtain ⟨r_1, hc5, hm⟩ := mR0_e hm
  refine xmi (wc := (P_lengthExtra_w E)) [false, false, false, false, false, false, false, false, false] [] [] hP hD hS hA rfl (by decide) (by decide) 0 (by decide) (fun _ => rfl) (fun hPc hDc hFc => va_runSN (As := [.int x1]) (rest := [.ref a_in]) ⟨hx, hb, hml, hown, hts⟩ (c_P_lengthExtra l E F H.size x1 (r_1, ()) hc5) ⟨(va_cnB 1 hts (x_g tw_492) rfl rfl rfl (nM_11 hN) (hts _ tw_66) (by decide +kernel) ⟨Nat.le_of_ble_eq_true rfl, Nat.le_of_ble_eq_true rfl⟩), (hts _ tw_491), trivial⟩ (xPS hPc hDc hFc hK hI hN hS) rfl rfl hl.1 rfl (lv_room (Nat.le_of_ble_eq_true rfl)) d_Unpacker_repeatBytes_5 ⟨Nat.le_of_ble_eq_true rfl, Nat.le_of_ble_eq_true rfl⟩) (fun r9 u9 H locs hw hP hD hS => ?_)
  have hw1 : r_1 = r9 := hw.1.symm
  subst hw1
  replace hP : va_P E.1 vwCl (Unpacker_repeatBytes_w E a_this a_in a_in_row a_in_row_data a_p2 a_p2_counts a_p2_symbols a_out a_out_data n_in_row_data n_p2_symbols n_out_data x_fixedSymbols x_fixedDistances x_madeSymbols x_madeDistances x_lengthCodes x_lengths x_p2_offsets v_outStart v_farthest v_in_end v_in_row_length c_in_row_data c_p2_counts c_p2_symbols v_in_at v_out_length c_out_data) H := hP
  replace hD : va_D A (Unpacker_repeatBytes_w E a_this a_in a_in_row a_in_row_data a_p2 a_p2_counts a_p2_symbols a_out a_out_data n_in_row_data n_p2_symbols n_out_data x_fixedSymbols x_fixedDistances x_madeSymbols x_madeDistances x_lengthCodes x_lengths x_p2_offsets v_outStart v_farthest v_in_end v_in_row_length c_in_row_data c_p2_counts c_p2_symbols v_in_at v_out_length c_out_data) := hD
  obtain ⟨r_3, v_at_2, hc8, hm⟩ := mR1_e hm
  refine xmi (wc := (BitReader_number_w E a_in a_in_row a_in_row_data n_in_row_data v_in_end v_in_row_length c_in_row_data v_in_at)) [false, true, true, true, false, false, false, false, false] [0, 1, 2] [0, 1, 2] hP hD hS hA rfl (by decide) (by decide) 3 (by decide) (fun _ => rfl) (fun hPc hDc hFc => va_runV (As := [.int r_1]) (rest := []) ⟨hx, hb, hml, hown, hts⟩ (c_BitReader_number l E F H.size a_in a_in_row a_in_row_data n_in_row_data v_in_end v_in_row_length c_in_row_data v_in_at r_1 (r_3, v_at_2) hc8) (cwV 1 hts (x_gV tw_706 tw_707 tw_708 tw_77 tw_709) rfl rfl rfl (by decide +kernel) ⟨Nat.le_of_ble_eq_true rfl, Nat.le_of_ble_eq_true rfl⟩) (xPV 0 0 rfl rfl hPc hDc hFc hK hI hN hS) rfl rfl hl.1 rfl (lv_room (Nat.le_of_ble_eq_true rfl)) d_Unpacker_repeatBytes_8 ⟨Nat.le_of_ble_eq_true rfl, Nat.le_of_ble_eq_true rfl⟩) (fun r9 u9 H locs hw hP hD hS => ?_)
  have hw1 : r_3 = r9 := hw.1.symm
  subst hw1
  have hw2 : v_at_2 = u9 := hw.2.symm
  subst hw2
  replace hP : va_P E.1 vwCl (Unpacker_repeatBytes_w E a_this a_in a_in_row a_in_row_data a_p2 a_p2_counts a_p2_symbols a_out a_out_data n_in_row_data n_p2_symbols n_out_data x_fixedSymbols x_fixedDistances x_madeSymbols x_madeDistances x_lengthCodes x_lengths x_p2_offsets v_outStart v_farthest v_in_end v_in_row_length c_in_row_data c_p2_counts c_p2_symbols v_at_2 v_out_length c_out_data) H := hP
  replace hD : va_D A (Unpacker_repeatBytes_w E a_this a_in a_in_row a_in_row_data a_p2 a_p2_counts a_p2_symbols a_out a_out_data n_in_row_data n_p2_symbols n_out_data x_fixedSymbols x_fixedDistances x_madeSymbols x_madeDistances x_lengthCodes x_lengths x_p2_offsets v_outStart v_farthest v_in_end v_in_row_length c_in_row_data c_p2_counts c_p2_symbols v_at_2 v_out_length c_out_data) := hD
  refine lv_istore_n (lv' := [(3, .int r_3), (0, .ref a_this), (1, .int x1), (2, .ref a_p2)]) hx hb d_Unpacker_repeatBytes_11 rfl hl (by decide) rfl (fun ls hl => ?_)
  refine lv_aload_n hx hb d_Unpacker_repeatBytes_12 rfl (lv_at hl 3 rfl) ?_
  refine lv_aload_n hx hb d_Unpacker_repeatBytes_13 rfl (lv_at hl 1 rfl) ?_
  refine va_get (D := E.1) (ci := 9) (v := .ref a_in) (C := R_Unpacker) (T := F_Unpacker) (N := 10) hx hb hts i_Unpacker hown hK hP 0 rfl rfl 0 (by decide) (hts _ tw_343) (fun _ h9 => h9) rfl d_Unpacker_repeatBytes_14 ?_
  obtain ⟨r_5, v_p1_at_4, hc17, hm⟩ := mR1_e hm
  refine xmi (wc := (Table_next_w E a_in a_in_row a_in_row_data a_p2 a_p2_counts a_p2_symbols n_in_row_data n_p2_symbols x_p2_offsets v_in_end v_in_row_length c_in_row_data c_p2_counts c_p2_symbols v_at_2)) [false, true, true, true, true, true, true, false, false] [0, 1, 2, 3, 4, 5] [0, 1, 2, 3, 4, 5] hP hD hS hA rfl (by decide) (by decide) 6 (by decide) (fun _ => rfl) (fun hPc hDc hFc => va_runV (As := [.ref a_in]) (rest := []) ⟨hx, hb, hml, hown, hts⟩ (c_Table_next l E F H.size a_in a_in_row a_in_row_data a_p2 a_p2_counts a_p2_symbols n_in_row_data n_p2_symbols x_p2_offsets v_in_end v_in_row_length c_in_row_data c_p2_counts c_p2_symbols v_at_2 (r_5, v_p1_at_4) hc17) (cwV 1 hts (x_gV tw_734 tw_735 tw_736 tw_78 tw_737) rfl rfl rfl (by decide +kernel) ⟨Nat.le_of_ble_eq_true rfl, Nat.le_of_ble_eq_true rfl⟩) (xPV 8 3 rfl rfl hPc hDc hFc hK hI hN hS) rfl rfl hl.1 rfl (lv_room (Nat.le_of_ble_eq_true rfl)) d_Unpacker_repeatBytes_17 ⟨Nat.le_of_ble_eq_true rfl, Nat.le_of_ble_eq_true rfl⟩) (fun r9 u9 H locs hw hP hD hS => ?_)
  have hw1 : r_5 = r9 := hw.1.symm
  subst hw1
  have hw2 : v_p1_at_4 = u9 := hw.2.symm
  subst hw2
  replace hP : va_P E.1 vwCl (Unpacker_repeatBytes_w E a_this a_in a_in_row a_in_row_data a_p2 a_p2_counts a_p2_symbols a_out a_out_data n_in_row_data n_p2_symbols n_out_data x_fixedSymbols x_fixedDistances x_madeSymbols x_madeDistances x_lengthCodes x_lengths x_p2_offsets v_outStart v_farthest v_in_end v_in_row_length c_in_row_data c_p2_counts c_p2_symbols v_p1_at_4 v_out_length c_out_data) H := hP
  replace hD : va_D A (Unpacker_repeatBytes_w E a_this a_in a_in_row a_in_row_data a_p2 a_p2_counts a_p2_symbols a_out a_out_data n_in_row_data n_p2_symbols n_out_data x_fixedSymbols x_fixedDistances x_madeSymbols x_madeDistances x_lengthCodes x_lengths x_p2_offsets v_outStart v_farthest v_in_end v_in_row_length c_in_row_data c_p2_counts c_p2_symbols v_p1_at_4 v_out_length c_out_data) := hD
  refine lv_istore (lv' := [(4, .int r_5), (3, .int r_3), (0, .ref a_this), (1, .int x1), (2, .ref a_p2)]) hx hb d_Unpacker_repeatBytes_20 hl (by decide) rfl (fun ls hl => ?_)
  refine lv_iload_n hx hb d_Unpacker_repeatBytes_22 rfl (lv_at hl 1 rfl) ?_
  refine lv_if_lt (tgt := 38) hx hb d_Unpacker_repeatBytes_23 (by decide) (fun c23 => ?_) (fun c23 => ?_)
  · replace hm := mC_t hm c23
    refine lv_iconst (v := 0) hx hb d_Unpacker_repeatBytes_38 (by decide) ?_
    replace hm := Option.some.inj hm
    subst hm
    exact hret d_Unpacker_repeatBytes_39 (by decide) (u := (v_p1_at_4, v_out_length, c_out_data)) ⟨rfl, rfl⟩ hP hD hS
  · replace hm := mC_f hm c23
    refine lv_iload hx hb d_Unpacker_repeatBytes_26 (lv_at hl 0 rfl) ?_
    refine lv_if_lt (tgt := 38) hx hb d_Unpacker_repeatBytes_28 (by decide) (fun c28 => ?_) (fun c28 => ?_)
    · replace hm := mC_t hm c28
      refine lv_iconst (v := 0) hx hb d_Unpacker_repeatBytes_38 (by decide) ?_
      replace hm := Option.some.inj hm
      subst hm
      exact hret d_Unpacker_repeatBytes_39 (by decide) (u := (v_p1_at_4, v_out_length, c_out_data)) ⟨rfl, rfl⟩ hP hD hS
    · replace hm := mC_f hm c28
      refine lv_iload hx hb d_Unpacker_repeatBytes_31 (lv_at hl 0 rfl) ?_
      refine lv_bipush (v := 29) hx hb d_Unpacker_repeatBytes_33 (by decide) ?_
      refine lv_icmp_le (tgt := 40) hx hb d_Unpacker_repeatBytes_35 (by decide) (fun c35 => ?_) (fun c35 => ?_)
      · replace hm := mC_t hm c35
        have h_100 : ∀ (v_in_at : Int32) (v_out_length : Int32) (c_out_data : Nat → Int32) (x6 : Int32) (x7 : Int32) (s0 : Int32) (H : Heap) (locs : List Loc) (ls : Array Slot), (Unpacker_repeatBytes_100 F n_out_data v_outStart) v_in_at v_out_length c_out_data x6 x7 s0 = some res → va_P E.1 vwCl (Unpacker_repeatBytes_w E a_this a_in a_in_row a_in_row_data a_p2 a_p2_counts a_p2_symbols a_out a_out_data n_in_row_data n_p2_symbols n_out_data x_fixedSymbols x_fixedDistances x_madeSymbols x_madeDistances x_lengthCodes x_lengths x_p2_offsets v_outStart v_farthest v_in_end v_in_row_length c_in_row_data c_p2_counts c_p2_symbols v_in_at v_out_length c_out_data) H → va_D A (Unpacker_repeatBytes_w E a_this a_in a_in_row a_in_row_data a_p2 a_p2_counts a_p2_symbols a_out a_out_data n_in_row_data n_p2_symbols n_out_data x_fixedSymbols x_fixedDistances x_madeSymbols x_madeDistances x_lengthCodes x_lengths x_p2_offsets v_outStart v_farthest v_in_end v_in_row_length c_in_row_data c_p2_counts c_p2_symbols v_in_at v_out_length c_out_data) → va_S A s.heap H locs → lv_has ls 10 [(0, .ref a_this), (6, .int x6), (7, .int x7)] → W p l e Unpacker_repeatBytes_rm s m args below meth c H locs 0 0 Q (F0 m 100 ls [.int s0]) := by
          intro v_in_at v_out_length c_out_data x6 x7 s0 H locs ls hm hP hD hS hl
          rw [Unpacker_repeatBytes_100] at hm
          refine lv_istore (lv' := [(8, .int s0), (0, .ref a_this), (6, .int x6), (7, .int x7)]) hx hb d_Unpacker_repeatBytes_100 hl (by decide) rfl (fun ls hl => ?_)
          refine lv_iload hx hb d_Unpacker_repeatBytes_102 (lv_at hl 0 rfl) ?_
          refine lv_if_eq (tgt := 120) hx hb d_Unpacker_repeatBytes_104 (by decide) (fun c104 => ?_) (fun c104 => ?_)
          · replace hm := mC_t hm c104
            refine lv_iconst (v := 0) hx hb d_Unpacker_repeatBytes_120 (by decide) ?_
            replace hm := Option.some.inj hm
            subst hm
            exact hret d_Unpacker_repeatBytes_121 (by decide) (u := (v_in_at, v_out_length, c_out_data)) ⟨rfl, rfl⟩ hP hD hS
          · replace hm := mC_f hm c104
            refine lv_iload hx hb d_Unpacker_repeatBytes_107 (lv_at hl 2 rfl) ?_
            refine lv_sipush (v := 8192) hx hb d_Unpacker_repeatBytes_109 (by decide) ?_
            refine lv_aload_n hx hb d_Unpacker_repeatBytes_112 rfl (lv_at hl 1 rfl) ?_
            obtain ⟨r_6, hc113, hm⟩ := mR0_e hm
            refine xmi (wc := (Unpacker_made_w E a_this a_out (.ref a_in) x_fixedSymbols x_fixedDistances x_madeSymbols x_madeDistances x_lengthCodes x_lengths (.ref a_out_data) v_outStart v_out_length v_farthest)) [true, false, false, false, false, false, false, true, false] [0, 1] [0, 1] hP hD hS hA rfl (by decide) (by decide) 2 (by decide) (fun _ => rfl) (fun hPc hDc hFc => va_runV (As := []) (rest := [.int 8192, .int x6]) ⟨hx, hb, hml, hown, hts⟩ (c_Unpacker_made l E F H.size a_this a_out (.ref a_in) x_fixedSymbols x_fixedDistances x_madeSymbols x_madeDistances x_lengthCodes x_lengths (.ref a_out_data) v_outStart v_out_length v_farthest (r_6, ()) hc113) (cwV 0 hts (x_gV tw_721 tw_723 tw_24 tw_76 tw_724) rfl rfl rfl (by decide +kernel) ⟨Nat.le_of_ble_eq_true rfl, Nat.le_of_ble_eq_true rfl⟩) (xPV 9 0 rfl rfl hPc hDc hFc hK hI hN hS) rfl rfl hl.1 rfl (lv_room (Nat.le_of_ble_eq_true rfl)) d_Unpacker_repeatBytes_113 ⟨Nat.le_of_ble_eq_true rfl, Nat.le_of_ble_eq_true rfl⟩) (fun r9 u9 H locs hw hP hD hS => ?_)
            have hw1 : r_6 = r9 := hw.1.symm
            subst hw1
            replace hP : va_P E.1 vwCl (Unpacker_repeatBytes_w E a_this a_in a_in_row a_in_row_data a_p2 a_p2_counts a_p2_symbols a_out a_out_data n_in_row_data n_p2_symbols n_out_data x_fixedSymbols x_fixedDistances x_madeSymbols x_madeDistances x_lengthCodes x_lengths x_p2_offsets v_outStart v_farthest v_in_end v_in_row_length c_in_row_data c_p2_counts c_p2_symbols v_in_at v_out_length c_out_data) H := hP
            replace hD : va_D A (Unpacker_repeatBytes_w E a_this a_in a_in_row a_in_row_data a_p2 a_p2_counts a_p2_symbols a_out a_out_data n_in_row_data n_p2_symbols n_out_data x_fixedSymbols x_fixedDistances x_madeSymbols x_madeDistances x_lengthCodes x_lengths x_p2_offsets v_outStart v_farthest v_in_end v_in_row_length c_in_row_data c_p2_counts c_p2_symbols v_in_at v_out_length c_out_data) := hD
            refine lv_isub hx hb d_Unpacker_repeatBytes_116 ?_
            refine lv_icmp_le (tgt := 122) hx hb d_Unpacker_repeatBytes_117 (by decide) (fun c117 => ?_) (fun c117 => ?_)
            · replace hm := mC_t hm c117
              have h_125 : ∀ (n_125 : Nat) (v_in_at : Int32) (v_out_length : Int32) (c_out_data : Nat → Int32) (x6 : Int32) (x7 : Int32) (x9 : Int32) (H : Heap) (locs : List Loc) (ls : Array Slot), (mW6 (Unpacker_repeatBytes_125 F n_out_data) n_125) v_in_at v_out_length c_out_data x6 x7 x9 = some res → va_P E.1 vwCl (Unpacker_repeatBytes_w E a_this a_in a_in_row a_in_row_data a_p2 a_p2_counts a_p2_symbols a_out a_out_data n_in_row_data n_p2_symbols n_out_data x_fixedSymbols x_fixedDistances x_madeSymbols x_madeDistances x_lengthCodes x_lengths x_p2_offsets v_outStart v_farthest v_in_end v_in_row_length c_in_row_data c_p2_counts c_p2_symbols v_in_at v_out_length c_out_data) H → va_D A (Unpacker_repeatBytes_w E a_this a_in a_in_row a_in_row_data a_p2 a_p2_counts a_p2_symbols a_out a_out_data n_in_row_data n_p2_symbols n_out_data x_fixedSymbols x_fixedDistances x_madeSymbols x_madeDistances x_lengthCodes x_lengths x_p2_offsets v_outStart v_farthest v_in_end v_in_row_length c_in_row_data c_p2_counts c_p2_symbols v_in_at v_out_length c_out_data) → va_S A s.heap H locs → lv_has ls 10 [(0, .ref a_this), (6, .int x6), (7, .int x7), (9, .int x9)] → W p l e Unpacker_repeatBytes_rm s m args below meth c H locs 0 0 Q (F0 m 125 ls []) := by
                intro n_125
                induction n_125 with
                | zero => exact fun _ _ _ _ _ _ _ _ _ hm _ _ _ _ => (mW6_z hm).elim
                | succ n_125 ih_125 =>
                  intro v_in_at v_out_length c_out_data x6 x7 x9 H locs ls hm hP hD hS hl
                  replace hm := mW6_s hm
                  rw [Unpacker_repeatBytes_125] at hm
                  refine lv_iload hx hb d_Unpacker_repeatBytes_125 (lv_at hl 3 rfl) ?_
                  refine lv_iload hx hb d_Unpacker_repeatBytes_127 (lv_at hl 1 rfl) ?_
                  refine lv_icmp_ge (tgt := 162) hx hb d_Unpacker_repeatBytes_129 (by decide) (fun c129 => ?_) (fun c129 => ?_)
                  · replace hm := mC_t hm c129
                    refine lv_iconst (v := 1) hx hb d_Unpacker_repeatBytes_162 (by decide) ?_
                    replace hm := Option.some.inj hm
                    subst hm
                    exact hret d_Unpacker_repeatBytes_163 (by decide) (u := (v_in_at, v_out_length, c_out_data)) ⟨rfl, rfl⟩ hP hD hS
                  · replace hm := mC_f hm c129
                    refine lv_aload_n hx hb d_Unpacker_repeatBytes_132 rfl (lv_at hl 0 rfl) ?_
                    refine va_get (D := E.1) (ci := 9) (v := .ref a_out) (C := R_Unpacker) (T := F_Unpacker) (N := 10) hx hb hts i_Unpacker hown hK hP 0 rfl rfl 1 (by decide) (hts _ tw_344) (fun _ h9 => h9) rfl d_Unpacker_repeatBytes_133 ?_
                    refine lv_aload_n hx hb d_Unpacker_repeatBytes_136 rfl (lv_at hl 0 rfl) ?_
                    refine va_get (D := E.1) (ci := 9) (v := .ref a_out) (C := R_Unpacker) (T := F_Unpacker) (N := 10) hx hb hts i_Unpacker hown hK hP 0 rfl rfl 1 (by decide) (hts _ tw_344) (fun _ h9 => h9) rfl d_Unpacker_repeatBytes_137 ?_
                    refine lv_aload_n hx hb d_Unpacker_repeatBytes_140 rfl (lv_at hl 0 rfl) ?_
                    refine va_get (D := E.1) (ci := 9) (v := .ref a_out) (C := R_Unpacker) (T := F_Unpacker) (N := 10) hx hb hts i_Unpacker hown hK hP 0 rfl rfl 1 (by decide) (hts _ tw_344) (fun _ h9 => h9) rfl d_Unpacker_repeatBytes_141 ?_
                    obtain ⟨r_7, hc144, hm⟩ := mR0_e hm
                    refine xmi (wc := (Bytes_length_w E a_out (.ref a_out_data) v_out_length)) [false, false, false, false, false, false, false, true, false] [0] [0] hP hD hS hA rfl (by decide) (by decide) 1 (by decide) (fun _ => rfl) (fun hPc hDc hFc => va_runV (As := []) (rest := [.ref a_out, .ref a_out]) ⟨hx, hb, hml, hown, hts⟩ (c_Bytes_length l E F H.size a_out (.ref a_out_data) v_out_length (r_7, ()) hc144) (cwV 0 hts (x_gV tw_701 tw_422 tw_423 tw_67 tw_424) rfl rfl rfl (by decide +kernel) ⟨Nat.le_of_ble_eq_true rfl, Nat.le_of_ble_eq_true rfl⟩) (xPV 2 0 rfl rfl hPc hDc hFc hK hI hN hS) rfl rfl hl.1 rfl (lv_room (Nat.le_of_ble_eq_true rfl)) d_Unpacker_repeatBytes_144 ⟨Nat.le_of_ble_eq_true rfl, Nat.le_of_ble_eq_true rfl⟩) (fun r9 u9 H locs hw hP hD hS => ?_)
                    have hw1 : r_7 = r9 := hw.1.symm
                    subst hw1
                    replace hP : va_P E.1 vwCl (Unpacker_repeatBytes_w E a_this a_in a_in_row a_in_row_data a_p2 a_p2_counts a_p2_symbols a_out a_out_data n_in_row_data n_p2_symbols n_out_data x_fixedSymbols x_fixedDistances x_madeSymbols x_madeDistances x_lengthCodes x_lengths x_p2_offsets v_outStart v_farthest v_in_end v_in_row_length c_in_row_data c_p2_counts c_p2_symbols v_in_at v_out_length c_out_data) H := hP
                    replace hD : va_D A (Unpacker_repeatBytes_w E a_this a_in a_in_row a_in_row_data a_p2 a_p2_counts a_p2_symbols a_out a_out_data n_in_row_data n_p2_symbols n_out_data x_fixedSymbols x_fixedDistances x_madeSymbols x_madeDistances x_lengthCodes x_lengths x_p2_offsets v_outStart v_farthest v_in_end v_in_row_length c_in_row_data c_p2_counts c_p2_symbols v_in_at v_out_length c_out_data) := hD
                    refine lv_iload hx hb d_Unpacker_repeatBytes_147 (lv_at hl 2 rfl) ?_
                    refine lv_isub hx hb d_Unpacker_repeatBytes_149 ?_
                    obtain ⟨t_8, et_8⟩ : ∃ z : Int32, z = r_7 - x7 := ⟨_, rfl⟩
                    rw [← et_8]
                    replace hm := mL_e hm t_8 et_8
                    obtain ⟨r_9, hc150, hm⟩ := mR0_e hm
                    refine xmi (wc := (Bytes_at_w E a_out a_out_data n_out_data v_out_length c_out_data)) [false, false, false, false, false, false, false, true, true] [0, 1] [0, 1] hP hD hS hA rfl (by decide) (by decide) 2 (by decide) (fun _ => rfl) (fun hPc hDc hFc => va_runV (As := [.int t_8]) (rest := [.ref a_out]) ⟨hx, hb, hml, hown, hts⟩ (c_Bytes_at l E F H.size a_out a_out_data n_out_data v_out_length c_out_data t_8 (r_9, ()) hc150) (cwV 1 hts (x_gV tw_747 tw_448 tw_449 tw_67 tw_450) rfl rfl rfl (by decide +kernel) ⟨Nat.le_of_ble_eq_true rfl, Nat.le_of_ble_eq_true rfl⟩) (xPV 2 0 rfl rfl hPc hDc hFc hK hI hN hS) rfl rfl hl.1 rfl (lv_room (Nat.le_of_ble_eq_true rfl)) d_Unpacker_repeatBytes_150 ⟨Nat.le_of_ble_eq_true rfl, Nat.le_of_ble_eq_true rfl⟩) (fun r9 u9 H locs hw hP hD hS => ?_)
                    have hw1 : r_9 = r9 := hw.1.symm
                    subst hw1
                    replace hP : va_P E.1 vwCl (Unpacker_repeatBytes_w E a_this a_in a_in_row a_in_row_data a_p2 a_p2_counts a_p2_symbols a_out a_out_data n_in_row_data n_p2_symbols n_out_data x_fixedSymbols x_fixedDistances x_madeSymbols x_madeDistances x_lengthCodes x_lengths x_p2_offsets v_outStart v_farthest v_in_end v_in_row_length c_in_row_data c_p2_counts c_p2_symbols v_in_at v_out_length c_out_data) H := hP
                    replace hD : va_D A (Unpacker_repeatBytes_w E a_this a_in a_in_row a_in_row_data a_p2 a_p2_counts a_p2_symbols a_out a_out_data n_in_row_data n_p2_symbols n_out_data x_fixedSymbols x_fixedDistances x_madeSymbols x_madeDistances x_lengthCodes x_lengths x_p2_offsets v_outStart v_farthest v_in_end v_in_row_length c_in_row_data c_p2_counts c_p2_symbols v_in_at v_out_length c_out_data) := hD
                    obtain ⟨r_12, v_length_10, c_data_11, hc153, hm⟩ := mR2_e hm
                    refine xmv (wc := (Bytes_add_w E a_out a_out_data n_out_data v_out_length c_out_data)) [false, false, false, false, false, false, false, true, true] [0, 1] [0, 1] hP hD hS hA rfl (by decide) (by decide) 2 (by decide) (fun _ => rfl) (fun hPc hDc hFc => va_runV (As := [.int r_9]) (rest := []) ⟨hx, hb, hml, hown, hts⟩ (c_Bytes_add l E F H.size a_out a_out_data n_out_data v_out_length c_out_data r_9 (r_12, v_length_10, c_data_11) hc153) (cwV 1 hts (x_gV tw_729 tw_426 tw_427 tw_67 tw_428) rfl rfl rfl (by decide +kernel) ⟨Nat.le_of_ble_eq_true rfl, Nat.le_of_ble_eq_true rfl⟩) (xPV 2 0 rfl rfl hPc hDc hFc hK hI hN hS) rfl rfl hl.1 rfl (lv_room (Nat.le_of_ble_eq_true rfl)) d_Unpacker_repeatBytes_153 ⟨Nat.le_of_ble_eq_true rfl, Nat.le_of_ble_eq_true rfl⟩) (fun u9 H locs hw hP hD hS => ?_)
                    have hw2 : (v_length_10, c_data_11) = u9 := hw.symm
                    subst hw2
                    replace hP : va_P E.1 vwCl (Unpacker_repeatBytes_w E a_this a_in a_in_row a_in_row_data a_p2 a_p2_counts a_p2_symbols a_out a_out_data n_in_row_data n_p2_symbols n_out_data x_fixedSymbols x_fixedDistances x_madeSymbols x_madeDistances x_lengthCodes x_lengths x_p2_offsets v_outStart v_farthest v_in_end v_in_row_length c_in_row_data c_p2_counts c_p2_symbols v_in_at v_length_10 c_data_11) H := hP
                    replace hD : va_D A (Unpacker_repeatBytes_w E a_this a_in a_in_row a_in_row_data a_p2 a_p2_counts a_p2_symbols a_out a_out_data n_in_row_data n_p2_symbols n_out_data x_fixedSymbols x_fixedDistances x_madeSymbols x_madeDistances x_lengthCodes x_lengths x_p2_offsets v_outStart v_farthest v_in_end v_in_row_length c_in_row_data c_p2_counts c_p2_symbols v_in_at v_length_10 c_data_11) := hD
                    obtain ⟨y9_13, ey9_13⟩ : ∃ y : Int32, y = x9 + 1 := ⟨_, rfl⟩
                    replace hm := mL_e hm y9_13 ey9_13
                    refine lv_iinc (v := y9_13) (lv' := [(9, .int y9_13), (0, .ref a_this), (6, .int x6), (7, .int x7)]) hx hb d_Unpacker_repeatBytes_156 hl (k := 3) rfl (by rw [ey9_13]; rfl) (by decide) rfl (fun ls hl => ?_)
                    refine lv_goto (tgt := 125) hx hb d_Unpacker_repeatBytes_159 (by decide) ?_
                    exact ih_125 _ _ _ _ _ _ H locs ls hm hP hD hS (lv_sub hl [1, 2, 3, 0] rfl)
              refine lv_iconst (v := 0) hx hb d_Unpacker_repeatBytes_122 (by decide) ?_
              refine lv_istore (lv' := [(9, .int 0), (8, .int s0), (0, .ref a_this), (6, .int x6), (7, .int x7)]) hx hb d_Unpacker_repeatBytes_123 hl (by decide) rfl (fun ls hl => ?_)
              exact h_125 F _ _ _ _ _ _ H locs ls hm hP hD hS (lv_sub hl [2, 3, 4, 0] rfl)
            · replace hm := mC_f hm c117
              refine lv_iconst (v := 0) hx hb d_Unpacker_repeatBytes_120 (by decide) ?_
              replace hm := Option.some.inj hm
              subst hm
              exact hret d_Unpacker_repeatBytes_121 (by decide) (u := (v_in_at, v_out_length, c_out_data)) ⟨rfl, rfl⟩ hP hD hS
        have h_99 : ∀ (v_in_at : Int32) (v_out_length : Int32) (c_out_data : Nat → Int32) (x6 : Int32) (x7 : Int32) (H : Heap) (locs : List Loc) (ls : Array Slot), (Unpacker_repeatBytes_99 F n_out_data v_outStart) v_in_at v_out_length c_out_data x6 x7 = some res → va_P E.1 vwCl (Unpacker_repeatBytes_w E a_this a_in a_in_row a_in_row_data a_p2 a_p2_counts a_p2_symbols a_out a_out_data n_in_row_data n_p2_symbols n_out_data x_fixedSymbols x_fixedDistances x_madeSymbols x_madeDistances x_lengthCodes x_lengths x_p2_offsets v_outStart v_farthest v_in_end v_in_row_length c_in_row_data c_p2_counts c_p2_symbols v_in_at v_out_length c_out_data) H → va_D A (Unpacker_repeatBytes_w E a_this a_in a_in_row a_in_row_data a_p2 a_p2_counts a_p2_symbols a_out a_out_data n_in_row_data n_p2_symbols n_out_data x_fixedSymbols x_fixedDistances x_madeSymbols x_madeDistances x_lengthCodes x_lengths x_p2_offsets v_outStart v_farthest v_in_end v_in_row_length c_in_row_data c_p2_counts c_p2_symbols v_in_at v_out_length c_out_data) → va_S A s.heap H locs → lv_has ls 10 [(0, .ref a_this), (6, .int x6), (7, .int x7)] → W p l e Unpacker_repeatBytes_rm s m args below meth c H locs 0 0 Q (F0 m 99 ls []) := by
          intro v_in_at v_out_length c_out_data x6 x7 H locs ls hm hP hD hS hl
          rw [Unpacker_repeatBytes_99] at hm
          refine lv_iconst (v := 0) hx hb d_Unpacker_repeatBytes_99 (by decide) ?_
          exact h_100 _ _ _ _ _ _ H locs ls hm hP hD hS hl
        refine lv_aload_n hx hb d_Unpacker_repeatBytes_40 rfl (lv_at hl 2 rfl) ?_
        refine va_get (D := E.1) (ci := 9) (v := .ref a_in) (C := R_Unpacker) (T := F_Unpacker) (N := 10) hx hb hts i_Unpacker hown hK hP 0 rfl rfl 0 (by decide) (hts _ tw_343) (fun _ h9 => h9) rfl d_Unpacker_repeatBytes_41 ?_
        refine lv_iload hx hb d_Unpacker_repeatBytes_44 (lv_at hl 0 rfl) ?_
        obtain ⟨r_14, hc46, hm⟩ := mR0_e hm
        refine xmi (wc := (P_distanceExtra_w E)) [false, false, false, false, false, false, false, false, false] [] [] hP hD hS hA rfl (by decide) (by decide) 0 (by decide) (fun _ => rfl) (fun hPc hDc hFc => va_runSN (As := [.int r_5]) (rest := [.ref a_in]) ⟨hx, hb, hml, hown, hts⟩ (c_P_distanceExtra l E F H.size r_5 (r_14, ()) hc46) ⟨(va_cnB 1 hts (x_g tw_495) rfl rfl rfl (nM_12 hN) (hts _ tw_66) (by decide +kernel) ⟨Nat.le_of_ble_eq_true rfl, Nat.le_of_ble_eq_true rfl⟩), (hts _ tw_494), trivial⟩ (xPS hPc hDc hFc hK hI hN hS) rfl rfl hl.1 rfl (lv_room (Nat.le_of_ble_eq_true rfl)) d_Unpacker_repeatBytes_46 ⟨Nat.le_of_ble_eq_true rfl, Nat.le_of_ble_eq_true rfl⟩) (fun r9 u9 H locs hw hP hD hS => ?_)
        have hw1 : r_14 = r9 := hw.1.symm
        subst hw1
        replace hP : va_P E.1 vwCl (Unpacker_repeatBytes_w E a_this a_in a_in_row a_in_row_data a_p2 a_p2_counts a_p2_symbols a_out a_out_data n_in_row_data n_p2_symbols n_out_data x_fixedSymbols x_fixedDistances x_madeSymbols x_madeDistances x_lengthCodes x_lengths x_p2_offsets v_outStart v_farthest v_in_end v_in_row_length c_in_row_data c_p2_counts c_p2_symbols v_p1_at_4 v_out_length c_out_data) H := hP
        replace hD : va_D A (Unpacker_repeatBytes_w E a_this a_in a_in_row a_in_row_data a_p2 a_p2_counts a_p2_symbols a_out a_out_data n_in_row_data n_p2_symbols n_out_data x_fixedSymbols x_fixedDistances x_madeSymbols x_madeDistances x_lengthCodes x_lengths x_p2_offsets v_outStart v_farthest v_in_end v_in_row_length c_in_row_data c_p2_counts c_p2_symbols v_p1_at_4 v_out_length c_out_data) := hD
        obtain ⟨r_16, v_at_15, hc49, hm⟩ := mR1_e hm
        refine xmi (wc := (BitReader_number_w E a_in a_in_row a_in_row_data n_in_row_data v_in_end v_in_row_length c_in_row_data v_p1_at_4)) [false, true, true, true, false, false, false, false, false] [0, 1, 2] [0, 1, 2] hP hD hS hA rfl (by decide) (by decide) 3 (by decide) (fun _ => rfl) (fun hPc hDc hFc => va_runV (As := [.int r_14]) (rest := []) ⟨hx, hb, hml, hown, hts⟩ (c_BitReader_number l E F H.size a_in a_in_row a_in_row_data n_in_row_data v_in_end v_in_row_length c_in_row_data v_p1_at_4 r_14 (r_16, v_at_15) hc49) (cwV 1 hts (x_gV tw_706 tw_707 tw_708 tw_77 tw_709) rfl rfl rfl (by decide +kernel) ⟨Nat.le_of_ble_eq_true rfl, Nat.le_of_ble_eq_true rfl⟩) (xPV 0 0 rfl rfl hPc hDc hFc hK hI hN hS) rfl rfl hl.1 rfl (lv_room (Nat.le_of_ble_eq_true rfl)) d_Unpacker_repeatBytes_49 ⟨Nat.le_of_ble_eq_true rfl, Nat.le_of_ble_eq_true rfl⟩) (fun r9 u9 H locs hw hP hD hS => ?_)
        have hw1 : r_16 = r9 := hw.1.symm
        subst hw1
        have hw2 : v_at_15 = u9 := hw.2.symm
        subst hw2
        replace hP : va_P E.1 vwCl (Unpacker_repeatBytes_w E a_this a_in a_in_row a_in_row_data a_p2 a_p2_counts a_p2_symbols a_out a_out_data n_in_row_data n_p2_symbols n_out_data x_fixedSymbols x_fixedDistances x_madeSymbols x_madeDistances x_lengthCodes x_lengths x_p2_offsets v_outStart v_farthest v_in_end v_in_row_length c_in_row_data c_p2_counts c_p2_symbols v_at_15 v_out_length c_out_data) H := hP
        replace hD : va_D A (Unpacker_repeatBytes_w E a_this a_in a_in_row a_in_row_data a_p2 a_p2_counts a_p2_symbols a_out a_out_data n_in_row_data n_p2_symbols n_out_data x_fixedSymbols x_fixedDistances x_madeSymbols x_madeDistances x_lengthCodes x_lengths x_p2_offsets v_outStart v_farthest v_in_end v_in_row_length c_in_row_data c_p2_counts c_p2_symbols v_at_15 v_out_length c_out_data) := hD
        refine lv_istore (lv' := [(5, .int r_16), (4, .int r_5), (3, .int r_3), (0, .ref a_this), (1, .int x1), (2, .ref a_p2)]) hx hb d_Unpacker_repeatBytes_52 hl (by decide) rfl (fun ls hl => ?_)
        refine lv_iload_n hx hb d_Unpacker_repeatBytes_54 rfl (lv_at hl 4 rfl) ?_
        obtain ⟨r_17, hc55, hm⟩ := mR0_e hm
        refine xmi (wc := (P_lengthBase_w E)) [false, false, false, false, false, false, false, false, false] [] [] hP hD hS hA rfl (by decide) (by decide) 0 (by decide) (fun _ => rfl) (fun hPc hDc hFc => va_runSN (As := [.int x1]) (rest := []) ⟨hx, hb, hml, hown, hts⟩ (c_P_lengthBase l E F H.size x1 (r_17, ()) hc55) ⟨(va_cnB 1 hts (x_g tw_597) rfl rfl rfl (nM_13 hN) (hts _ tw_66) (by decide +kernel) ⟨Nat.le_of_ble_eq_true rfl, Nat.le_of_ble_eq_true rfl⟩), (hts _ tw_596), trivial⟩ (xPS hPc hDc hFc hK hI hN hS) rfl rfl hl.1 rfl (lv_room (Nat.le_of_ble_eq_true rfl)) d_Unpacker_repeatBytes_55 ⟨Nat.le_of_ble_eq_true rfl, Nat.le_of_ble_eq_true rfl⟩) (fun r9 u9 H locs hw hP hD hS => ?_)
        have hw1 : r_17 = r9 := hw.1.symm
        subst hw1
        replace hP : va_P E.1 vwCl (Unpacker_repeatBytes_w E a_this a_in a_in_row a_in_row_data a_p2 a_p2_counts a_p2_symbols a_out a_out_data n_in_row_data n_p2_symbols n_out_data x_fixedSymbols x_fixedDistances x_madeSymbols x_madeDistances x_lengthCodes x_lengths x_p2_offsets v_outStart v_farthest v_in_end v_in_row_length c_in_row_data c_p2_counts c_p2_symbols v_at_15 v_out_length c_out_data) H := hP
        replace hD : va_D A (Unpacker_repeatBytes_w E a_this a_in a_in_row a_in_row_data a_p2 a_p2_counts a_p2_symbols a_out a_out_data n_in_row_data n_p2_symbols n_out_data x_fixedSymbols x_fixedDistances x_madeSymbols x_madeDistances x_lengthCodes x_lengths x_p2_offsets v_outStart v_farthest v_in_end v_in_row_length c_in_row_data c_p2_counts c_p2_symbols v_at_15 v_out_length c_out_data) := hD
        refine lv_iload_n hx hb d_Unpacker_repeatBytes_58 rfl (lv_at hl 2 rfl) ?_
        refine lv_iadd hx hb d_Unpacker_repeatBytes_59 ?_
        refine lv_topi (fun y6_18 ey6_18 => ?_)
        replace hm := mL_e hm y6_18 ey6_18
        refine lv_istore (lv' := [(6, .int y6_18), (5, .int r_16), (4, .int r_5), (3, .int r_3), (0, .ref a_this), (1, .int x1), (2, .ref a_p2)]) hx hb d_Unpacker_repeatBytes_60 hl (by decide) rfl (fun ls hl => ?_)
        refine lv_iload hx hb d_Unpacker_repeatBytes_62 (lv_at hl 2 rfl) ?_
        obtain ⟨r_19, hc64, hm⟩ := mR0_e hm
        refine xmi (wc := (P_distanceBase_w E)) [false, false, false, false, false, false, false, false, false] [] [] hP hD hS hA rfl (by decide) (by decide) 0 (by decide) (fun _ => rfl) (fun hPc hDc hFc => va_runSN (As := [.int r_5]) (rest := []) ⟨hx, hb, hml, hown, hts⟩ (c_P_distanceBase l E F H.size r_5 (r_19, ()) hc64) ⟨(va_cnB 1 hts (x_g tw_601) rfl rfl rfl (nM_14 hN) (hts _ tw_66) (by decide +kernel) ⟨Nat.le_of_ble_eq_true rfl, Nat.le_of_ble_eq_true rfl⟩), (hts _ tw_600), trivial⟩ (xPS hPc hDc hFc hK hI hN hS) rfl rfl hl.1 rfl (lv_room (Nat.le_of_ble_eq_true rfl)) d_Unpacker_repeatBytes_64 ⟨Nat.le_of_ble_eq_true rfl, Nat.le_of_ble_eq_true rfl⟩) (fun r9 u9 H locs hw hP hD hS => ?_)
        have hw1 : r_19 = r9 := hw.1.symm
        subst hw1
        replace hP : va_P E.1 vwCl (Unpacker_repeatBytes_w E a_this a_in a_in_row a_in_row_data a_p2 a_p2_counts a_p2_symbols a_out a_out_data n_in_row_data n_p2_symbols n_out_data x_fixedSymbols x_fixedDistances x_madeSymbols x_madeDistances x_lengthCodes x_lengths x_p2_offsets v_outStart v_farthest v_in_end v_in_row_length c_in_row_data c_p2_counts c_p2_symbols v_at_15 v_out_length c_out_data) H := hP
        replace hD : va_D A (Unpacker_repeatBytes_w E a_this a_in a_in_row a_in_row_data a_p2 a_p2_counts a_p2_symbols a_out a_out_data n_in_row_data n_p2_symbols n_out_data x_fixedSymbols x_fixedDistances x_madeSymbols x_madeDistances x_lengthCodes x_lengths x_p2_offsets v_outStart v_farthest v_in_end v_in_row_length c_in_row_data c_p2_counts c_p2_symbols v_at_15 v_out_length c_out_data) := hD
        refine lv_iload hx hb d_Unpacker_repeatBytes_67 (lv_at hl 1 rfl) ?_
        refine lv_iadd hx hb d_Unpacker_repeatBytes_69 ?_
        refine lv_topi (fun y7_20 ey7_20 => ?_)
        replace hm := mL_e hm y7_20 ey7_20
        refine lv_istore (lv' := [(7, .int y7_20), (6, .int y6_18), (5, .int r_16), (4, .int r_5), (3, .int r_3), (0, .ref a_this), (1, .int x1), (2, .ref a_p2)]) hx hb d_Unpacker_repeatBytes_70 hl (by decide) rfl (fun ls hl => ?_)
        refine lv_iload hx hb d_Unpacker_repeatBytes_72 (lv_at hl 2 rfl) ?_
        refine lv_if_lt (tgt := 99) hx hb d_Unpacker_repeatBytes_74 (by decide) (fun c74 => ?_) (fun c74 => ?_)
        · replace hm := mC_t hm c74
          exact h_99 _ _ _ _ _ H locs ls hm hP hD hS (lv_sub hl [5, 1, 0] rfl)
        · replace hm := mC_f hm c74
          refine lv_iload hx hb d_Unpacker_repeatBytes_77 (lv_at hl 0 rfl) ?_
          refine lv_aload_n hx hb d_Unpacker_repeatBytes_79 rfl (lv_at hl 5 rfl) ?_
          obtain ⟨r_21, hc80, hm⟩ := mR0_e hm
          refine xmi (wc := (Unpacker_made_w E a_this a_out (.ref a_in) x_fixedSymbols x_fixedDistances x_madeSymbols x_madeDistances x_lengthCodes x_lengths (.ref a_out_data) v_outStart v_out_length v_farthest)) [true, false, false, false, false, false, false, true, false] [0, 1] [0, 1] hP hD hS hA rfl (by decide) (by decide) 2 (by decide) (fun _ => rfl) (fun hPc hDc hFc => va_runV (As := []) (rest := [.int y7_20]) ⟨hx, hb, hml, hown, hts⟩ (c_Unpacker_made l E F H.size a_this a_out (.ref a_in) x_fixedSymbols x_fixedDistances x_madeSymbols x_madeDistances x_lengthCodes x_lengths (.ref a_out_data) v_outStart v_out_length v_farthest (r_21, ()) hc80) (cwV 0 hts (x_gV tw_721 tw_723 tw_24 tw_76 tw_724) rfl rfl rfl (by decide +kernel) ⟨Nat.le_of_ble_eq_true rfl, Nat.le_of_ble_eq_true rfl⟩) (xPV 9 0 rfl rfl hPc hDc hFc hK hI hN hS) rfl rfl hl.1 rfl (lv_room (Nat.le_of_ble_eq_true rfl)) d_Unpacker_repeatBytes_80 ⟨Nat.le_of_ble_eq_true rfl, Nat.le_of_ble_eq_true rfl⟩) (fun r9 u9 H locs hw hP hD hS => ?_)
          have hw1 : r_21 = r9 := hw.1.symm
          subst hw1
          replace hP : va_P E.1 vwCl (Unpacker_repeatBytes_w E a_this a_in a_in_row a_in_row_data a_p2 a_p2_counts a_p2_symbols a_out a_out_data n_in_row_data n_p2_symbols n_out_data x_fixedSymbols x_fixedDistances x_madeSymbols x_madeDistances x_lengthCodes x_lengths x_p2_offsets v_outStart v_farthest v_in_end v_in_row_length c_in_row_data c_p2_counts c_p2_symbols v_at_15 v_out_length c_out_data) H := hP
          replace hD : va_D A (Unpacker_repeatBytes_w E a_this a_in a_in_row a_in_row_data a_p2 a_p2_counts a_p2_symbols a_out a_out_data n_in_row_data n_p2_symbols n_out_data x_fixedSymbols x_fixedDistances x_madeSymbols x_madeDistances x_lengthCodes x_lengths x_p2_offsets v_outStart v_farthest v_in_end v_in_row_length c_in_row_data c_p2_counts c_p2_symbols v_at_15 v_out_length c_out_data) := hD
          refine lv_icmp_gt (tgt := 99) hx hb d_Unpacker_repeatBytes_83 (by decide) (fun c83 => ?_) (fun c83 => ?_)
          · replace hm := mC_t hm c83
            exact h_99 _ _ _ _ _ H locs ls hm hP hD hS (lv_sub hl [5, 1, 0] rfl)
          · replace hm := mC_f hm c83
            refine lv_iload hx hb d_Unpacker_repeatBytes_86 (lv_at hl 0 rfl) ?_
            refine lv_aload_n hx hb d_Unpacker_repeatBytes_88 rfl (lv_at hl 5 rfl) ?_
            refine va_get (D := E.1) (ci := 9) (v := .int v_farthest) (C := R_Unpacker) (T := F_Unpacker) (N := 10) hx hb hts i_Unpacker hown hK hP 0 rfl rfl 9 (by decide) (hts _ tw_352) (fun _ h9 => h9) rfl d_Unpacker_repeatBytes_89 ?_
            refine lv_icmp_gt (tgt := 99) hx hb d_Unpacker_repeatBytes_92 (by decide) (fun c92 => ?_) (fun c92 => ?_)
            · replace hm := mC_t hm c92
              exact h_99 _ _ _ _ _ H locs ls hm hP hD hS (lv_sub hl [5, 1, 0] rfl)
            · replace hm := mC_f hm c92
              refine lv_iconst (v := 1) hx hb d_Unpacker_repeatBytes_95 (by decide) ?_
              refine lv_goto (tgt := 100) hx hb d_Unpacker_repeatBytes_96 (by decide) ?_
              exact h_100 _ _ _ _ _ _ H locs ls hm hP hD hS (lv_sub hl [5, 1, 0] rfl)
      · replace hm := mC_f hm c35
        refine lv_iconst (v := 0) hx hb d_Unpacker_repeatBytes_38 (by decide) ?_
        replace hm := Option.some.inj hm
        subst hm
        exact hret d_Unpacker_repeatBytes_39 (by decide) (u := (v_p1_at_4, v_out_length, c_out_data)) ⟨rfl, rfl⟩ hP hD hS
theorem d_Unpacker_followSymbols_0 : decode b_Unpacker_followSymbols 0 = .ok (.iconst 0, 1) := by decide +kernel
theorem d_Unpacker_followSymbols_1 : decode b_Unpacker_followSymbols 1 = .ok (.istore_n 3, 1) := by decide +kernel
theorem d_Unpacker_followSymbols_2 : decode b_Unpacker_followSymbols 2 = .ok (.iload_n 3, 1) := by decide +kernel
theorem d_Unpacker_followSymbols_3 : decode b_Unpacker_followSymbols 3 = .ok (.ldc 81, 2) := by decide +kernel
theorem d_Unpacker_followSymbols_5 : decode b_Unpacker_followSymbols 5 = .ok (.if_icmp .ge 86, 3) := by decide +kernel
theorem d_Unpacker_followSymbols_8 : decode b_Unpacker_followSymbols 8 = .ok (.aload_n 1, 1) := by decide +kernel
theorem d_Unpacker_followSymbols_9 : decode b_Unpacker_followSymbols 9 = .ok (.aload_n 0, 1) := by decide +kernel
theorem d_Unpacker_followSymbols_10 : decode b_Unpacker_followSymbols 10 = .ok (.getfield 14, 3) := by decide +kernel
theorem d_Unpacker_followSymbols_13 : decode b_Unpacker_followSymbols 13 = .ok (.invokevirtual 125, 3) := by decide +kernel
theorem d_Unpacker_followSymbols_16 : decode b_Unpacker_followSymbols 16 = .ok (.istore 4, 2) := by decide +kernel
theorem d_Unpacker_followSymbols_18 : decode b_Unpacker_followSymbols 18 = .ok (.iload 4, 2) := by decide +kernel
theorem d_Unpacker_followSymbols_20 : decode b_Unpacker_followSymbols 20 = .ok (.sipush 256, 3) := by decide +kernel
theorem d_Unpacker_followSymbols_23 : decode b_Unpacker_followSymbols 23 = .ok (.if_icmp .ne 5, 3) := by decide +kernel
theorem d_Unpacker_followSymbols_26 : decode b_Unpacker_followSymbols 26 = .ok (.iconst 1, 1) := by decide +kernel
theorem d_Unpacker_followSymbols_27 : decode b_Unpacker_followSymbols 27 = .ok (.ireturn, 1) := by decide +kernel
theorem d_Unpacker_followSymbols_28 : decode b_Unpacker_followSymbols 28 = .ok (.iload 4, 2) := by decide +kernel
theorem d_Unpacker_followSymbols_30 : decode b_Unpacker_followSymbols 30 = .ok (.ifCond .lt 21, 3) := by decide +kernel
theorem d_Unpacker_followSymbols_33 : decode b_Unpacker_followSymbols 33 = .ok (.iload 4, 2) := by decide +kernel
theorem d_Unpacker_followSymbols_35 : decode b_Unpacker_followSymbols 35 = .ok (.sipush 285, 3) := by decide +kernel
theorem d_Unpacker_followSymbols_38 : decode b_Unpacker_followSymbols 38 = .ok (.if_icmp .gt 13, 3) := by decide +kernel
theorem d_Unpacker_followSymbols_41 : decode b_Unpacker_followSymbols 41 = .ok (.aload_n 0, 1) := by decide +kernel
theorem d_Unpacker_followSymbols_42 : decode b_Unpacker_followSymbols 42 = .ok (.invokevirtual 112, 3) := by decide +kernel
theorem d_Unpacker_followSymbols_45 : decode b_Unpacker_followSymbols 45 = .ok (.sipush 8192, 3) := by decide +kernel
theorem d_Unpacker_followSymbols_48 : decode b_Unpacker_followSymbols 48 = .ok (.if_icmp .lt 5, 3) := by decide +kernel
theorem d_Unpacker_followSymbols_51 : decode b_Unpacker_followSymbols 51 = .ok (.iconst 0, 1) := by decide +kernel
theorem d_Unpacker_followSymbols_52 : decode b_Unpacker_followSymbols 52 = .ok (.ireturn, 1) := by decide +kernel
theorem d_Unpacker_followSymbols_53 : decode b_Unpacker_followSymbols 53 = .ok (.iload 4, 2) := by decide +kernel
theorem d_Unpacker_followSymbols_55 : decode b_Unpacker_followSymbols 55 = .ok (.sipush 256, 3) := by decide +kernel
theorem d_Unpacker_followSymbols_58 : decode b_Unpacker_followSymbols 58 = .ok (.if_icmp .ge 15, 3) := by decide +kernel
theorem d_Unpacker_followSymbols_61 : decode b_Unpacker_followSymbols 61 = .ok (.aload_n 0, 1) := by decide +kernel
theorem d_Unpacker_followSymbols_62 : decode b_Unpacker_followSymbols 62 = .ok (.getfield 20, 3) := by decide +kernel
theorem d_Unpacker_followSymbols_65 : decode b_Unpacker_followSymbols 65 = .ok (.iload 4, 2) := by decide +kernel
theorem d_Unpacker_followSymbols_67 : decode b_Unpacker_followSymbols 67 = .ok (.invokevirtual 115, 3) := by decide +kernel
theorem d_Unpacker_followSymbols_70 : decode b_Unpacker_followSymbols 70 = .ok (.goto 15, 3) := by decide +kernel
theorem d_Unpacker_followSymbols_73 : decode b_Unpacker_followSymbols 73 = .ok (.aload_n 0, 1) := by decide +kernel
theorem d_Unpacker_followSymbols_74 : decode b_Unpacker_followSymbols 74 = .ok (.iload 4, 2) := by decide +kernel
theorem d_Unpacker_followSymbols_76 : decode b_Unpacker_followSymbols 76 = .ok (.aload_n 2, 1) := by decide +kernel
theorem d_Unpacker_followSymbols_77 : decode b_Unpacker_followSymbols 77 = .ok (.invokevirtual 135, 3) := by decide +kernel
theorem d_Unpacker_followSymbols_80 : decode b_Unpacker_followSymbols 80 = .ok (.ifCond .ne 5, 3) := by decide +kernel
theorem d_Unpacker_followSymbols_83 : decode b_Unpacker_followSymbols 83 = .ok (.iconst 0, 1) := by decide +kernel
theorem d_Unpacker_followSymbols_84 : decode b_Unpacker_followSymbols 84 = .ok (.ireturn, 1) := by decide +kernel
theorem d_Unpacker_followSymbols_85 : decode b_Unpacker_followSymbols 85 = .ok (.iinc 3 1, 3) := by decide +kernel
theorem d_Unpacker_followSymbols_88 : decode b_Unpacker_followSymbols 88 = .ok (.goto (-86), 3) := by decide +kernel
theorem d_Unpacker_followSymbols_91 : decode b_Unpacker_followSymbols 91 = .ok (.iconst 0, 1) := by decide +kernel
theorem d_Unpacker_followSymbols_92 : decode b_Unpacker_followSymbols 92 = .ok (.ireturn, 1) := by decide +kernel
def Unpacker_followSymbols_85 (F : Nat) (k_2 : Int32 → Int32 → (Nat → Int32) → Int32 → Option (Int32 × Int32 × Int32 × (Nat → Int32))) (v_in_at : Int32) (v_out_length : Int32) (c_out_data : Nat → Int32) (x3 : Int32) : Option (Int32 × Int32 × Int32 × (Nat → Int32)) :=
  mL (x3 + 1) fun y3_4 => k_2 v_in_at v_out_length c_out_data y3_4
def Unpacker_followSymbols_2 (F : Nat) (n_in_row_data : Nat) (n_p1_symbols : Nat) (n_out_data : Nat) (n_p2_symbols : Nat) (v_outStart : Int32) (v_farthest : Int32) (v_in_end : Int32) (v_in_row_length : Int32) (c_in_row_data : Nat → Int32) (c_p1_counts : Nat → Int32) (c_p1_symbols : Nat → Int32) (c_p2_counts : Nat → Int32) (c_p2_symbols : Nat → Int32) (k_2 : Int32 → Int32 → (Nat → Int32) → Int32 → Option (Int32 × Int32 × Int32 × (Nat → Int32))) (v_in_at : Int32) (v_out_length : Int32) (c_out_data : Nat → Int32) (x3 : Int32) : Option (Int32 × Int32 × Int32 × (Nat → Int32)) :=
  mC (65536 ≤ x3) (some (0, v_in_at, v_out_length, c_out_data)) (mR1 (Table_next F n_in_row_data n_p1_symbols v_in_end v_in_row_length c_in_row_data c_p1_counts c_p1_symbols v_in_at) fun r_2 v_p1_at_1 => mC (r_2 = 256) (some (1, v_p1_at_1, v_out_length, c_out_data)) (mC (r_2 < 0) (some (0, v_p1_at_1, v_out_length, c_out_data)) (mC (285 < r_2) (some (0, v_p1_at_1, v_out_length, c_out_data)) (mR0 (Unpacker_made F v_outStart v_out_length) fun r_3 => mC (r_3 < 8192) (mC (256 ≤ r_2) (mR3 (Unpacker_repeatBytes F n_in_row_data n_p2_symbols n_out_data v_outStart v_farthest v_in_end v_in_row_length c_in_row_data c_p2_counts c_p2_symbols v_p1_at_1 v_out_length c_out_data r_2) fun r_8 v_in_at_5 v_out_length_6 c_out_data_7 => mC (r_8 = 0) (some (0, v_in_at_5, v_out_length_6, c_out_data_7)) ((Unpacker_followSymbols_85 F k_2) v_in_at_5 v_out_length_6 c_out_data_7 x3)) (mR2 (Bytes_add F n_out_data v_out_length c_out_data r_2) fun _ v_length_9 c_data_10 => (Unpacker_followSymbols_85 F k_2) v_p1_at_1 v_length_9 c_data_10 x3)) (some (0, v_p1_at_1, v_out_length, c_out_data))))))
abbrev Unpacker_followSymbols_w (E : xE) (a_this : Nat) (a_in : Nat) (a_in_row : Nat) (a_in_row_data : Nat) (a_p1 : Nat) (a_p1_counts : Nat) (a_p1_symbols : Nat) (a_out : Nat) (a_out_data : Nat) (a_p2 : Nat) (a_p2_counts : Nat) (a_p2_symbols : Nat) (n_in_row_data : Nat) (n_p1_symbols : Nat) (n_out_data : Nat) (n_p2_symbols : Nat) (x_fixedSymbols : Value) (x_fixedDistances : Value) (x_madeSymbols : Value) (x_madeDistances : Value) (x_lengthCodes : Value) (x_lengths : Value) (x_p1_offsets : Value) (x_p2_offsets : Value) (v_outStart : Int32) (v_farthest : Int32) (v_in_end : Int32) (v_in_row_length : Int32) (c_in_row_data : Nat → Int32) (c_p1_counts : Nat → Int32) (c_p1_symbols : Nat → Int32) (c_p2_counts : Nat → Int32) (c_p2_symbols : Nat → Int32) (v_in_at : Int32) (v_out_length : Int32) (c_out_data : Nat → Int32) : va_W := [(a_this, .inr (9, [.ref a_in, .ref a_out, x_fixedSymbols, x_fixedDistances, x_madeSymbols, x_madeDistances, x_lengthCodes, x_lengths, .int v_outStart, .int v_farthest])), (a_in, .inr (0, [.ref a_in_row, .int v_in_at, .int v_in_end])), (a_in_row, .inr (2, [.ref a_in_row_data, .int v_in_row_length])), (a_in_row_data, .inl (E.2.2.1, n_in_row_data, .inl c_in_row_data)), (a_p1, .inr (8, [.ref a_p1_counts, x_p1_offsets, .ref a_p1_symbols])), (a_p1_counts, .inl (E.2.1, 16, .inl c_p1_counts)), (a_p1_symbols, .inl (E.2.1, n_p1_symbols, .inl c_p1_symbols)), (a_out, .inr (2, [.ref a_out_data, .int v_out_length])), (a_out_data, .inl (E.2.2.1, n_out_data, .inl c_out_data)), (a_p2, .inr (8, [.ref a_p2_counts, x_p2_offsets, .ref a_p2_symbols])), (a_p2_counts, .inl (E.2.1, 16, .inl c_p2_counts)), (a_p2_symbols, .inl (E.2.1, n_p2_symbols, .inl c_p2_symbols))]
def Unpacker_followSymbols (F : Nat) (n_in_row_data : Nat) (n_p1_symbols : Nat) (n_out_data : Nat) (n_p2_symbols : Nat) (v_outStart : Int32) (v_farthest : Int32) (v_in_end : Int32) (v_in_row_length : Int32) (c_in_row_data : Nat → Int32) (c_p1_counts : Nat → Int32) (c_p1_symbols : Nat → Int32) (c_p2_counts : Nat → Int32) (c_p2_symbols : Nat → Int32) (v_in_at : Int32) (v_out_length : Int32) (c_out_data : Nat → Int32) : Option (Int32 × Int32 × Int32 × (Nat → Int32)) :=
  (mW4 (Unpacker_followSymbols_2 F n_in_row_data n_p1_symbols n_out_data n_p2_symbols v_outStart v_farthest v_in_end v_in_row_length c_in_row_data c_p1_counts c_p1_symbols c_p2_counts c_p2_symbols) F) v_in_at v_out_length c_out_data 0
abbrev Unpacker_followSymbols_rm : Room := { frames := 4, cells := 0, slots := 0, locals := 100 }
set_option maxHeartbeats 4000000 in
set_option maxRecDepth 100000 in
theorem c_Unpacker_followSymbols (l : Launch) (E : xE) (F sz : Nat) (a_this : Nat) (a_in : Nat) (a_in_row : Nat) (a_in_row_data : Nat) (a_p1 : Nat) (a_p1_counts : Nat) (a_p1_symbols : Nat) (a_out : Nat) (a_out_data : Nat) (a_p2 : Nat) (a_p2_counts : Nat) (a_p2_symbols : Nat) (n_in_row_data : Nat) (n_p1_symbols : Nat) (n_out_data : Nat) (n_p2_symbols : Nat) (x_fixedSymbols : Value) (x_fixedDistances : Value) (x_madeSymbols : Value) (x_madeDistances : Value) (x_lengthCodes : Value) (x_lengths : Value) (x_p1_offsets : Value) (x_p2_offsets : Value) (v_outStart : Int32) (v_farthest : Int32) (v_in_end : Int32) (v_in_row_length : Int32) (c_in_row_data : Nat → Int32) (c_p1_counts : Nat → Int32) (c_p1_symbols : Nat → Int32) (c_p2_counts : Nat → Int32) (c_p2_symbols : Nat → Int32) (v_in_at : Int32) (v_out_length : Int32) (c_out_data : Nat → Int32) (res : Int32 × Int32 × Int32 × (Nat → Int32)) (hm : Unpacker_followSymbols F n_in_row_data n_p1_symbols n_out_data n_p2_symbols v_outStart v_farthest v_in_end v_in_row_length c_in_row_data c_p1_counts c_p1_symbols c_p2_counts c_p2_symbols v_in_at v_out_length c_out_data = some res) : Met l y_Unpacker_followSymbols (Cond.code y_Unpacker_followSymbols b_Unpacker_followSymbols 5 (some .boolean) :: x_tb) Unpacker_followSymbols_rm (va_Pc [.ref a_this, .ref a_p1, .ref a_p2] (xPre E (Unpacker_followSymbols_w E a_this a_in a_in_row a_in_row_data a_p1 a_p1_counts a_p1_symbols a_out a_out_data a_p2 a_p2_counts a_p2_symbols n_in_row_data n_p1_symbols n_out_data n_p2_symbols x_fixedSymbols x_fixedDistances x_madeSymbols x_madeDistances x_lengthCodes x_lengths x_p1_offsets x_p2_offsets v_outStart v_farthest v_in_end v_in_row_length c_in_row_data c_p1_counts c_p1_symbols c_p2_counts c_p2_symbols v_in_at v_out_length c_out_data) sz)) (xQi E (fun (r : Int32) (u : Int32 × Int32 × (Nat → Int32)) => r = res.1 ∧ u = res.2) (fun (u : Int32 × Int32 × (Nat → Int32)) => (Unpacker_followSymbols_w E a_this a_in a_in_row a_in_row_data a_p1 a_p1_counts a_p1_symbols a_out a_out_data a_p2 a_p2_counts a_p2_symbols n_in_row_data n_p1_symbols n_out_data n_p2_symbols x_fixedSymbols x_fixedDistances x_madeSymbols x_madeDistances x_lengthCodes x_lengths x_p1_offsets x_p2_offsets v_outStart v_farthest v_in_end v_in_row_length c_in_row_data c_p1_counts c_p1_symbols c_p2_counts c_p2_symbols u.1 u.2.1 u.2.2)) (va_A (Unpacker_followSymbols_w E a_this a_in a_in_row a_in_row_data a_p1 a_p1_counts a_p1_symbols a_out a_out_data a_p2 a_p2_counts a_p2_symbols n_in_row_data n_p1_symbols n_out_data n_p2_symbols x_fixedSymbols x_fixedDistances x_madeSymbols x_madeDistances x_lengthCodes x_lengths x_p1_offsets x_p2_offsets v_outStart v_farthest v_in_end v_in_row_length c_in_row_data c_p1_counts c_p1_symbols c_p2_counts c_p2_symbols v_in_at v_out_length c_out_data) sz)) 0 0 (va_A (Unpacker_followSymbols_w E a_this a_in a_in_row a_in_row_data a_p1 a_p1_counts a_p1_symbols a_out a_out_data a_p2 a_p2_counts a_p2_symbols n_in_row_data n_p1_symbols n_out_data n_p2_symbols x_fixedSymbols x_fixedDistances x_madeSymbols x_madeDistances x_lengthCodes x_lengths x_p1_offsets x_p2_offsets v_outStart v_farthest v_in_end v_in_row_length c_in_row_data c_p1_counts c_p1_symbols c_p2_counts c_p2_symbols v_in_at v_out_length c_out_data) sz) := by
  refine xEnZ (by decide) (Nat.le_of_ble_eq_true rfl) ?_
  intro p e s m args below meth c A ls Q hx hb hnm hts hown hml hK hA hI hN hret hP hD hS hl
  replace hown : s.vm.findClass R_Unpacker = some m.cls := hown
  replace hl : lv_has ls 5 [(0, .ref a_this), (1, .ref a_p1), (2, .ref a_p2)] := hl
  obtain ⟨H, eH⟩ : ∃ z, z = s.heap := ⟨_, rfl⟩
  obtain ⟨locs, eL⟩ : ∃ z : List Loc, z = [] := ⟨_, rfl⟩
  rw [show W p l e Unpacker_followSymbols_rm s m args below meth c s.heap [] 0 0 Q (F0 m 0 ls []) = W p l e Unpacker_followSymbols_rm s m args below meth c H locs 0 0 Q (F0 m 0 ls []) by rw [eH, eL]]
  replace hP : va_P E.1 vwCl (Unpacker_followSymbols_w E a_this a_in a_in_row a_in_row_data a_p1 a_p1_counts a_p1_symbols a_out a_out_data a_p2 a_p2_counts a_p2_symbols n_in_row_data n_p1_symbols n_out_data n_p2_symbols x_fixedSymbols x_fixedDistances x_madeSymbols x_madeDistances x_lengthCodes x_lengths x_p1_offsets x_p2_offsets v_outStart v_farthest v_in_end v_in_row_length c_in_row_data c_p1_counts c_p1_symbols c_p2_counts c_p2_symbols v_in_at v_out_length c_out_data) H := by rw [eH]; exact hP
  replace hS : va_S A s.heap H locs := by rw [eH, eL]; exact hS
  clear eH eL
  rw [Unpacker_followSymbols] at hm
  have h_2 : ∀ (n_2 : Nat) (v_in_at : Int32) (v_out_length : Int32) (c_out_data : Nat → Int32) (x3 : Int32) (H : Heap) (locs : List Loc) (ls : Array Slot), (mW4 (Unpacker_followSymbols_2 F n_in_row_data n_p1_symbols n_out_data n_p2_symbols v_outStart v_farthest v_in_end v_in_row_length c_in_row_data c_p1_counts c_p1_symbols c_p2_counts c_p2_symbols) n_2) v_in_at v_out_length c_out_data x3 = some res → va_P E.1 vwCl (Unpacker_followSymbols_w E a_this a_in a_in_row a_in_row_data a_p1 a_p1_counts a_p1_symbols a_out a_out_data a_p2 a_p2_counts a_p2_symbols n_in_row_data n_p1_symbols n_out_data n_p2_symbols x_fixedSymbols x_fixedDistances x_madeSymbols x_madeDistances x_lengthCodes x_lengths x_p1_offsets x_p2_offsets v_outStart v_farthest v_in_end v_in_row_length c_in_row_data c_p1_counts c_p1_symbols c_p2_counts c_p2_symbols v_in_at v_out_length c_out_data) H → va_D A (Unpacker_followSymbols_w E a_this a_in a_in_row a_in_row_data a_p1 a_p1_counts a_p1_symbols a_out a_out_data a_p2 a_p2_counts a_p2_symbols n_in_row_data n_p1_symbols n_out_data n_p2_symbols x_fixedSymbols x_fixedDistances x_madeSymbols x_madeDistances x_lengthCodes x_lengths x_p1_offsets x_p2_offsets v_outStart v_farthest v_in_end v_in_row_length c_in_row_data c_p1_counts c_p1_symbols c_p2_counts c_p2_symbols v_in_at v_out_length c_out_data) → va_S A s.heap H locs → lv_has ls 5 [(0, .ref a_this), (1, .ref a_p1), (2, .ref a_p2), (3, .int x3)] → W p l e Unpacker_followSymbols_rm s m args below meth c H locs 0 0 Q (F0 m 2 ls []) := by
    intro n_2
    induction n_2 with
    | zero => exact fun _ _ _ _ _ _ _ hm _ _ _ _ => (mW4_z hm).elim
    | succ n_2 ih_2 =>
      intro v_in_at v_out_length c_out_data x3 H locs ls hm hP hD hS hl
      replace hm := mW4_s hm
      rw [Unpacker_followSymbols_2] at hm
      refine lv_iload_n hx hb d_Unpacker_followSymbols_2 rfl (lv_at hl 3 rfl) ?_
      refine lv_ldc (v := 65536) hx hb hown (hts _ tw_711) d_Unpacker_followSymbols_3 ?_
      refine lv_icmp_ge (tgt := 91) hx hb d_Unpacker_followSymbols_5 (by decide) (fun c5 => ?_) (fun c5 => ?_)
      · replace hm := mC_t hm c5
        refine lv_iconst (v := 0) hx hb d_Unpacker_followSymbols_91 (by decide) ?_
        replace hm := Option.some.inj hm
        subst hm
        exact hret d_Unpacker_followSymbols_92 (by decide) (u := (v_in_at, v_out_length, c_out_data)) ⟨rfl, rfl⟩ hP hD hS
      · replace hm := mC_f hm c5
        refine lv_aload_n hx hb d_Unpacker_followSymbols_8 rfl (lv_at hl 1 rfl) ?_
        refine lv_aload_n hx hb d_Unpacker_followSymbols_9 rfl (lv_at hl 0 rfl) ?_
        refine va_get (D := E.1) (ci := 9) (v := .ref a_in) (C := R_Unpacker) (T := F_Unpacker) (N := 10) hx hb hts i_Unpacker hown hK hP 0 rfl rfl 0 (by decide) (hts _ tw_343) (fun _ h9 => h9) rfl d_Unpacker_followSymbols_10 ?_
        obtain ⟨r_2, v_p1_at_1, hc13, hm⟩ := mR1_e hm
        refine xmi (wc := (Table_next_w E a_in a_in_row a_in_row_data a_p1 a_p1_counts a_p1_symbols n_in_row_data n_p1_symbols x_p1_offsets v_in_end v_in_row_length c_in_row_data c_p1_counts c_p1_symbols v_in_at)) [false, true, true, true, true, true, true, false, false, false, false, false] [0, 1, 2, 3, 4, 5] [0, 1, 2, 3, 4, 5] hP hD hS hA rfl (by decide) (by decide) 6 (by decide) (fun _ => rfl) (fun hPc hDc hFc => va_runV (As := [.ref a_in]) (rest := []) ⟨hx, hb, hml, hown, hts⟩ (c_Table_next l E F H.size a_in a_in_row a_in_row_data a_p1 a_p1_counts a_p1_symbols n_in_row_data n_p1_symbols x_p1_offsets v_in_end v_in_row_length c_in_row_data c_p1_counts c_p1_symbols v_in_at (r_2, v_p1_at_1) hc13) (cwV 1 hts (x_gV tw_734 tw_735 tw_736 tw_78 tw_737) rfl rfl rfl (by decide +kernel) ⟨Nat.le_of_ble_eq_true rfl, Nat.le_of_ble_eq_true rfl⟩) (xPV 8 3 rfl rfl hPc hDc hFc hK hI hN hS) rfl rfl hl.1 rfl (lv_room (Nat.le_of_ble_eq_true rfl)) d_Unpacker_followSymbols_13 ⟨Nat.le_of_ble_eq_true rfl, Nat.le_of_ble_eq_true rfl⟩) (fun r9 u9 H locs hw hP hD hS => ?_)
        have hw1 : r_2 = r9 := hw.1.symm
        subst hw1
        have hw2 : v_p1_at_1 = u9 := hw.2.symm
        subst hw2
        replace hP : va_P E.1 vwCl (Unpacker_followSymbols_w E a_this a_in a_in_row a_in_row_data a_p1 a_p1_counts a_p1_symbols a_out a_out_data a_p2 a_p2_counts a_p2_symbols n_in_row_data n_p1_symbols n_out_data n_p2_symbols x_fixedSymbols x_fixedDistances x_madeSymbols x_madeDistances x_lengthCodes x_lengths x_p1_offsets x_p2_offsets v_outStart v_farthest v_in_end v_in_row_length c_in_row_data c_p1_counts c_p1_symbols c_p2_counts c_p2_symbols v_p1_at_1 v_out_length c_out_data) H := hP
        replace hD : va_D A (Unpacker_followSymbols_w E a_this a_in a_in_row a_in_row_data a_p1 a_p1_counts a_p1_symbols a_out a_out_data a_p2 a_p2_counts a_p2_symbols n_in_row_data n_p1_symbols n_out_data n_p2_symbols x_fixedSymbols x_fixedDistances x_madeSymbols x_madeDistances x_lengthCodes x_lengths x_p1_offsets x_p2_offsets v_outStart v_farthest v_in_end v_in_row_length c_in_row_data c_p1_counts c_p1_symbols c_p2_counts c_p2_symbols v_p1_at_1 v_out_length c_out_data) := hD
        refine lv_istore (lv' := [(4, .int r_2), (0, .ref a_this), (1, .ref a_p1), (2, .ref a_p2), (3, .int x3)]) hx hb d_Unpacker_followSymbols_16 hl (by decide) rfl (fun ls hl => ?_)
        refine lv_iload hx hb d_Unpacker_followSymbols_18 (lv_at hl 0 rfl) ?_
        refine lv_sipush (v := 256) hx hb d_Unpacker_followSymbols_20 (by decide) ?_
        refine lv_icmp_ne (tgt := 28) hx hb d_Unpacker_followSymbols_23 (by decide) (fun c23 => ?_) (fun c23 => ?_)
        · replace hm := mC_f hm c23
          refine lv_iload hx hb d_Unpacker_followSymbols_28 (lv_at hl 0 rfl) ?_
          refine lv_if_lt (tgt := 51) hx hb d_Unpacker_followSymbols_30 (by decide) (fun c30 => ?_) (fun c30 => ?_)
          · replace hm := mC_t hm c30
            refine lv_iconst (v := 0) hx hb d_Unpacker_followSymbols_51 (by decide) ?_
            replace hm := Option.some.inj hm
            subst hm
            exact hret d_Unpacker_followSymbols_52 (by decide) (u := (v_p1_at_1, v_out_length, c_out_data)) ⟨rfl, rfl⟩ hP hD hS
          · replace hm := mC_f hm c30
            refine lv_iload hx hb d_Unpacker_followSymbols_33 (lv_at hl 0 rfl) ?_
            refine lv_sipush (v := 285) hx hb d_Unpacker_followSymbols_35 (by decide) ?_
            refine lv_icmp_gt (tgt := 51) hx hb d_Unpacker_followSymbols_38 (by decide) (fun c38 => ?_) (fun c38 => ?_)
            · replace hm := mC_t hm c38
              refine lv_iconst (v := 0) hx hb d_Unpacker_followSymbols_51 (by decide) ?_
              replace hm := Option.some.inj hm
              subst hm
              exact hret d_Unpacker_followSymbols_52 (by decide) (u := (v_p1_at_1, v_out_length, c_out_data)) ⟨rfl, rfl⟩ hP hD hS
            · replace hm := mC_f hm c38
              refine lv_aload_n hx hb d_Unpacker_followSymbols_41 rfl (lv_at hl 1 rfl) ?_
              obtain ⟨r_3, hc42, hm⟩ := mR0_e hm
              refine xmi (wc := (Unpacker_made_w E a_this a_out (.ref a_in) x_fixedSymbols x_fixedDistances x_madeSymbols x_madeDistances x_lengthCodes x_lengths (.ref a_out_data) v_outStart v_out_length v_farthest)) [true, false, false, false, false, false, false, true, false, false, false, false] [0, 1] [0, 1] hP hD hS hA rfl (by decide) (by decide) 2 (by decide) (fun _ => rfl) (fun hPc hDc hFc => va_runV (As := []) (rest := []) ⟨hx, hb, hml, hown, hts⟩ (c_Unpacker_made l E F H.size a_this a_out (.ref a_in) x_fixedSymbols x_fixedDistances x_madeSymbols x_madeDistances x_lengthCodes x_lengths (.ref a_out_data) v_outStart v_out_length v_farthest (r_3, ()) hc42) (cwV 0 hts (x_gV tw_721 tw_723 tw_24 tw_76 tw_724) rfl rfl rfl (by decide +kernel) ⟨Nat.le_of_ble_eq_true rfl, Nat.le_of_ble_eq_true rfl⟩) (xPV 9 0 rfl rfl hPc hDc hFc hK hI hN hS) rfl rfl hl.1 rfl (lv_room (Nat.le_of_ble_eq_true rfl)) d_Unpacker_followSymbols_42 ⟨Nat.le_of_ble_eq_true rfl, Nat.le_of_ble_eq_true rfl⟩) (fun r9 u9 H locs hw hP hD hS => ?_)
              have hw1 : r_3 = r9 := hw.1.symm
              subst hw1
              replace hP : va_P E.1 vwCl (Unpacker_followSymbols_w E a_this a_in a_in_row a_in_row_data a_p1 a_p1_counts a_p1_symbols a_out a_out_data a_p2 a_p2_counts a_p2_symbols n_in_row_data n_p1_symbols n_out_data n_p2_symbols x_fixedSymbols x_fixedDistances x_madeSymbols x_madeDistances x_lengthCodes x_lengths x_p1_offsets x_p2_offsets v_outStart v_farthest v_in_end v_in_row_length c_in_row_data c_p1_counts c_p1_symbols c_p2_counts c_p2_symbols v_p1_at_1 v_out_length c_out_data) H := hP
              replace hD : va_D A (Unpacker_followSymbols_w E a_this a_in a_in_row a_in_row_data a_p1 a_p1_counts a_p1_symbols a_out a_out_data a_p2 a_p2_counts a_p2_symbols n_in_row_data n_p1_symbols n_out_data n_p2_symbols x_fixedSymbols x_fixedDistances x_madeSymbols x_madeDistances x_lengthCodes x_lengths x_p1_offsets x_p2_offsets v_outStart v_farthest v_in_end v_in_row_length c_in_row_data c_p1_counts c_p1_symbols c_p2_counts c_p2_symbols v_p1_at_1 v_out_length c_out_data) := hD
              refine lv_sipush (v := 8192) hx hb d_Unpacker_followSymbols_45 (by decide) ?_
              refine lv_icmp_lt (tgt := 53) hx hb d_Unpacker_followSymbols_48 (by decide) (fun c48 => ?_) (fun c48 => ?_)
              · replace hm := mC_t hm c48
                have h_85 : ∀ (v_in_at : Int32) (v_out_length : Int32) (c_out_data : Nat → Int32) (x3 : Int32) (H : Heap) (locs : List Loc) (ls : Array Slot), (Unpacker_followSymbols_85 F (mW4 (Unpacker_followSymbols_2 F n_in_row_data n_p1_symbols n_out_data n_p2_symbols v_outStart v_farthest v_in_end v_in_row_length c_in_row_data c_p1_counts c_p1_symbols c_p2_counts c_p2_symbols) n_2)) v_in_at v_out_length c_out_data x3 = some res → va_P E.1 vwCl (Unpacker_followSymbols_w E a_this a_in a_in_row a_in_row_data a_p1 a_p1_counts a_p1_symbols a_out a_out_data a_p2 a_p2_counts a_p2_symbols n_in_row_data n_p1_symbols n_out_data n_p2_symbols x_fixedSymbols x_fixedDistances x_madeSymbols x_madeDistances x_lengthCodes x_lengths x_p1_offsets x_p2_offsets v_outStart v_farthest v_in_end v_in_row_length c_in_row_data c_p1_counts c_p1_symbols c_p2_counts c_p2_symbols v_in_at v_out_length c_out_data) H → va_D A (Unpacker_followSymbols_w E a_this a_in a_in_row a_in_row_data a_p1 a_p1_counts a_p1_symbols a_out a_out_data a_p2 a_p2_counts a_p2_symbols n_in_row_data n_p1_symbols n_out_data n_p2_symbols x_fixedSymbols x_fixedDistances x_madeSymbols x_madeDistances x_lengthCodes x_lengths x_p1_offsets x_p2_offsets v_outStart v_farthest v_in_end v_in_row_length c_in_row_data c_p1_counts c_p1_symbols c_p2_counts c_p2_symbols v_in_at v_out_length c_out_data) → va_S A s.heap H locs → lv_has ls 5 [(0, .ref a_this), (1, .ref a_p1), (2, .ref a_p2), (3, .int x3)] → W p l e Unpacker_followSymbols_rm s m args below meth c H locs 0 0 Q (F0 m 85 ls []) := by
                  intro v_in_at v_out_length c_out_data x3 H locs ls hm hP hD hS hl
                  rw [Unpacker_followSymbols_85] at hm
                  obtain ⟨y3_4, ey3_4⟩ : ∃ y : Int32, y = x3 + 1 := ⟨_, rfl⟩
                  replace hm := mL_e hm y3_4 ey3_4
                  refine lv_iinc (v := y3_4) (lv' := [(3, .int y3_4), (0, .ref a_this), (1, .ref a_p1), (2, .ref a_p2)]) hx hb d_Unpacker_followSymbols_85 hl (k := 3) rfl (by rw [ey3_4]; rfl) (by decide) rfl (fun ls hl => ?_)
                  refine lv_goto (tgt := 2) hx hb d_Unpacker_followSymbols_88 (by decide) ?_
                  exact ih_2 _ _ _ _ H locs ls hm hP hD hS (lv_sub hl [1, 2, 3, 0] rfl)
                refine lv_iload hx hb d_Unpacker_followSymbols_53 (lv_at hl 0 rfl) ?_
                refine lv_sipush (v := 256) hx hb d_Unpacker_followSymbols_55 (by decide) ?_
                refine lv_icmp_ge (tgt := 73) hx hb d_Unpacker_followSymbols_58 (by decide) (fun c58 => ?_) (fun c58 => ?_)
                · replace hm := mC_t hm c58
                  refine lv_aload_n hx hb d_Unpacker_followSymbols_73 rfl (lv_at hl 1 rfl) ?_
                  refine lv_iload hx hb d_Unpacker_followSymbols_74 (lv_at hl 0 rfl) ?_
                  refine lv_aload_n hx hb d_Unpacker_followSymbols_76 rfl (lv_at hl 3 rfl) ?_
                  obtain ⟨r_8, v_in_at_5, v_out_length_6, c_out_data_7, hc77, hm⟩ := mR3_e hm
                  refine xmi (wc := (Unpacker_repeatBytes_w E a_this a_in a_in_row a_in_row_data a_p2 a_p2_counts a_p2_symbols a_out a_out_data n_in_row_data n_p2_symbols n_out_data x_fixedSymbols x_fixedDistances x_madeSymbols x_madeDistances x_lengthCodes x_lengths x_p2_offsets v_outStart v_farthest v_in_end v_in_row_length c_in_row_data c_p2_counts c_p2_symbols v_p1_at_1 v_out_length c_out_data)) [true, true, true, true, false, false, false, true, true, true, true, true] [0, 1, 2, 3, 6, 7, 8, 4, 5] [0, 1, 2, 3, 7, 8, 4, 5, 6] hP hD hS hA rfl (by decide) (by decide) 9 (by decide) (fun _ => rfl) (fun hPc hDc hFc => va_runV (As := [.int r_2, .ref a_p2]) (rest := []) ⟨hx, hb, hml, hown, hts⟩ (c_Unpacker_repeatBytes l E F H.size a_this a_in a_in_row a_in_row_data a_p2 a_p2_counts a_p2_symbols a_out a_out_data n_in_row_data n_p2_symbols n_out_data x_fixedSymbols x_fixedDistances x_madeSymbols x_madeDistances x_lengthCodes x_lengths x_p2_offsets v_outStart v_farthest v_in_end v_in_row_length c_in_row_data c_p2_counts c_p2_symbols v_p1_at_1 v_out_length c_out_data r_2 (r_8, v_in_at_5, v_out_length_6, c_out_data_7) hc77) (cwV 2 hts (x_gV tw_739 tw_741 tw_26 tw_76 tw_742) rfl rfl rfl (by decide +kernel) ⟨Nat.le_of_ble_eq_true rfl, Nat.le_of_ble_eq_true rfl⟩) (xPV 9 0 rfl rfl hPc hDc hFc hK hI hN hS) rfl rfl hl.1 rfl (lv_room (Nat.le_of_ble_eq_true rfl)) d_Unpacker_followSymbols_77 ⟨Nat.le_of_ble_eq_true rfl, Nat.le_of_ble_eq_true rfl⟩) (fun r9 u9 H locs hw hP hD hS => ?_)
                  have hw1 : r_8 = r9 := hw.1.symm
                  subst hw1
                  have hw2 : (v_in_at_5, v_out_length_6, c_out_data_7) = u9 := hw.2.symm
                  subst hw2
                  replace hP : va_P E.1 vwCl (Unpacker_followSymbols_w E a_this a_in a_in_row a_in_row_data a_p1 a_p1_counts a_p1_symbols a_out a_out_data a_p2 a_p2_counts a_p2_symbols n_in_row_data n_p1_symbols n_out_data n_p2_symbols x_fixedSymbols x_fixedDistances x_madeSymbols x_madeDistances x_lengthCodes x_lengths x_p1_offsets x_p2_offsets v_outStart v_farthest v_in_end v_in_row_length c_in_row_data c_p1_counts c_p1_symbols c_p2_counts c_p2_symbols v_in_at_5 v_out_length_6 c_out_data_7) H := hP
                  replace hD : va_D A (Unpacker_followSymbols_w E a_this a_in a_in_row a_in_row_data a_p1 a_p1_counts a_p1_symbols a_out a_out_data a_p2 a_p2_counts a_p2_symbols n_in_row_data n_p1_symbols n_out_data n_p2_symbols x_fixedSymbols x_fixedDistances x_madeSymbols x_madeDistances x_lengthCodes x_lengths x_p1_offsets x_p2_offsets v_outStart v_farthest v_in_end v_in_row_length c_in_row_data c_p1_counts c_p1_symbols c_p2_counts c_p2_symbols v_in_at_5 v_out_length_6 c_out_data_7) := hD
                  refine lv_if_ne (tgt := 85) hx hb d_Unpacker_followSymbols_80 (by decide) (fun c80 => ?_) (fun c80 => ?_)
                  · replace hm := mC_f hm c80
                    exact h_85 _ _ _ _ H locs ls hm hP hD hS (lv_sub hl [1, 2, 3, 4] rfl)
                  · replace hm := mC_t hm c80
                    refine lv_iconst (v := 0) hx hb d_Unpacker_followSymbols_83 (by decide) ?_
                    replace hm := Option.some.inj hm
                    subst hm
                    exact hret d_Unpacker_followSymbols_84 (by decide) (u := (v_in_at_5, v_out_length_6, c_out_data_7)) ⟨rfl, rfl⟩ hP hD hS
                · replace hm := mC_f hm c58
                  refine lv_aload_n hx hb d_Unpacker_followSymbols_61 rfl (lv_at hl 1 rfl) ?_
                  refine va_get (D := E.1) (ci := 9) (v := .ref a_out) (C := R_Unpacker) (T := F_Unpacker) (N := 10) hx hb hts i_Unpacker hown hK hP 0 rfl rfl 1 (by decide) (hts _ tw_344) (fun _ h9 => h9) rfl d_Unpacker_followSymbols_62 ?_
                  refine lv_iload hx hb d_Unpacker_followSymbols_65 (lv_at hl 0 rfl) ?_
                  obtain ⟨r_11, v_length_9, c_data_10, hc67, hm⟩ := mR2_e hm
                  refine xmv (wc := (Bytes_add_w E a_out a_out_data n_out_data v_out_length c_out_data)) [false, false, false, false, false, false, false, true, true, false, false, false] [0, 1] [0, 1] hP hD hS hA rfl (by decide) (by decide) 2 (by decide) (fun _ => rfl) (fun hPc hDc hFc => va_runV (As := [.int r_2]) (rest := []) ⟨hx, hb, hml, hown, hts⟩ (c_Bytes_add l E F H.size a_out a_out_data n_out_data v_out_length c_out_data r_2 (r_11, v_length_9, c_data_10) hc67) (cwV 1 hts (x_gV tw_729 tw_426 tw_427 tw_67 tw_428) rfl rfl rfl (by decide +kernel) ⟨Nat.le_of_ble_eq_true rfl, Nat.le_of_ble_eq_true rfl⟩) (xPV 2 0 rfl rfl hPc hDc hFc hK hI hN hS) rfl rfl hl.1 rfl (lv_room (Nat.le_of_ble_eq_true rfl)) d_Unpacker_followSymbols_67 ⟨Nat.le_of_ble_eq_true rfl, Nat.le_of_ble_eq_true rfl⟩) (fun u9 H locs hw hP hD hS => ?_)
                  have hw2 : (v_length_9, c_data_10) = u9 := hw.symm
                  subst hw2
                  replace hP : va_P E.1 vwCl (Unpacker_followSymbols_w E a_this a_in a_in_row a_in_row_data a_p1 a_p1_counts a_p1_symbols a_out a_out_data a_p2 a_p2_counts a_p2_symbols n_in_row_data n_p1_symbols n_out_data n_p2_symbols x_fixedSymbols x_fixedDistances x_madeSymbols x_madeDistances x_lengthCodes x_lengths x_p1_offsets x_p2_offsets v_outStart v_farthest v_in_end v_in_row_length c_in_row_data c_p1_counts c_p1_symbols c_p2_counts c_p2_symbols v_p1_at_1 v_length_9 c_data_10) H := hP
                  replace hD : va_D A (Unpacker_followSymbols_w E a_this a_in a_in_row a_in_row_data a_p1 a_p1_counts a_p1_symbols a_out a_out_data a_p2 a_p2_counts a_p2_symbols n_in_row_data n_p1_symbols n_out_data n_p2_symbols x_fixedSymbols x_fixedDistances x_madeSymbols x_madeDistances x_lengthCodes x_lengths x_p1_offsets x_p2_offsets v_outStart v_farthest v_in_end v_in_row_length c_in_row_data c_p1_counts c_p1_symbols c_p2_counts c_p2_symbols v_p1_at_1 v_length_9 c_data_10) := hD
                  refine lv_goto (tgt := 85) hx hb d_Unpacker_followSymbols_70 (by decide) ?_
                  exact h_85 _ _ _ _ H locs ls hm hP hD hS (lv_sub hl [1, 2, 3, 4] rfl)
              · replace hm := mC_f hm c48
                refine lv_iconst (v := 0) hx hb d_Unpacker_followSymbols_51 (by decide) ?_
                replace hm := Option.some.inj hm
                subst hm
                exact hret d_Unpacker_followSymbols_52 (by decide) (u := (v_p1_at_1, v_out_length, c_out_data)) ⟨rfl, rfl⟩ hP hD hS
        · replace hm := mC_t hm c23
          refine lv_iconst (v := 1) hx hb d_Unpacker_followSymbols_26 (by decide) ?_
          replace hm := Option.some.inj hm
          subst hm
          exact hret d_Unpacker_followSymbols_27 (by decide) (u := (v_p1_at_1, v_out_length, c_out_data)) ⟨rfl, rfl⟩ hP hD hS
  refine lv_iconst (v := 0) hx hb d_Unpacker_followSymbols_0 (by decide) ?_
  refine lv_istore_n (lv' := [(3, .int 0), (0, .ref a_this), (1, .ref a_p1), (2, .ref a_p2)]) hx hb d_Unpacker_followSymbols_1 rfl hl (by decide) rfl (fun ls hl => ?_)
  exact h_2 F _ _ _ _ H locs ls hm hP hD hS (lv_sub hl [1, 2, 3, 0] rfl)
theorem d_Unpacker_unpack_0 : decode b_Unpacker_unpack 0 = .ok (.aload_n 0, 1) := by decide +kernel
theorem d_Unpacker_unpack_1 : decode b_Unpacker_unpack 1 = .ok (.getfield 14, 3) := by decide +kernel
theorem d_Unpacker_unpack_4 : decode b_Unpacker_unpack 4 = .ok (.iload_n 1, 1) := by decide +kernel
theorem d_Unpacker_unpack_5 : decode b_Unpacker_unpack 5 = .ok (.iload_n 2, 1) := by decide +kernel
theorem d_Unpacker_unpack_6 : decode b_Unpacker_unpack 6 = .ok (.invokevirtual 63, 3) := by decide +kernel
theorem d_Unpacker_unpack_9 : decode b_Unpacker_unpack 9 = .ok (.aload_n 0, 1) := by decide +kernel
theorem d_Unpacker_unpack_10 : decode b_Unpacker_unpack 10 = .ok (.aload_n 0, 1) := by decide +kernel
theorem d_Unpacker_unpack_11 : decode b_Unpacker_unpack 11 = .ok (.getfield 20, 3) := by decide +kernel
theorem d_Unpacker_unpack_14 : decode b_Unpacker_unpack 14 = .ok (.invokevirtual 67, 3) := by decide +kernel
theorem d_Unpacker_unpack_17 : decode b_Unpacker_unpack 17 = .ok (.putfield 73, 3) := by decide +kernel
theorem d_Unpacker_unpack_20 : decode b_Unpacker_unpack 20 = .ok (.aload_n 0, 1) := by decide +kernel
theorem d_Unpacker_unpack_21 : decode b_Unpacker_unpack 21 = .ok (.invokevirtual 77, 3) := by decide +kernel
theorem d_Unpacker_unpack_24 : decode b_Unpacker_unpack 24 = .ok (.ifCond .ne 5, 3) := by decide +kernel
theorem d_Unpacker_unpack_27 : decode b_Unpacker_unpack 27 = .ok (.iconst 0, 1) := by decide +kernel
theorem d_Unpacker_unpack_28 : decode b_Unpacker_unpack 28 = .ok (.ireturn, 1) := by decide +kernel
theorem d_Unpacker_unpack_29 : decode b_Unpacker_unpack 29 = .ok (.iconst 0, 1) := by decide +kernel
theorem d_Unpacker_unpack_30 : decode b_Unpacker_unpack 30 = .ok (.istore_n 3, 1) := by decide +kernel
theorem d_Unpacker_unpack_31 : decode b_Unpacker_unpack 31 = .ok (.iload_n 3, 1) := by decide +kernel
theorem d_Unpacker_unpack_32 : decode b_Unpacker_unpack 32 = .ok (.ldc 81, 2) := by decide +kernel
theorem d_Unpacker_unpack_34 : decode b_Unpacker_unpack 34 = .ok (.if_icmp .ge 127, 3) := by decide +kernel
theorem d_Unpacker_unpack_37 : decode b_Unpacker_unpack 37 = .ok (.aload_n 0, 1) := by decide +kernel
theorem d_Unpacker_unpack_38 : decode b_Unpacker_unpack 38 = .ok (.getfield 14, 3) := by decide +kernel
theorem d_Unpacker_unpack_41 : decode b_Unpacker_unpack 41 = .ok (.iconst 1, 1) := by decide +kernel
theorem d_Unpacker_unpack_42 : decode b_Unpacker_unpack 42 = .ok (.invokevirtual 82, 3) := by decide +kernel
theorem d_Unpacker_unpack_45 : decode b_Unpacker_unpack 45 = .ok (.istore 4, 2) := by decide +kernel
theorem d_Unpacker_unpack_47 : decode b_Unpacker_unpack 47 = .ok (.aload_n 0, 1) := by decide +kernel
theorem d_Unpacker_unpack_48 : decode b_Unpacker_unpack 48 = .ok (.getfield 14, 3) := by decide +kernel
theorem d_Unpacker_unpack_51 : decode b_Unpacker_unpack 51 = .ok (.iconst 2, 1) := by decide +kernel
theorem d_Unpacker_unpack_52 : decode b_Unpacker_unpack 52 = .ok (.invokevirtual 82, 3) := by decide +kernel
theorem d_Unpacker_unpack_55 : decode b_Unpacker_unpack 55 = .ok (.istore 5, 2) := by decide +kernel
theorem d_Unpacker_unpack_57 : decode b_Unpacker_unpack 57 = .ok (.iload 4, 2) := by decide +kernel
theorem d_Unpacker_unpack_59 : decode b_Unpacker_unpack 59 = .ok (.ifCond .lt 14, 3) := by decide +kernel
theorem d_Unpacker_unpack_62 : decode b_Unpacker_unpack 62 = .ok (.iload 5, 2) := by decide +kernel
theorem d_Unpacker_unpack_64 : decode b_Unpacker_unpack 64 = .ok (.ifCond .lt 9, 3) := by decide +kernel
theorem d_Unpacker_unpack_67 : decode b_Unpacker_unpack 67 = .ok (.iload 5, 2) := by decide +kernel
theorem d_Unpacker_unpack_69 : decode b_Unpacker_unpack 69 = .ok (.iconst 2, 1) := by decide +kernel
theorem d_Unpacker_unpack_70 : decode b_Unpacker_unpack 70 = .ok (.if_icmp .le 5, 3) := by decide +kernel
theorem d_Unpacker_unpack_73 : decode b_Unpacker_unpack 73 = .ok (.iconst 0, 1) := by decide +kernel
theorem d_Unpacker_unpack_74 : decode b_Unpacker_unpack 74 = .ok (.ireturn, 1) := by decide +kernel
theorem d_Unpacker_unpack_75 : decode b_Unpacker_unpack 75 = .ok (.iload 5, 2) := by decide +kernel
theorem d_Unpacker_unpack_77 : decode b_Unpacker_unpack 77 = .ok (.ifCond .ne 10, 3) := by decide +kernel
theorem d_Unpacker_unpack_80 : decode b_Unpacker_unpack 80 = .ok (.aload_n 0, 1) := by decide +kernel
theorem d_Unpacker_unpack_81 : decode b_Unpacker_unpack 81 = .ok (.invokevirtual 85, 3) := by decide +kernel
theorem d_Unpacker_unpack_84 : decode b_Unpacker_unpack 84 = .ok (.goto 51, 3) := by decide +kernel
theorem d_Unpacker_unpack_87 : decode b_Unpacker_unpack 87 = .ok (.iload 5, 2) := by decide +kernel
theorem d_Unpacker_unpack_89 : decode b_Unpacker_unpack 89 = .ok (.iconst 1, 1) := by decide +kernel
theorem d_Unpacker_unpack_90 : decode b_Unpacker_unpack 90 = .ok (.if_icmp .ne 18, 3) := by decide +kernel
theorem d_Unpacker_unpack_93 : decode b_Unpacker_unpack 93 = .ok (.aload_n 0, 1) := by decide +kernel
theorem d_Unpacker_unpack_94 : decode b_Unpacker_unpack 94 = .ok (.aload_n 0, 1) := by decide +kernel
theorem d_Unpacker_unpack_95 : decode b_Unpacker_unpack 95 = .ok (.getfield 29, 3) := by decide +kernel
theorem d_Unpacker_unpack_98 : decode b_Unpacker_unpack 98 = .ok (.aload_n 0, 1) := by decide +kernel
theorem d_Unpacker_unpack_99 : decode b_Unpacker_unpack 99 = .ok (.getfield 33, 3) := by decide +kernel
theorem d_Unpacker_unpack_102 : decode b_Unpacker_unpack 102 = .ok (.invokevirtual 88, 3) := by decide +kernel
theorem d_Unpacker_unpack_105 : decode b_Unpacker_unpack 105 = .ok (.goto 30, 3) := by decide +kernel
theorem d_Unpacker_unpack_108 : decode b_Unpacker_unpack 108 = .ok (.aload_n 0, 1) := by decide +kernel
theorem d_Unpacker_unpack_109 : decode b_Unpacker_unpack 109 = .ok (.invokevirtual 92, 3) := by decide +kernel
theorem d_Unpacker_unpack_112 : decode b_Unpacker_unpack 112 = .ok (.ifCond .eq 22, 3) := by decide +kernel
theorem d_Unpacker_unpack_115 : decode b_Unpacker_unpack 115 = .ok (.aload_n 0, 1) := by decide +kernel
theorem d_Unpacker_unpack_116 : decode b_Unpacker_unpack 116 = .ok (.aload_n 0, 1) := by decide +kernel
theorem d_Unpacker_unpack_117 : decode b_Unpacker_unpack 117 = .ok (.getfield 36, 3) := by decide +kernel
theorem d_Unpacker_unpack_120 : decode b_Unpacker_unpack 120 = .ok (.aload_n 0, 1) := by decide +kernel
theorem d_Unpacker_unpack_121 : decode b_Unpacker_unpack 121 = .ok (.getfield 39, 3) := by decide +kernel
theorem d_Unpacker_unpack_124 : decode b_Unpacker_unpack 124 = .ok (.invokevirtual 88, 3) := by decide +kernel
theorem d_Unpacker_unpack_127 : decode b_Unpacker_unpack 127 = .ok (.ifCond .eq 7, 3) := by decide +kernel
theorem d_Unpacker_unpack_130 : decode b_Unpacker_unpack 130 = .ok (.iconst 1, 1) := by decide +kernel
theorem d_Unpacker_unpack_131 : decode b_Unpacker_unpack 131 = .ok (.goto 4, 3) := by decide +kernel
theorem d_Unpacker_unpack_134 : decode b_Unpacker_unpack 134 = .ok (.iconst 0, 1) := by decide +kernel
theorem d_Unpacker_unpack_135 : decode b_Unpacker_unpack 135 = .ok (.istore 6, 2) := by decide +kernel
theorem d_Unpacker_unpack_137 : decode b_Unpacker_unpack 137 = .ok (.iload 6, 2) := by decide +kernel
theorem d_Unpacker_unpack_139 : decode b_Unpacker_unpack 139 = .ok (.ifCond .ne 5, 3) := by decide +kernel
theorem d_Unpacker_unpack_142 : decode b_Unpacker_unpack 142 = .ok (.iconst 0, 1) := by decide +kernel
theorem d_Unpacker_unpack_143 : decode b_Unpacker_unpack 143 = .ok (.ireturn, 1) := by decide +kernel
theorem d_Unpacker_unpack_144 : decode b_Unpacker_unpack 144 = .ok (.iload 4, 2) := by decide +kernel
theorem d_Unpacker_unpack_146 : decode b_Unpacker_unpack 146 = .ok (.iconst 1, 1) := by decide +kernel
theorem d_Unpacker_unpack_147 : decode b_Unpacker_unpack 147 = .ok (.if_icmp .ne 8, 3) := by decide +kernel
theorem d_Unpacker_unpack_150 : decode b_Unpacker_unpack 150 = .ok (.aload_n 0, 1) := by decide +kernel
theorem d_Unpacker_unpack_151 : decode b_Unpacker_unpack 151 = .ok (.invokevirtual 95, 3) := by decide +kernel
theorem d_Unpacker_unpack_154 : decode b_Unpacker_unpack 154 = .ok (.ireturn, 1) := by decide +kernel
theorem d_Unpacker_unpack_155 : decode b_Unpacker_unpack 155 = .ok (.iinc 3 1, 3) := by decide +kernel
theorem d_Unpacker_unpack_158 : decode b_Unpacker_unpack 158 = .ok (.goto (-127), 3) := by decide +kernel
theorem d_Unpacker_unpack_161 : decode b_Unpacker_unpack 161 = .ok (.iconst 0, 1) := by decide +kernel
theorem d_Unpacker_unpack_162 : decode b_Unpacker_unpack 162 = .ok (.ireturn, 1) := by decide +kernel
def Unpacker_unpack_150 (F : Nat) (n_in_row_data : Nat) (n_out_data : Nat) (v_in_row_length : Int32) (c_in_row_data : Nat → Int32) (v_outStart : Int32) (v_farthest : Int32) (v_in_at : Int32) (v_in_end : Int32) (v_out_length : Int32) (c_out_data : Nat → Int32) (c_lengths : Nat → Int32) (c_lengthCodes_symbols : Nat → Int32) (c_lengthCodes_counts : Nat → Int32) (c_lengthCodes_offsets : Nat → Int32) (c_madeSymbols_symbols : Nat → Int32) (c_madeSymbols_counts : Nat → Int32) (c_madeSymbols_offsets : Nat → Int32) (c_madeDistances_symbols : Nat → Int32) (c_madeDistances_counts : Nat → Int32) (c_madeDistances_offsets : Nat → Int32) : Option (Int32 × Int32 × Int32 × Int32 × Int32 × Int32 × (Nat → Int32) × (Nat → Int32) × (Nat → Int32) × (Nat → Int32) × (Nat → Int32) × (Nat → Int32) × (Nat → Int32) × (Nat → Int32) × (Nat → Int32) × (Nat → Int32) × (Nat → Int32)) :=
  mR1 (Unpacker_checkHolds F n_in_row_data n_out_data v_outStart v_in_end v_in_row_length c_in_row_data v_out_length c_out_data v_in_at) fun r_9 v_in_at_8 => mZ r_9 (some (r_9, v_outStart, v_farthest, v_in_at_8, v_in_end, v_out_length, c_out_data, c_lengths, c_lengthCodes_symbols, c_lengthCodes_counts, c_lengthCodes_offsets, c_madeSymbols_symbols, c_madeSymbols_counts, c_madeSymbols_offsets, c_madeDistances_symbols, c_madeDistances_counts, c_madeDistances_offsets))
def Unpacker_unpack_135 (F : Nat) (k_31 : Int32 → Int32 → Int32 → Int32 → Int32 → (Nat → Int32) → (Nat → Int32) → (Nat → Int32) → (Nat → Int32) → (Nat → Int32) → (Nat → Int32) → (Nat → Int32) → (Nat → Int32) → (Nat → Int32) → (Nat → Int32) → (Nat → Int32) → Int32 → Option (Int32 × Int32 × Int32 × Int32 × Int32 × Int32 × (Nat → Int32) × (Nat → Int32) × (Nat → Int32) × (Nat → Int32) × (Nat → Int32) × (Nat → Int32) × (Nat → Int32) × (Nat → Int32) × (Nat → Int32) × (Nat → Int32) × (Nat → Int32))) (k_150 : Int32 → Int32 → Int32 → Int32 → Int32 → (Nat → Int32) → (Nat → Int32) → (Nat → Int32) → (Nat → Int32) → (Nat → Int32) → (Nat → Int32) → (Nat → Int32) → (Nat → Int32) → (Nat → Int32) → (Nat → Int32) → (Nat → Int32) → Option (Int32 × Int32 × Int32 × Int32 × Int32 × Int32 × (Nat → Int32) × (Nat → Int32) × (Nat → Int32) × (Nat → Int32) × (Nat → Int32) × (Nat → Int32) × (Nat → Int32) × (Nat → Int32) × (Nat → Int32) × (Nat → Int32) × (Nat → Int32))) (v_outStart : Int32) (v_farthest : Int32) (v_in_at : Int32) (v_in_end : Int32) (v_out_length : Int32) (c_out_data : Nat → Int32) (c_lengths : Nat → Int32) (c_lengthCodes_symbols : Nat → Int32) (c_lengthCodes_counts : Nat → Int32) (c_lengthCodes_offsets : Nat → Int32) (c_madeSymbols_symbols : Nat → Int32) (c_madeSymbols_counts : Nat → Int32) (c_madeSymbols_offsets : Nat → Int32) (c_madeDistances_symbols : Nat → Int32) (c_madeDistances_counts : Nat → Int32) (c_madeDistances_offsets : Nat → Int32) (x3 : Int32) (x4 : Int32) (s0 : Int32) : Option (Int32 × Int32 × Int32 × Int32 × Int32 × Int32 × (Nat → Int32) × (Nat → Int32) × (Nat → Int32) × (Nat → Int32) × (Nat → Int32) × (Nat → Int32) × (Nat → Int32) × (Nat → Int32) × (Nat → Int32) × (Nat → Int32) × (Nat → Int32)) :=
  mC (s0 = 0) (some (0, v_outStart, v_farthest, v_in_at, v_in_end, v_out_length, c_out_data, c_lengths, c_lengthCodes_symbols, c_lengthCodes_counts, c_lengthCodes_offsets, c_madeSymbols_symbols, c_madeSymbols_counts, c_madeSymbols_offsets, c_madeDistances_symbols, c_madeDistances_counts, c_madeDistances_offsets)) (mC (x4 = 1) (k_150 v_outStart v_farthest v_in_at v_in_end v_out_length c_out_data c_lengths c_lengthCodes_symbols c_lengthCodes_counts c_lengthCodes_offsets c_madeSymbols_symbols c_madeSymbols_counts c_madeSymbols_offsets c_madeDistances_symbols c_madeDistances_counts c_madeDistances_offsets) (mL (x3 + 1) fun y3_14 => k_31 v_outStart v_farthest v_in_at v_in_end v_out_length c_out_data c_lengths c_lengthCodes_symbols c_lengthCodes_counts c_lengthCodes_offsets c_madeSymbols_symbols c_madeSymbols_counts c_madeSymbols_offsets c_madeDistances_symbols c_madeDistances_counts c_madeDistances_offsets y3_14))
def Unpacker_unpack_134 (F : Nat) (k_31 : Int32 → Int32 → Int32 → Int32 → Int32 → (Nat → Int32) → (Nat → Int32) → (Nat → Int32) → (Nat → Int32) → (Nat → Int32) → (Nat → Int32) → (Nat → Int32) → (Nat → Int32) → (Nat → Int32) → (Nat → Int32) → (Nat → Int32) → Int32 → Option (Int32 × Int32 × Int32 × Int32 × Int32 × Int32 × (Nat → Int32) × (Nat → Int32) × (Nat → Int32) × (Nat → Int32) × (Nat → Int32) × (Nat → Int32) × (Nat → Int32) × (Nat → Int32) × (Nat → Int32) × (Nat → Int32) × (Nat → Int32))) (k_150 : Int32 → Int32 → Int32 → Int32 → Int32 → (Nat → Int32) → (Nat → Int32) → (Nat → Int32) → (Nat → Int32) → (Nat → Int32) → (Nat → Int32) → (Nat → Int32) → (Nat → Int32) → (Nat → Int32) → (Nat → Int32) → (Nat → Int32) → Option (Int32 × Int32 × Int32 × Int32 × Int32 × Int32 × (Nat → Int32) × (Nat → Int32) × (Nat → Int32) × (Nat → Int32) × (Nat → Int32) × (Nat → Int32) × (Nat → Int32) × (Nat → Int32) × (Nat → Int32) × (Nat → Int32) × (Nat → Int32))) (v_outStart : Int32) (v_farthest : Int32) (v_in_at : Int32) (v_in_end : Int32) (v_out_length : Int32) (c_out_data : Nat → Int32) (c_lengths : Nat → Int32) (c_lengthCodes_symbols : Nat → Int32) (c_lengthCodes_counts : Nat → Int32) (c_lengthCodes_offsets : Nat → Int32) (c_madeSymbols_symbols : Nat → Int32) (c_madeSymbols_counts : Nat → Int32) (c_madeSymbols_offsets : Nat → Int32) (c_madeDistances_symbols : Nat → Int32) (c_madeDistances_counts : Nat → Int32) (c_madeDistances_offsets : Nat → Int32) (x3 : Int32) (x4 : Int32) : Option (Int32 × Int32 × Int32 × Int32 × Int32 × Int32 × (Nat → Int32) × (Nat → Int32) × (Nat → Int32) × (Nat → Int32) × (Nat → Int32) × (Nat → Int32) × (Nat → Int32) × (Nat → Int32) × (Nat → Int32) × (Nat → Int32) × (Nat → Int32)) :=
  (Unpacker_unpack_135 F k_31 k_150) v_outStart v_farthest v_in_at v_in_end v_out_length c_out_data c_lengths c_lengthCodes_symbols c_lengthCodes_counts c_lengthCodes_offsets c_madeSymbols_symbols c_madeSymbols_counts c_madeSymbols_offsets c_madeDistances_symbols c_madeDistances_counts c_madeDistances_offsets x3 x4 0
def Unpacker_unpack_31 (F : Nat) (n_in_row_data : Nat) (n_out_data : Nat) (n_fixedSymbols_symbols : Nat) (n_fixedDistances_symbols : Nat) (n_lengthCodes_symbols : Nat) (n_madeSymbols_symbols : Nat) (n_madeDistances_symbols : Nat) (v_in_row_length : Int32) (c_in_row_data : Nat → Int32) (c_fixedSymbols_counts : Nat → Int32) (c_fixedSymbols_symbols : Nat → Int32) (c_fixedDistances_counts : Nat → Int32) (c_fixedDistances_symbols : Nat → Int32) (k_150 : Int32 → Int32 → Int32 → Int32 → Int32 → (Nat → Int32) → (Nat → Int32) → (Nat → Int32) → (Nat → Int32) → (Nat → Int32) → (Nat → Int32) → (Nat → Int32) → (Nat → Int32) → (Nat → Int32) → (Nat → Int32) → (Nat → Int32) → Option (Int32 × Int32 × Int32 × Int32 × Int32 × Int32 × (Nat → Int32) × (Nat → Int32) × (Nat → Int32) × (Nat → Int32) × (Nat → Int32) × (Nat → Int32) × (Nat → Int32) × (Nat → Int32) × (Nat → Int32) × (Nat → Int32) × (Nat → Int32))) (k_31 : Int32 → Int32 → Int32 → Int32 → Int32 → (Nat → Int32) → (Nat → Int32) → (Nat → Int32) → (Nat → Int32) → (Nat → Int32) → (Nat → Int32) → (Nat → Int32) → (Nat → Int32) → (Nat → Int32) → (Nat → Int32) → (Nat → Int32) → Int32 → Option (Int32 × Int32 × Int32 × Int32 × Int32 × Int32 × (Nat → Int32) × (Nat → Int32) × (Nat → Int32) × (Nat → Int32) × (Nat → Int32) × (Nat → Int32) × (Nat → Int32) × (Nat → Int32) × (Nat → Int32) × (Nat → Int32) × (Nat → Int32))) (v_outStart : Int32) (v_farthest : Int32) (v_in_at : Int32) (v_in_end : Int32) (v_out_length : Int32) (c_out_data : Nat → Int32) (c_lengths : Nat → Int32) (c_lengthCodes_symbols : Nat → Int32) (c_lengthCodes_counts : Nat → Int32) (c_lengthCodes_offsets : Nat → Int32) (c_madeSymbols_symbols : Nat → Int32) (c_madeSymbols_counts : Nat → Int32) (c_madeSymbols_offsets : Nat → Int32) (c_madeDistances_symbols : Nat → Int32) (c_madeDistances_counts : Nat → Int32) (c_madeDistances_offsets : Nat → Int32) (x3 : Int32) : Option (Int32 × Int32 × Int32 × Int32 × Int32 × Int32 × (Nat → Int32) × (Nat → Int32) × (Nat → Int32) × (Nat → Int32) × (Nat → Int32) × (Nat → Int32) × (Nat → Int32) × (Nat → Int32) × (Nat → Int32) × (Nat → Int32) × (Nat → Int32)) :=
  mC (65536 ≤ x3) (some (0, v_outStart, v_farthest, v_in_at, v_in_end, v_out_length, c_out_data, c_lengths, c_lengthCodes_symbols, c_lengthCodes_counts, c_lengthCodes_offsets, c_madeSymbols_symbols, c_madeSymbols_counts, c_madeSymbols_offsets, c_madeDistances_symbols, c_madeDistances_counts, c_madeDistances_offsets)) (mR1 (BitReader_number F n_in_row_data v_in_end v_in_row_length c_in_row_data v_in_at 1) fun r_11 v_at_10 => mR1 (BitReader_number F n_in_row_data v_in_end v_in_row_length c_in_row_data v_at_10 2) fun r_13 v_at_12 => mC (r_11 < 0) (some (0, v_outStart, v_farthest, v_at_12, v_in_end, v_out_length, c_out_data, c_lengths, c_lengthCodes_symbols, c_lengthCodes_counts, c_lengthCodes_offsets, c_madeSymbols_symbols, c_madeSymbols_counts, c_madeSymbols_offsets, c_madeDistances_symbols, c_madeDistances_counts, c_madeDistances_offsets)) (mC (r_13 < 0) (some (0, v_outStart, v_farthest, v_at_12, v_in_end, v_out_length, c_out_data, c_lengths, c_lengthCodes_symbols, c_lengthCodes_counts, c_lengthCodes_offsets, c_madeSymbols_symbols, c_madeSymbols_counts, c_madeSymbols_offsets, c_madeDistances_symbols, c_madeDistances_counts, c_madeDistances_offsets)) (mC (r_13 ≤ 2) (mC (r_13 = 0) (mR3 (Unpacker_copyStored F n_in_row_data n_out_data v_outStart v_in_end v_in_row_length c_in_row_data v_at_12 v_out_length c_out_data) fun r_38 v_in_at_35 v_out_length_36 c_out_data_37 => (Unpacker_unpack_135 F k_31 k_150) v_outStart v_farthest v_in_at_35 v_in_end v_out_length_36 c_out_data_37 c_lengths c_lengthCodes_symbols c_lengthCodes_counts c_lengthCodes_offsets c_madeSymbols_symbols c_madeSymbols_counts c_madeSymbols_offsets c_madeDistances_symbols c_madeDistances_counts c_madeDistances_offsets x3 r_11 r_38) (mC (r_13 = 1) (mR3 (Unpacker_followSymbols F n_in_row_data n_fixedSymbols_symbols n_out_data n_fixedDistances_symbols v_outStart v_farthest v_in_end v_in_row_length c_in_row_data c_fixedSymbols_counts c_fixedSymbols_symbols c_fixedDistances_counts c_fixedDistances_symbols v_at_12 v_out_length c_out_data) fun r_34 v_in_at_31 v_out_length_32 c_out_data_33 => (Unpacker_unpack_135 F k_31 k_150) v_outStart v_farthest v_in_at_31 v_in_end v_out_length_32 c_out_data_33 c_lengths c_lengthCodes_symbols c_lengthCodes_counts c_lengthCodes_offsets c_madeSymbols_symbols c_madeSymbols_counts c_madeSymbols_offsets c_madeDistances_symbols c_madeDistances_counts c_madeDistances_offsets x3 r_11 r_34) (mR11 (Unpacker_makeCodes F n_in_row_data n_lengthCodes_symbols n_madeSymbols_symbols n_madeDistances_symbols v_in_end v_in_row_length c_in_row_data v_at_12 c_lengths c_lengthCodes_symbols c_lengthCodes_counts c_lengthCodes_offsets c_madeSymbols_symbols c_madeSymbols_counts c_madeSymbols_offsets c_madeDistances_symbols c_madeDistances_counts c_madeDistances_offsets) fun r_26 v_in_at_15 c_lengths_16 c_lengthCodes_symbols_17 c_lengthCodes_counts_18 c_lengthCodes_offsets_19 c_madeSymbols_symbols_20 c_madeSymbols_counts_21 c_madeSymbols_offsets_22 c_madeDistances_symbols_23 c_madeDistances_counts_24 c_madeDistances_offsets_25 => mC (r_26 = 0) ((Unpacker_unpack_134 F k_31 k_150) v_outStart v_farthest v_in_at_15 v_in_end v_out_length c_out_data c_lengths_16 c_lengthCodes_symbols_17 c_lengthCodes_counts_18 c_lengthCodes_offsets_19 c_madeSymbols_symbols_20 c_madeSymbols_counts_21 c_madeSymbols_offsets_22 c_madeDistances_symbols_23 c_madeDistances_counts_24 c_madeDistances_offsets_25 x3 r_11) (mR3 (Unpacker_followSymbols F n_in_row_data n_madeSymbols_symbols n_out_data n_madeDistances_symbols v_outStart v_farthest v_in_end v_in_row_length c_in_row_data c_madeSymbols_counts_21 c_madeSymbols_symbols_20 c_madeDistances_counts_24 c_madeDistances_symbols_23 v_in_at_15 v_out_length c_out_data) fun r_30 v_in_at_27 v_out_length_28 c_out_data_29 => mC (r_30 = 0) ((Unpacker_unpack_134 F k_31 k_150) v_outStart v_farthest v_in_at_27 v_in_end v_out_length_28 c_out_data_29 c_lengths_16 c_lengthCodes_symbols_17 c_lengthCodes_counts_18 c_lengthCodes_offsets_19 c_madeSymbols_symbols_20 c_madeSymbols_counts_21 c_madeSymbols_offsets_22 c_madeDistances_symbols_23 c_madeDistances_counts_24 c_madeDistances_offsets_25 x3 r_11) ((Unpacker_unpack_135 F k_31 k_150) v_outStart v_farthest v_in_at_27 v_in_end v_out_length_28 c_out_data_29 c_lengths_16 c_lengthCodes_symbols_17 c_lengthCodes_counts_18 c_lengthCodes_offsets_19 c_madeSymbols_symbols_20 c_madeSymbols_counts_21 c_madeSymbols_offsets_22 c_madeDistances_symbols_23 c_madeDistances_counts_24 c_madeDistances_offsets_25 x3 r_11 1))))) (some (0, v_outStart, v_farthest, v_at_12, v_in_end, v_out_length, c_out_data, c_lengths, c_lengthCodes_symbols, c_lengthCodes_counts, c_lengthCodes_offsets, c_madeSymbols_symbols, c_madeSymbols_counts, c_madeSymbols_offsets, c_madeDistances_symbols, c_madeDistances_counts, c_madeDistances_offsets)))))
abbrev Unpacker_unpack_w (E : xE) (a_this : Nat) (a_in : Nat) (a_out : Nat) (a_in_row : Nat) (a_in_row_data : Nat) (a_out_data : Nat) (a_fixedSymbols : Nat) (a_fixedSymbols_counts : Nat) (a_fixedSymbols_symbols : Nat) (a_fixedDistances : Nat) (a_fixedDistances_counts : Nat) (a_fixedDistances_symbols : Nat) (a_lengths : Nat) (a_lengthCodes : Nat) (a_lengthCodes_symbols : Nat) (a_lengthCodes_counts : Nat) (a_lengthCodes_offsets : Nat) (a_madeSymbols : Nat) (a_madeSymbols_symbols : Nat) (a_madeSymbols_counts : Nat) (a_madeSymbols_offsets : Nat) (a_madeDistances : Nat) (a_madeDistances_symbols : Nat) (a_madeDistances_counts : Nat) (a_madeDistances_offsets : Nat) (n_in_row_data : Nat) (n_out_data : Nat) (n_fixedSymbols_symbols : Nat) (n_fixedDistances_symbols : Nat) (n_lengthCodes_symbols : Nat) (n_madeSymbols_symbols : Nat) (n_madeDistances_symbols : Nat) (x_fixedSymbols_offsets : Value) (x_fixedDistances_offsets : Value) (v_in_row_length : Int32) (c_in_row_data : Nat → Int32) (c_fixedSymbols_counts : Nat → Int32) (c_fixedSymbols_symbols : Nat → Int32) (c_fixedDistances_counts : Nat → Int32) (c_fixedDistances_symbols : Nat → Int32) (v_outStart : Int32) (v_farthest : Int32) (v_in_at : Int32) (v_in_end : Int32) (v_out_length : Int32) (c_out_data : Nat → Int32) (c_lengths : Nat → Int32) (c_lengthCodes_symbols : Nat → Int32) (c_lengthCodes_counts : Nat → Int32) (c_lengthCodes_offsets : Nat → Int32) (c_madeSymbols_symbols : Nat → Int32) (c_madeSymbols_counts : Nat → Int32) (c_madeSymbols_offsets : Nat → Int32) (c_madeDistances_symbols : Nat → Int32) (c_madeDistances_counts : Nat → Int32) (c_madeDistances_offsets : Nat → Int32) : va_W := [(a_this, .inr (9, [.ref a_in, .ref a_out, .ref a_fixedSymbols, .ref a_fixedDistances, .ref a_madeSymbols, .ref a_madeDistances, .ref a_lengthCodes, .ref a_lengths, .int v_outStart, .int v_farthest])), (a_in, .inr (0, [.ref a_in_row, .int v_in_at, .int v_in_end])), (a_out, .inr (2, [.ref a_out_data, .int v_out_length])), (a_in_row, .inr (2, [.ref a_in_row_data, .int v_in_row_length])), (a_in_row_data, .inl (E.2.2.1, n_in_row_data, .inl c_in_row_data)), (a_out_data, .inl (E.2.2.1, n_out_data, .inl c_out_data)), (a_fixedSymbols, .inr (8, [.ref a_fixedSymbols_counts, x_fixedSymbols_offsets, .ref a_fixedSymbols_symbols])), (a_fixedSymbols_counts, .inl (E.2.1, 16, .inl c_fixedSymbols_counts)), (a_fixedSymbols_symbols, .inl (E.2.1, n_fixedSymbols_symbols, .inl c_fixedSymbols_symbols)), (a_fixedDistances, .inr (8, [.ref a_fixedDistances_counts, x_fixedDistances_offsets, .ref a_fixedDistances_symbols])), (a_fixedDistances_counts, .inl (E.2.1, 16, .inl c_fixedDistances_counts)), (a_fixedDistances_symbols, .inl (E.2.1, n_fixedDistances_symbols, .inl c_fixedDistances_symbols)), (a_lengths, .inl (E.2.1, 320, .inl c_lengths)), (a_lengthCodes, .inr (8, [.ref a_lengthCodes_counts, .ref a_lengthCodes_offsets, .ref a_lengthCodes_symbols])), (a_lengthCodes_symbols, .inl (E.2.1, n_lengthCodes_symbols, .inl c_lengthCodes_symbols)), (a_lengthCodes_counts, .inl (E.2.1, 16, .inl c_lengthCodes_counts)), (a_lengthCodes_offsets, .inl (E.2.1, 16, .inl c_lengthCodes_offsets)), (a_madeSymbols, .inr (8, [.ref a_madeSymbols_counts, .ref a_madeSymbols_offsets, .ref a_madeSymbols_symbols])), (a_madeSymbols_symbols, .inl (E.2.1, n_madeSymbols_symbols, .inl c_madeSymbols_symbols)), (a_madeSymbols_counts, .inl (E.2.1, 16, .inl c_madeSymbols_counts)), (a_madeSymbols_offsets, .inl (E.2.1, 16, .inl c_madeSymbols_offsets)), (a_madeDistances, .inr (8, [.ref a_madeDistances_counts, .ref a_madeDistances_offsets, .ref a_madeDistances_symbols])), (a_madeDistances_symbols, .inl (E.2.1, n_madeDistances_symbols, .inl c_madeDistances_symbols)), (a_madeDistances_counts, .inl (E.2.1, 16, .inl c_madeDistances_counts)), (a_madeDistances_offsets, .inl (E.2.1, 16, .inl c_madeDistances_offsets))]
def Unpacker_unpack (F : Nat) (n_in_row_data : Nat) (n_out_data : Nat) (n_fixedSymbols_symbols : Nat) (n_fixedDistances_symbols : Nat) (n_lengthCodes_symbols : Nat) (n_madeSymbols_symbols : Nat) (n_madeDistances_symbols : Nat) (v_in_row_length : Int32) (c_in_row_data : Nat → Int32) (c_fixedSymbols_counts : Nat → Int32) (c_fixedSymbols_symbols : Nat → Int32) (c_fixedDistances_counts : Nat → Int32) (c_fixedDistances_symbols : Nat → Int32) (v_outStart : Int32) (v_farthest : Int32) (v_in_at : Int32) (v_in_end : Int32) (v_out_length : Int32) (c_out_data : Nat → Int32) (c_lengths : Nat → Int32) (c_lengthCodes_symbols : Nat → Int32) (c_lengthCodes_counts : Nat → Int32) (c_lengthCodes_offsets : Nat → Int32) (c_madeSymbols_symbols : Nat → Int32) (c_madeSymbols_counts : Nat → Int32) (c_madeSymbols_offsets : Nat → Int32) (c_madeDistances_symbols : Nat → Int32) (c_madeDistances_counts : Nat → Int32) (c_madeDistances_offsets : Nat → Int32) (x1 : Int32) (x2 : Int32) : Option (Int32 × Int32 × Int32 × Int32 × Int32 × Int32 × (Nat → Int32) × (Nat → Int32) × (Nat → Int32) × (Nat → Int32) × (Nat → Int32) × (Nat → Int32) × (Nat → Int32) × (Nat → Int32) × (Nat → Int32) × (Nat → Int32) × (Nat → Int32)) :=
  mR2 (BitReader_open F v_in_at v_in_end x1 x2) fun _ v_at_1 v_end_2 => mR0 (Bytes_length F v_out_length) fun r_4 => mR2 (Unpacker_beginningHolds F n_in_row_data v_end_2 v_in_row_length c_in_row_data v_farthest v_at_1) fun r_7 v_farthest_5 v_in_at_6 => mC (r_7 = 0) (some (0, r_4, v_farthest_5, v_in_at_6, v_end_2, v_out_length, c_out_data, c_lengths, c_lengthCodes_symbols, c_lengthCodes_counts, c_lengthCodes_offsets, c_madeSymbols_symbols, c_madeSymbols_counts, c_madeSymbols_offsets, c_madeDistances_symbols, c_madeDistances_counts, c_madeDistances_offsets)) ((mW17 (Unpacker_unpack_31 F n_in_row_data n_out_data n_fixedSymbols_symbols n_fixedDistances_symbols n_lengthCodes_symbols n_madeSymbols_symbols n_madeDistances_symbols v_in_row_length c_in_row_data c_fixedSymbols_counts c_fixedSymbols_symbols c_fixedDistances_counts c_fixedDistances_symbols (Unpacker_unpack_150 F n_in_row_data n_out_data v_in_row_length c_in_row_data)) F) r_4 v_farthest_5 v_in_at_6 v_end_2 v_out_length c_out_data c_lengths c_lengthCodes_symbols c_lengthCodes_counts c_lengthCodes_offsets c_madeSymbols_symbols c_madeSymbols_counts c_madeSymbols_offsets c_madeDistances_symbols c_madeDistances_counts c_madeDistances_offsets 0)
abbrev Unpacker_unpack_rm : Room := { frames := 5, cells := 0, slots := 0, locals := 124 }
set_option maxHeartbeats 4000000 in
set_option maxRecDepth 100000 in
theorem c_Unpacker_unpack (l : Launch) (E : xE) (F sz : Nat) (a_this : Nat) (a_in : Nat) (a_out : Nat) (a_in_row : Nat) (a_in_row_data : Nat) (a_out_data : Nat) (a_fixedSymbols : Nat) (a_fixedSymbols_counts : Nat) (a_fixedSymbols_symbols : Nat) (a_fixedDistances : Nat) (a_fixedDistances_counts : Nat) (a_fixedDistances_symbols : Nat) (a_lengths : Nat) (a_lengthCodes : Nat) (a_lengthCodes_symbols : Nat) (a_lengthCodes_counts : Nat) (a_lengthCodes_offsets : Nat) (a_madeSymbols : Nat) (a_madeSymbols_symbols : Nat) (a_madeSymbols_counts : Nat) (a_madeSymbols_offsets : Nat) (a_madeDistances : Nat) (a_madeDistances_symbols : Nat) (a_madeDistances_counts : Nat) (a_madeDistances_offsets : Nat) (n_in_row_data : Nat) (n_out_data : Nat) (n_fixedSymbols_symbols : Nat) (n_fixedDistances_symbols : Nat) (n_lengthCodes_symbols : Nat) (n_madeSymbols_symbols : Nat) (n_madeDistances_symbols : Nat) (x_fixedSymbols_offsets : Value) (x_fixedDistances_offsets : Value) (v_in_row_length : Int32) (c_in_row_data : Nat → Int32) (c_fixedSymbols_counts : Nat → Int32) (c_fixedSymbols_symbols : Nat → Int32) (c_fixedDistances_counts : Nat → Int32) (c_fixedDistances_symbols : Nat → Int32) (v_outStart : Int32) (v_farthest : Int32) (v_in_at : Int32) (v_in_end : Int32) (v_out_length : Int32) (c_out_data : Nat → Int32) (c_lengths : Nat → Int32) (c_lengthCodes_symbols : Nat → Int32) (c_lengthCodes_counts : Nat → Int32) (c_lengthCodes_offsets : Nat → Int32) (c_madeSymbols_symbols : Nat → Int32) (c_madeSymbols_counts : Nat → Int32) (c_madeSymbols_offsets : Nat → Int32) (c_madeDistances_symbols : Nat → Int32) (c_madeDistances_counts : Nat → Int32) (c_madeDistances_offsets : Nat → Int32) (x1 : Int32) (x2 : Int32) (res : Int32 × Int32 × Int32 × Int32 × Int32 × Int32 × (Nat → Int32) × (Nat → Int32) × (Nat → Int32) × (Nat → Int32) × (Nat → Int32) × (Nat → Int32) × (Nat → Int32) × (Nat → Int32) × (Nat → Int32) × (Nat → Int32) × (Nat → Int32)) (hm : Unpacker_unpack F n_in_row_data n_out_data n_fixedSymbols_symbols n_fixedDistances_symbols n_lengthCodes_symbols n_madeSymbols_symbols n_madeDistances_symbols v_in_row_length c_in_row_data c_fixedSymbols_counts c_fixedSymbols_symbols c_fixedDistances_counts c_fixedDistances_symbols v_outStart v_farthest v_in_at v_in_end v_out_length c_out_data c_lengths c_lengthCodes_symbols c_lengthCodes_counts c_lengthCodes_offsets c_madeSymbols_symbols c_madeSymbols_counts c_madeSymbols_offsets c_madeDistances_symbols c_madeDistances_counts c_madeDistances_offsets x1 x2 = some res) : Met l y_Unpacker_unpack (Cond.code y_Unpacker_unpack b_Unpacker_unpack 7 (some .boolean) :: x_tb) Unpacker_unpack_rm (va_Pc [.ref a_this, .int x1, .int x2] (xPre E (Unpacker_unpack_w E a_this a_in a_out a_in_row a_in_row_data a_out_data a_fixedSymbols a_fixedSymbols_counts a_fixedSymbols_symbols a_fixedDistances a_fixedDistances_counts a_fixedDistances_symbols a_lengths a_lengthCodes a_lengthCodes_symbols a_lengthCodes_counts a_lengthCodes_offsets a_madeSymbols a_madeSymbols_symbols a_madeSymbols_counts a_madeSymbols_offsets a_madeDistances a_madeDistances_symbols a_madeDistances_counts a_madeDistances_offsets n_in_row_data n_out_data n_fixedSymbols_symbols n_fixedDistances_symbols n_lengthCodes_symbols n_madeSymbols_symbols n_madeDistances_symbols x_fixedSymbols_offsets x_fixedDistances_offsets v_in_row_length c_in_row_data c_fixedSymbols_counts c_fixedSymbols_symbols c_fixedDistances_counts c_fixedDistances_symbols v_outStart v_farthest v_in_at v_in_end v_out_length c_out_data c_lengths c_lengthCodes_symbols c_lengthCodes_counts c_lengthCodes_offsets c_madeSymbols_symbols c_madeSymbols_counts c_madeSymbols_offsets c_madeDistances_symbols c_madeDistances_counts c_madeDistances_offsets) sz)) (xQi E (fun (r : Int32) (u : Int32 × Int32 × Int32 × Int32 × Int32 × (Nat → Int32) × (Nat → Int32) × (Nat → Int32) × (Nat → Int32) × (Nat → Int32) × (Nat → Int32) × (Nat → Int32) × (Nat → Int32) × (Nat → Int32) × (Nat → Int32) × (Nat → Int32)) => r = res.1 ∧ u = res.2) (fun (u : Int32 × Int32 × Int32 × Int32 × Int32 × (Nat → Int32) × (Nat → Int32) × (Nat → Int32) × (Nat → Int32) × (Nat → Int32) × (Nat → Int32) × (Nat → Int32) × (Nat → Int32) × (Nat → Int32) × (Nat → Int32) × (Nat → Int32)) => (Unpacker_unpack_w E a_this a_in a_out a_in_row a_in_row_data a_out_data a_fixedSymbols a_fixedSymbols_counts a_fixedSymbols_symbols a_fixedDistances a_fixedDistances_counts a_fixedDistances_symbols a_lengths a_lengthCodes a_lengthCodes_symbols a_lengthCodes_counts a_lengthCodes_offsets a_madeSymbols a_madeSymbols_symbols a_madeSymbols_counts a_madeSymbols_offsets a_madeDistances a_madeDistances_symbols a_madeDistances_counts a_madeDistances_offsets n_in_row_data n_out_data n_fixedSymbols_symbols n_fixedDistances_symbols n_lengthCodes_symbols n_madeSymbols_symbols n_madeDistances_symbols x_fixedSymbols_offsets x_fixedDistances_offsets v_in_row_length c_in_row_data c_fixedSymbols_counts c_fixedSymbols_symbols c_fixedDistances_counts c_fixedDistances_symbols u.1 u.2.1 u.2.2.1 u.2.2.2.1 u.2.2.2.2.1 u.2.2.2.2.2.1 u.2.2.2.2.2.2.1 u.2.2.2.2.2.2.2.1 u.2.2.2.2.2.2.2.2.1 u.2.2.2.2.2.2.2.2.2.1 u.2.2.2.2.2.2.2.2.2.2.1 u.2.2.2.2.2.2.2.2.2.2.2.1 u.2.2.2.2.2.2.2.2.2.2.2.2.1 u.2.2.2.2.2.2.2.2.2.2.2.2.2.1 u.2.2.2.2.2.2.2.2.2.2.2.2.2.2.1 u.2.2.2.2.2.2.2.2.2.2.2.2.2.2.2)) (va_A (Unpacker_unpack_w E a_this a_in a_out a_in_row a_in_row_data a_out_data a_fixedSymbols a_fixedSymbols_counts a_fixedSymbols_symbols a_fixedDistances a_fixedDistances_counts a_fixedDistances_symbols a_lengths a_lengthCodes a_lengthCodes_symbols a_lengthCodes_counts a_lengthCodes_offsets a_madeSymbols a_madeSymbols_symbols a_madeSymbols_counts a_madeSymbols_offsets a_madeDistances a_madeDistances_symbols a_madeDistances_counts a_madeDistances_offsets n_in_row_data n_out_data n_fixedSymbols_symbols n_fixedDistances_symbols n_lengthCodes_symbols n_madeSymbols_symbols n_madeDistances_symbols x_fixedSymbols_offsets x_fixedDistances_offsets v_in_row_length c_in_row_data c_fixedSymbols_counts c_fixedSymbols_symbols c_fixedDistances_counts c_fixedDistances_symbols v_outStart v_farthest v_in_at v_in_end v_out_length c_out_data c_lengths c_lengthCodes_symbols c_lengthCodes_counts c_lengthCodes_offsets c_madeSymbols_symbols c_madeSymbols_counts c_madeSymbols_offsets c_madeDistances_symbols c_madeDistances_counts c_madeDistances_offsets) sz)) 0 0 (va_A (Unpacker_unpack_w E a_this a_in a_out a_in_row a_in_row_data a_out_data a_fixedSymbols a_fixedSymbols_counts a_fixedSymbols_symbols a_fixedDistances a_fixedDistances_counts a_fixedDistances_symbols a_lengths a_lengthCodes a_lengthCodes_symbols a_lengthCodes_counts a_lengthCodes_offsets a_madeSymbols a_madeSymbols_symbols a_madeSymbols_counts a_madeSymbols_offsets a_madeDistances a_madeDistances_symbols a_madeDistances_counts a_madeDistances_offsets n_in_row_data n_out_data n_fixedSymbols_symbols n_fixedDistances_symbols n_lengthCodes_symbols n_madeSymbols_symbols n_madeDistances_symbols x_fixedSymbols_offsets x_fixedDistances_offsets v_in_row_length c_in_row_data c_fixedSymbols_counts c_fixedSymbols_symbols c_fixedDistances_counts c_fixedDistances_symbols v_outStart v_farthest v_in_at v_in_end v_out_length c_out_data c_lengths c_lengthCodes_symbols c_lengthCodes_counts c_lengthCodes_offsets c_madeSymbols_symbols c_madeSymbols_counts c_madeSymbols_offsets c_madeDistances_symbols c_madeDistances_counts c_madeDistances_offsets) sz) := by
  refine xEnZ (by decide) (Nat.le_of_ble_eq_true rfl) ?_
  intro p e s m args below meth c A ls Q hx hb hnm hts hown hml hK hA hI hN hret hP hD hS hl
  replace hown : s.vm.findClass R_Unpacker = some m.cls := hown
  replace hl : lv_has ls 7 [(0, .ref a_this), (1, .int x1), (2, .int x2)] := hl
  obtain ⟨H, eH⟩ : ∃ z, z = s.heap := ⟨_, rfl⟩
  obtain ⟨locs, eL⟩ : ∃ z : List Loc, z = [] := ⟨_, rfl⟩
  rw [show W p l e Unpacker_unpack_rm s m args below meth c s.heap [] 0 0 Q (F0 m 0 ls []) = W p l e Unpacker_unpack_rm s m args below meth c H locs 0 0 Q (F0 m 0 ls []) by rw [eH, eL]]
  replace hP : va_P E.1 vwCl (Unpacker_unpack_w E a_this a_in a_out a_in_row a_in_row_data a_out_data a_fixedSymbols a_fixedSymbols_counts a_fixedSymbols_symbols a_fixedDistances a_fixedDistances_counts a_fixedDistances_symbols a_lengths a_lengthCodes a_lengthCodes_symbols a_lengthCodes_counts a_lengthCodes_offsets a_madeSymbols a_madeSymbols_symbols a_madeSymbols_counts a_madeSymbols_offsets a_madeDistances a_madeDistances_symbols a_madeDistances_counts a_madeDistances_offsets n_in_row_data n_out_data n_fixedSymbols_symbols n_fixedDistances_symbols n_lengthCodes_symbols n_madeSymbols_symbols n_madeDistances_symbols x_fixedSymbols_offsets x_fixedDistances_offsets v_in_row_length c_in_row_data c_fixedSymbols_counts c_fixedSymbols_symbols c_fixedDistances_counts c_fixedDistances_symbols v_outStart v_farthest v_in_at v_in_end v_out_length c_out_data c_lengths c_lengthCodes_symbols c_lengthCodes_counts c_lengthCodes_offsets c_madeSymbols_symbols c_madeSymbols_counts c_madeSymbols_offsets c_madeDistances_symbols c_madeDistances_counts c_madeDistances_offsets) H := by rw [eH]; exact hP
  replace hS : va_S A s.heap H locs := by rw [eH, eL]; exact hS
  clear eH eL
  rw [Unpacker_unpack] at hm
  refine lv_aload_n hx hb d_Unpacker_unpack_0 rfl (lv_at hl 0 rfl) ?_
  refine va_get (D := E.1) (ci := 9) (v := .ref a_in) (C := R_Unpacker) (T := F_Unpacker) (N := 10) hx hb hts i_Unpacker hown hK hP 0 rfl rfl 0 (by decide) (hts _ tw_343) (fun _ h9 => h9) rfl d_Unpacker_unpack_1 ?_
  refine lv_iload_n hx hb d_Unpacker_unpack_4 rfl (lv_at hl 1 rfl) ?_
  refine lv_iload_n hx hb d_Unpacker_unpack_5 rfl (lv_at hl 2 rfl) ?_
  obtain ⟨r_3, v_at_1, v_end_2, hc6, hm⟩ := mR2_e hm
  refine xmv (wc := (BitReader_open_w E a_in (.ref a_in_row) v_in_at v_in_end)) [false, true, false, false, false, false, false, false, false, false, false, false, false, false, false, false, false, false, false, false, false, false, false, false, false] [0] [0] hP hD hS hA rfl (by decide) (by decide) 1 (by decide) (fun _ => rfl) (fun hPc hDc hFc => va_runV (As := [.int x1, .int x2]) (rest := []) ⟨hx, hb, hml, hown, hts⟩ (c_BitReader_open l E F H.size a_in (.ref a_in_row) v_in_at v_in_end x1 x2 (r_3, v_at_1, v_end_2) hc6) (cwV 2 hts (x_gV tw_697 tw_698 tw_699 tw_77 tw_700) rfl rfl rfl (by decide +kernel) ⟨Nat.le_of_ble_eq_true rfl, Nat.le_of_ble_eq_true rfl⟩) (xPV 0 0 rfl rfl hPc hDc hFc hK hI hN hS) rfl rfl hl.1 rfl (lv_room (Nat.le_of_ble_eq_true rfl)) d_Unpacker_unpack_6 ⟨Nat.le_of_ble_eq_true rfl, Nat.le_of_ble_eq_true rfl⟩) (fun u9 H locs hw hP hD hS => ?_)
  have hw2 : (v_at_1, v_end_2) = u9 := hw.symm
  subst hw2
  replace hP : va_P E.1 vwCl (Unpacker_unpack_w E a_this a_in a_out a_in_row a_in_row_data a_out_data a_fixedSymbols a_fixedSymbols_counts a_fixedSymbols_symbols a_fixedDistances a_fixedDistances_counts a_fixedDistances_symbols a_lengths a_lengthCodes a_lengthCodes_symbols a_lengthCodes_counts a_lengthCodes_offsets a_madeSymbols a_madeSymbols_symbols a_madeSymbols_counts a_madeSymbols_offsets a_madeDistances a_madeDistances_symbols a_madeDistances_counts a_madeDistances_offsets n_in_row_data n_out_data n_fixedSymbols_symbols n_fixedDistances_symbols n_lengthCodes_symbols n_madeSymbols_symbols n_madeDistances_symbols x_fixedSymbols_offsets x_fixedDistances_offsets v_in_row_length c_in_row_data c_fixedSymbols_counts c_fixedSymbols_symbols c_fixedDistances_counts c_fixedDistances_symbols v_outStart v_farthest v_at_1 v_end_2 v_out_length c_out_data c_lengths c_lengthCodes_symbols c_lengthCodes_counts c_lengthCodes_offsets c_madeSymbols_symbols c_madeSymbols_counts c_madeSymbols_offsets c_madeDistances_symbols c_madeDistances_counts c_madeDistances_offsets) H := hP
  replace hD : va_D A (Unpacker_unpack_w E a_this a_in a_out a_in_row a_in_row_data a_out_data a_fixedSymbols a_fixedSymbols_counts a_fixedSymbols_symbols a_fixedDistances a_fixedDistances_counts a_fixedDistances_symbols a_lengths a_lengthCodes a_lengthCodes_symbols a_lengthCodes_counts a_lengthCodes_offsets a_madeSymbols a_madeSymbols_symbols a_madeSymbols_counts a_madeSymbols_offsets a_madeDistances a_madeDistances_symbols a_madeDistances_counts a_madeDistances_offsets n_in_row_data n_out_data n_fixedSymbols_symbols n_fixedDistances_symbols n_lengthCodes_symbols n_madeSymbols_symbols n_madeDistances_symbols x_fixedSymbols_offsets x_fixedDistances_offsets v_in_row_length c_in_row_data c_fixedSymbols_counts c_fixedSymbols_symbols c_fixedDistances_counts c_fixedDistances_symbols v_outStart v_farthest v_at_1 v_end_2 v_out_length c_out_data c_lengths c_lengthCodes_symbols c_lengthCodes_counts c_lengthCodes_offsets c_madeSymbols_symbols c_madeSymbols_counts c_madeSymbols_offsets c_madeDistances_symbols c_madeDistances_counts c_madeDistances_offsets) := hD
  refine lv_aload_n hx hb d_Unpacker_unpack_9 rfl (lv_at hl 0 rfl) ?_
  refine lv_aload_n hx hb d_Unpacker_unpack_10 rfl (lv_at hl 0 rfl) ?_
  refine va_get (D := E.1) (ci := 9) (v := .ref a_out) (C := R_Unpacker) (T := F_Unpacker) (N := 10) hx hb hts i_Unpacker hown hK hP 0 rfl rfl 1 (by decide) (hts _ tw_344) (fun _ h9 => h9) rfl d_Unpacker_unpack_11 ?_
  obtain ⟨r_4, hc14, hm⟩ := mR0_e hm
  refine xmi (wc := (Bytes_length_w E a_out (.ref a_out_data) v_out_length)) [false, false, true, false, false, false, false, false, false, false, false, false, false, false, false, false, false, false, false, false, false, false, false, false, false] [0] [0] hP hD hS hA rfl (by decide) (by decide) 1 (by decide) (fun _ => rfl) (fun hPc hDc hFc => va_runV (As := []) (rest := [.ref a_this]) ⟨hx, hb, hml, hown, hts⟩ (c_Bytes_length l E F H.size a_out (.ref a_out_data) v_out_length (r_4, ()) hc14) (cwV 0 hts (x_gV tw_701 tw_422 tw_423 tw_67 tw_424) rfl rfl rfl (by decide +kernel) ⟨Nat.le_of_ble_eq_true rfl, Nat.le_of_ble_eq_true rfl⟩) (xPV 2 0 rfl rfl hPc hDc hFc hK hI hN hS) rfl rfl hl.1 rfl (lv_room (Nat.le_of_ble_eq_true rfl)) d_Unpacker_unpack_14 ⟨Nat.le_of_ble_eq_true rfl, Nat.le_of_ble_eq_true rfl⟩) (fun r9 u9 H locs hw hP hD hS => ?_)
  have hw1 : r_4 = r9 := hw.1.symm
  subst hw1
  replace hP : va_P E.1 vwCl (Unpacker_unpack_w E a_this a_in a_out a_in_row a_in_row_data a_out_data a_fixedSymbols a_fixedSymbols_counts a_fixedSymbols_symbols a_fixedDistances a_fixedDistances_counts a_fixedDistances_symbols a_lengths a_lengthCodes a_lengthCodes_symbols a_lengthCodes_counts a_lengthCodes_offsets a_madeSymbols a_madeSymbols_symbols a_madeSymbols_counts a_madeSymbols_offsets a_madeDistances a_madeDistances_symbols a_madeDistances_counts a_madeDistances_offsets n_in_row_data n_out_data n_fixedSymbols_symbols n_fixedDistances_symbols n_lengthCodes_symbols n_madeSymbols_symbols n_madeDistances_symbols x_fixedSymbols_offsets x_fixedDistances_offsets v_in_row_length c_in_row_data c_fixedSymbols_counts c_fixedSymbols_symbols c_fixedDistances_counts c_fixedDistances_symbols v_outStart v_farthest v_at_1 v_end_2 v_out_length c_out_data c_lengths c_lengthCodes_symbols c_lengthCodes_counts c_lengthCodes_offsets c_madeSymbols_symbols c_madeSymbols_counts c_madeSymbols_offsets c_madeDistances_symbols c_madeDistances_counts c_madeDistances_offsets) H := hP
  replace hD : va_D A (Unpacker_unpack_w E a_this a_in a_out a_in_row a_in_row_data a_out_data a_fixedSymbols a_fixedSymbols_counts a_fixedSymbols_symbols a_fixedDistances a_fixedDistances_counts a_fixedDistances_symbols a_lengths a_lengthCodes a_lengthCodes_symbols a_lengthCodes_counts a_lengthCodes_offsets a_madeSymbols a_madeSymbols_symbols a_madeSymbols_counts a_madeSymbols_offsets a_madeDistances a_madeDistances_symbols a_madeDistances_counts a_madeDistances_offsets n_in_row_data n_out_data n_fixedSymbols_symbols n_fixedDistances_symbols n_lengthCodes_symbols n_madeSymbols_symbols n_madeDistances_symbols x_fixedSymbols_offsets x_fixedDistances_offsets v_in_row_length c_in_row_data c_fixedSymbols_counts c_fixedSymbols_symbols c_fixedDistances_counts c_fixedDistances_symbols v_outStart v_farthest v_at_1 v_end_2 v_out_length c_out_data c_lengths c_lengthCodes_symbols c_lengthCodes_counts c_lengthCodes_offsets c_madeSymbols_symbols c_madeSymbols_counts c_madeSymbols_offsets c_madeDistances_symbols c_madeDistances_counts c_madeDistances_offsets) := hD
  refine va_put (D := E.1) (ci := 9) (v := .int r_4) (ty := .int) (C := R_Unpacker) (T := F_Unpacker) (N := 10) hx hb hts i_Unpacker t_Unpacker t_Unpacker_ok n_Unpacker hown hK hP hD hS 0 rfl rfl 8 (by decide) (hts _ tw_351) (fun _ h9 => h9) rfl (by decide +kernel) rfl rfl (Nat.le_of_ble_eq_true rfl) d_Unpacker_unpack_17 (fun H locs hP hD hS => ?_)
  replace hP : va_P E.1 vwCl (Unpacker_unpack_w E a_this a_in a_out a_in_row a_in_row_data a_out_data a_fixedSymbols a_fixedSymbols_counts a_fixedSymbols_symbols a_fixedDistances a_fixedDistances_counts a_fixedDistances_symbols a_lengths a_lengthCodes a_lengthCodes_symbols a_lengthCodes_counts a_lengthCodes_offsets a_madeSymbols a_madeSymbols_symbols a_madeSymbols_counts a_madeSymbols_offsets a_madeDistances a_madeDistances_symbols a_madeDistances_counts a_madeDistances_offsets n_in_row_data n_out_data n_fixedSymbols_symbols n_fixedDistances_symbols n_lengthCodes_symbols n_madeSymbols_symbols n_madeDistances_symbols x_fixedSymbols_offsets x_fixedDistances_offsets v_in_row_length c_in_row_data c_fixedSymbols_counts c_fixedSymbols_symbols c_fixedDistances_counts c_fixedDistances_symbols r_4 v_farthest v_at_1 v_end_2 v_out_length c_out_data c_lengths c_lengthCodes_symbols c_lengthCodes_counts c_lengthCodes_offsets c_madeSymbols_symbols c_madeSymbols_counts c_madeSymbols_offsets c_madeDistances_symbols c_madeDistances_counts c_madeDistances_offsets) H := hP
  replace hD : va_D A (Unpacker_unpack_w E a_this a_in a_out a_in_row a_in_row_data a_out_data a_fixedSymbols a_fixedSymbols_counts a_fixedSymbols_symbols a_fixedDistances a_fixedDistances_counts a_fixedDistances_symbols a_lengths a_lengthCodes a_lengthCodes_symbols a_lengthCodes_counts a_lengthCodes_offsets a_madeSymbols a_madeSymbols_symbols a_madeSymbols_counts a_madeSymbols_offsets a_madeDistances a_madeDistances_symbols a_madeDistances_counts a_madeDistances_offsets n_in_row_data n_out_data n_fixedSymbols_symbols n_fixedDistances_symbols n_lengthCodes_symbols n_madeSymbols_symbols n_madeDistances_symbols x_fixedSymbols_offsets x_fixedDistances_offsets v_in_row_length c_in_row_data c_fixedSymbols_counts c_fixedSymbols_symbols c_fixedDistances_counts c_fixedDistances_symbols r_4 v_farthest v_at_1 v_end_2 v_out_length c_out_data c_lengths c_lengthCodes_symbols c_lengthCodes_counts c_lengthCodes_offsets c_madeSymbols_symbols c_madeSymbols_counts c_madeSymbols_offsets c_madeDistances_symbols c_madeDistances_counts c_madeDistances_offsets) := hD
  refine lv_aload_n hx hb d_Unpacker_unpack_20 rfl (lv_at hl 0 rfl) ?_
  obtain ⟨r_7, v_farthest_5, v_in_at_6, hc21, hm⟩ := mR2_e hm
  refine xmi (wc := (Unpacker_beginningHolds_w E a_this a_in a_in_row a_in_row_data n_in_row_data (.ref a_out) (.ref a_fixedSymbols) (.ref a_fixedDistances) (.ref a_madeSymbols) (.ref a_madeDistances) (.ref a_lengthCodes) (.ref a_lengths) v_end_2 v_in_row_length c_in_row_data v_farthest v_at_1 r_4)) [true, true, false, true, true, false, false, false, false, false, false, false, false, false, false, false, false, false, false, false, false, false, false, false, false] [0, 1, 2, 3] [0, 1, 2, 3] hP hD hS hA rfl (by decide) (by decide) 4 (by decide) (fun _ => rfl) (fun hPc hDc hFc => va_runV (As := []) (rest := []) ⟨hx, hb, hml, hown, hts⟩ (c_Unpacker_beginningHolds l E F H.size a_this a_in a_in_row a_in_row_data n_in_row_data (.ref a_out) (.ref a_fixedSymbols) (.ref a_fixedDistances) (.ref a_madeSymbols) (.ref a_madeDistances) (.ref a_lengthCodes) (.ref a_lengths) v_end_2 v_in_row_length c_in_row_data v_farthest v_at_1 r_4 (r_7, v_farthest_5, v_in_at_6) hc21) (cwV 0 hts (x_gV tw_702 tw_704 tw_22 tw_76 tw_705) rfl rfl rfl (by decide +kernel) ⟨Nat.le_of_ble_eq_true rfl, Nat.le_of_ble_eq_true rfl⟩) (xPV 9 0 rfl rfl hPc hDc hFc hK hI hN hS) rfl rfl hl.1 rfl (lv_room (Nat.le_of_ble_eq_true rfl)) d_Unpacker_unpack_21 ⟨Nat.le_of_ble_eq_true rfl, Nat.le_of_ble_eq_true rfl⟩) (fun r9 u9 H locs hw hP hD hS => ?_)
  have hw1 : r_7 = r9 := hw.1.symm
  subst hw1
  have hw2 : (v_farthest_5, v_in_at_6) = u9 := hw.2.symm
  subst hw2
  replace hP : va_P E.1 vwCl (Unpacker_unpack_w E a_this a_in a_out a_in_row a_in_row_data a_out_data a_fixedSymbols a_fixedSymbols_counts a_fixedSymbols_symbols a_fixedDistances a_fixedDistances_counts a_fixedDistances_symbols a_lengths a_lengthCodes a_lengthCodes_symbols a_lengthCodes_counts a_lengthCodes_offsets a_madeSymbols a_madeSymbols_symbols a_madeSymbols_counts a_madeSymbols_offsets a_madeDistances a_madeDistances_symbols a_madeDistances_counts a_madeDistances_offsets n_in_row_data n_out_data n_fixedSymbols_symbols n_fixedDistances_symbols n_lengthCodes_symbols n_madeSymbols_symbols n_madeDistances_symbols x_fixedSymbols_offsets x_fixedDistances_offsets v_in_row_length c_in_row_data c_fixedSymbols_counts c_fixedSymbols_symbols c_fixedDistances_counts c_fixedDistances_symbols r_4 v_farthest_5 v_in_at_6 v_end_2 v_out_length c_out_data c_lengths c_lengthCodes_symbols c_lengthCodes_counts c_lengthCodes_offsets c_madeSymbols_symbols c_madeSymbols_counts c_madeSymbols_offsets c_madeDistances_symbols c_madeDistances_counts c_madeDistances_offsets) H := hP
  replace hD : va_D A (Unpacker_unpack_w E a_this a_in a_out a_in_row a_in_row_data a_out_data a_fixedSymbols a_fixedSymbols_counts a_fixedSymbols_symbols a_fixedDistances a_fixedDistances_counts a_fixedDistances_symbols a_lengths a_lengthCodes a_lengthCodes_symbols a_lengthCodes_counts a_lengthCodes_offsets a_madeSymbols a_madeSymbols_symbols a_madeSymbols_counts a_madeSymbols_offsets a_madeDistances a_madeDistances_symbols a_madeDistances_counts a_madeDistances_offsets n_in_row_data n_out_data n_fixedSymbols_symbols n_fixedDistances_symbols n_lengthCodes_symbols n_madeSymbols_symbols n_madeDistances_symbols x_fixedSymbols_offsets x_fixedDistances_offsets v_in_row_length c_in_row_data c_fixedSymbols_counts c_fixedSymbols_symbols c_fixedDistances_counts c_fixedDistances_symbols r_4 v_farthest_5 v_in_at_6 v_end_2 v_out_length c_out_data c_lengths c_lengthCodes_symbols c_lengthCodes_counts c_lengthCodes_offsets c_madeSymbols_symbols c_madeSymbols_counts c_madeSymbols_offsets c_madeDistances_symbols c_madeDistances_counts c_madeDistances_offsets) := hD
  refine lv_if_ne (tgt := 29) hx hb d_Unpacker_unpack_24 (by decide) (fun c24 => ?_) (fun c24 => ?_)
  · replace hm := mC_f hm c24
    have h_150 : ∀ (v_outStart : Int32) (v_farthest : Int32) (v_in_at : Int32) (v_in_end : Int32) (v_out_length : Int32) (c_out_data : Nat → Int32) (c_lengths : Nat → Int32) (c_lengthCodes_symbols : Nat → Int32) (c_lengthCodes_counts : Nat → Int32) (c_lengthCodes_offsets : Nat → Int32) (c_madeSymbols_symbols : Nat → Int32) (c_madeSymbols_counts : Nat → Int32) (c_madeSymbols_offsets : Nat → Int32) (c_madeDistances_symbols : Nat → Int32) (c_madeDistances_counts : Nat → Int32) (c_madeDistances_offsets : Nat → Int32) (H : Heap) (locs : List Loc) (ls : Array Slot), (Unpacker_unpack_150 F n_in_row_data n_out_data v_in_row_length c_in_row_data) v_outStart v_farthest v_in_at v_in_end v_out_length c_out_data c_lengths c_lengthCodes_symbols c_lengthCodes_counts c_lengthCodes_offsets c_madeSymbols_symbols c_madeSymbols_counts c_madeSymbols_offsets c_madeDistances_symbols c_madeDistances_counts c_madeDistances_offsets = some res → va_P E.1 vwCl (Unpacker_unpack_w E a_this a_in a_out a_in_row a_in_row_data a_out_data a_fixedSymbols a_fixedSymbols_counts a_fixedSymbols_symbols a_fixedDistances a_fixedDistances_counts a_fixedDistances_symbols a_lengths a_lengthCodes a_lengthCodes_symbols a_lengthCodes_counts a_lengthCodes_offsets a_madeSymbols a_madeSymbols_symbols a_madeSymbols_counts a_madeSymbols_offsets a_madeDistances a_madeDistances_symbols a_madeDistances_counts a_madeDistances_offsets n_in_row_data n_out_data n_fixedSymbols_symbols n_fixedDistances_symbols n_lengthCodes_symbols n_madeSymbols_symbols n_madeDistances_symbols x_fixedSymbols_offsets x_fixedDistances_offsets v_in_row_length c_in_row_data c_fixedSymbols_counts c_fixedSymbols_symbols c_fixedDistances_counts c_fixedDistances_symbols v_outStart v_farthest v_in_at v_in_end v_out_length c_out_data c_lengths c_lengthCodes_symbols c_lengthCodes_counts c_lengthCodes_offsets c_madeSymbols_symbols c_madeSymbols_counts c_madeSymbols_offsets c_madeDistances_symbols c_madeDistances_counts c_madeDistances_offsets) H → va_D A (Unpacker_unpack_w E a_this a_in a_out a_in_row a_in_row_data a_out_data a_fixedSymbols a_fixedSymbols_counts a_fixedSymbols_symbols a_fixedDistances a_fixedDistances_counts a_fixedDistances_symbols a_lengths a_lengthCodes a_lengthCodes_symbols a_lengthCodes_counts a_lengthCodes_offsets a_madeSymbols a_madeSymbols_symbols a_madeSymbols_counts a_madeSymbols_offsets a_madeDistances a_madeDistances_symbols a_madeDistances_counts a_madeDistances_offsets n_in_row_data n_out_data n_fixedSymbols_symbols n_fixedDistances_symbols n_lengthCodes_symbols n_madeSymbols_symbols n_madeDistances_symbols x_fixedSymbols_offsets x_fixedDistances_offsets v_in_row_length c_in_row_data c_fixedSymbols_counts c_fixedSymbols_symbols c_fixedDistances_counts c_fixedDistances_symbols v_outStart v_farthest v_in_at v_in_end v_out_length c_out_data c_lengths c_lengthCodes_symbols c_lengthCodes_counts c_lengthCodes_offsets c_madeSymbols_symbols c_madeSymbols_counts c_madeSymbols_offsets c_madeDistances_symbols c_madeDistances_counts c_madeDistances_offsets) → va_S A s.heap H locs → lv_has ls 7 [(0, .ref a_this)] → W p l e Unpacker_unpack_rm s m args below meth c H locs 0 0 Q (F0 m 150 ls []) := by
      intro v_outStart v_farthest v_in_at v_in_end v_out_length c_out_data c_lengths c_lengthCodes_symbols c_lengthCodes_counts c_lengthCodes_offsets c_madeSymbols_symbols c_madeSymbols_counts c_madeSymbols_offsets c_madeDistances_symbols c_madeDistances_counts c_madeDistances_offsets H locs ls hm hP hD hS hl
      rw [Unpacker_unpack_150] at hm
      refine lv_aload_n hx hb d_Unpacker_unpack_150 rfl (lv_at hl 0 rfl) ?_
      obtain ⟨r_9, v_in_at_8, hc151, hm⟩ := mR1_e hm
      refine xmi (wc := (Unpacker_checkHolds_w E a_this a_in a_in_row a_in_row_data a_out a_out_data n_in_row_data n_out_data (.ref a_fixedSymbols) (.ref a_fixedDistances) (.ref a_madeSymbols) (.ref a_madeDistances) (.ref a_lengthCodes) (.ref a_lengths) v_outStart v_in_end v_in_row_length c_in_row_data v_out_length c_out_data v_in_at v_farthest)) [true, true, true, true, true, true, false, false, false, false, false, false, false, false, false, false, false, false, false, false, false, false, false, false, false] [0, 1, 3, 4, 2, 5] [0, 1, 4, 2, 3, 5] hP hD hS hA rfl (by decide) (by decide) 6 (by decide) (fun _ => rfl) (fun hPc hDc hFc => va_runV (As := []) (rest := []) ⟨hx, hb, hml, hown, hts⟩ (c_Unpacker_checkHolds l E F H.size a_this a_in a_in_row a_in_row_data a_out a_out_data n_in_row_data n_out_data (.ref a_fixedSymbols) (.ref a_fixedDistances) (.ref a_madeSymbols) (.ref a_madeDistances) (.ref a_lengthCodes) (.ref a_lengths) v_outStart v_in_end v_in_row_length c_in_row_data v_out_length c_out_data v_in_at v_farthest (r_9, v_in_at_8) hc151) (cwV 0 hts (x_gV tw_759 tw_761 tw_29 tw_76 tw_762) rfl rfl rfl (by decide +kernel) ⟨Nat.le_of_ble_eq_true rfl, Nat.le_of_ble_eq_true rfl⟩) (xPV 9 0 rfl rfl hPc hDc hFc hK hI hN hS) rfl rfl hl.1 rfl (lv_room (Nat.le_of_ble_eq_true rfl)) d_Unpacker_unpack_151 ⟨Nat.le_of_ble_eq_true rfl, Nat.le_of_ble_eq_true rfl⟩) (fun r9 u9 H locs hw hP hD hS => ?_)
      have hw1 : r_9 = r9 := hw.1.symm
      subst hw1
      have hw2 : v_in_at_8 = u9 := hw.2.symm
      subst hw2
      replace hP : va_P E.1 vwCl (Unpacker_unpack_w E a_this a_in a_out a_in_row a_in_row_data a_out_data a_fixedSymbols a_fixedSymbols_counts a_fixedSymbols_symbols a_fixedDistances a_fixedDistances_counts a_fixedDistances_symbols a_lengths a_lengthCodes a_lengthCodes_symbols a_lengthCodes_counts a_lengthCodes_offsets a_madeSymbols a_madeSymbols_symbols a_madeSymbols_counts a_madeSymbols_offsets a_madeDistances a_madeDistances_symbols a_madeDistances_counts a_madeDistances_offsets n_in_row_data n_out_data n_fixedSymbols_symbols n_fixedDistances_symbols n_lengthCodes_symbols n_madeSymbols_symbols n_madeDistances_symbols x_fixedSymbols_offsets x_fixedDistances_offsets v_in_row_length c_in_row_data c_fixedSymbols_counts c_fixedSymbols_symbols c_fixedDistances_counts c_fixedDistances_symbols v_outStart v_farthest v_in_at_8 v_in_end v_out_length c_out_data c_lengths c_lengthCodes_symbols c_lengthCodes_counts c_lengthCodes_offsets c_madeSymbols_symbols c_madeSymbols_counts c_madeSymbols_offsets c_madeDistances_symbols c_madeDistances_counts c_madeDistances_offsets) H := hP
      replace hD : va_D A (Unpacker_unpack_w E a_this a_in a_out a_in_row a_in_row_data a_out_data a_fixedSymbols a_fixedSymbols_counts a_fixedSymbols_symbols a_fixedDistances a_fixedDistances_counts a_fixedDistances_symbols a_lengths a_lengthCodes a_lengthCodes_symbols a_lengthCodes_counts a_lengthCodes_offsets a_madeSymbols a_madeSymbols_symbols a_madeSymbols_counts a_madeSymbols_offsets a_madeDistances a_madeDistances_symbols a_madeDistances_counts a_madeDistances_offsets n_in_row_data n_out_data n_fixedSymbols_symbols n_fixedDistances_symbols n_lengthCodes_symbols n_madeSymbols_symbols n_madeDistances_symbols x_fixedSymbols_offsets x_fixedDistances_offsets v_in_row_length c_in_row_data c_fixedSymbols_counts c_fixedSymbols_symbols c_fixedDistances_counts c_fixedDistances_symbols v_outStart v_farthest v_in_at_8 v_in_end v_out_length c_out_data c_lengths c_lengthCodes_symbols c_lengthCodes_counts c_lengthCodes_offsets c_madeSymbols_symbols c_madeSymbols_counts c_madeSymbols_offsets c_madeDistances_symbols c_madeDistances_counts c_madeDistances_offsets) := hD
      obtain ⟨hz154, hm⟩ := mZ_e hm
      replace hm := Option.some.inj hm
      subst hm
      exact hret d_Unpacker_unpack_154 hz154 (u := (v_outStart, v_farthest, v_in_at_8, v_in_end, v_out_length, c_out_data, c_lengths, c_lengthCodes_symbols, c_lengthCodes_counts, c_lengthCodes_offsets, c_madeSymbols_symbols, c_madeSymbols_counts, c_madeSymbols_offsets, c_madeDistances_symbols, c_madeDistances_counts, c_madeDistances_offsets)) ⟨rfl, rfl⟩ hP hD hS
    have h_31 : ∀ (n_31 : Nat) (v_outStart : Int32) (v_farthest : Int32) (v_in_at : Int32) (v_in_end : Int32) (v_out_length : Int32) (c_out_data : Nat → Int32) (c_lengths : Nat → Int32) (c_lengthCodes_symbols : Nat → Int32) (c_lengthCodes_counts : Nat → Int32) (c_lengthCodes_offsets : Nat → Int32) (c_madeSymbols_symbols : Nat → Int32) (c_madeSymbols_counts : Nat → Int32) (c_madeSymbols_offsets : Nat → Int32) (c_madeDistances_symbols : Nat → Int32) (c_madeDistances_counts : Nat → Int32) (c_madeDistances_offsets : Nat → Int32) (x3 : Int32) (H : Heap) (locs : List Loc) (ls : Array Slot), (mW17 (Unpacker_unpack_31 F n_in_row_data n_out_data n_fixedSymbols_symbols n_fixedDistances_symbols n_lengthCodes_symbols n_madeSymbols_symbols n_madeDistances_symbols v_in_row_length c_in_row_data c_fixedSymbols_counts c_fixedSymbols_symbols c_fixedDistances_counts c_fixedDistances_symbols (Unpacker_unpack_150 F n_in_row_data n_out_data v_in_row_length c_in_row_data)) n_31) v_outStart v_farthest v_in_at v_in_end v_out_length c_out_data c_lengths c_lengthCodes_symbols c_lengthCodes_counts c_lengthCodes_offsets c_madeSymbols_symbols c_madeSymbols_counts c_madeSymbols_offsets c_madeDistances_symbols c_madeDistances_counts c_madeDistances_offsets x3 = some res → va_P E.1 vwCl (Unpacker_unpack_w E a_this a_in a_out a_in_row a_in_row_data a_out_data a_fixedSymbols a_fixedSymbols_counts a_fixedSymbols_symbols a_fixedDistances a_fixedDistances_counts a_fixedDistances_symbols a_lengths a_lengthCodes a_lengthCodes_symbols a_lengthCodes_counts a_lengthCodes_offsets a_madeSymbols a_madeSymbols_symbols a_madeSymbols_counts a_madeSymbols_offsets a_madeDistances a_madeDistances_symbols a_madeDistances_counts a_madeDistances_offsets n_in_row_data n_out_data n_fixedSymbols_symbols n_fixedDistances_symbols n_lengthCodes_symbols n_madeSymbols_symbols n_madeDistances_symbols x_fixedSymbols_offsets x_fixedDistances_offsets v_in_row_length c_in_row_data c_fixedSymbols_counts c_fixedSymbols_symbols c_fixedDistances_counts c_fixedDistances_symbols v_outStart v_farthest v_in_at v_in_end v_out_length c_out_data c_lengths c_lengthCodes_symbols c_lengthCodes_counts c_lengthCodes_offsets c_madeSymbols_symbols c_madeSymbols_counts c_madeSymbols_offsets c_madeDistances_symbols c_madeDistances_counts c_madeDistances_offsets) H → va_D A (Unpacker_unpack_w E a_this a_in a_out a_in_row a_in_row_data a_out_data a_fixedSymbols a_fixedSymbols_counts a_fixedSymbols_symbols a_fixedDistances a_fixedDistances_counts a_fixedDistances_symbols a_lengths a_lengthCodes a_lengthCodes_symbols a_lengthCodes_counts a_lengthCodes_offsets a_madeSymbols a_madeSymbols_symbols a_madeSymbols_counts a_madeSymbols_offsets a_madeDistances a_madeDistances_symbols a_madeDistances_counts a_madeDistances_offsets n_in_row_data n_out_data n_fixedSymbols_symbols n_fixedDistances_symbols n_lengthCodes_symbols n_madeSymbols_symbols n_madeDistances_symbols x_fixedSymbols_offsets x_fixedDistances_offsets v_in_row_length c_in_row_data c_fixedSymbols_counts c_fixedSymbols_symbols c_fixedDistances_counts c_fixedDistances_symbols v_outStart v_farthest v_in_at v_in_end v_out_length c_out_data c_lengths c_lengthCodes_symbols c_lengthCodes_counts c_lengthCodes_offsets c_madeSymbols_symbols c_madeSymbols_counts c_madeSymbols_offsets c_madeDistances_symbols c_madeDistances_counts c_madeDistances_offsets) → va_S A s.heap H locs → lv_has ls 7 [(0, .ref a_this), (3, .int x3)] → W p l e Unpacker_unpack_rm s m args below meth c H locs 0 0 Q (F0 m 31 ls []) := by
      intro n_31
      induction n_31 with
      | zero => exact fun _ _ _ _ _ _ _ _ _ _ _ _ _ _ _ _ _ _ _ _ hm _ _ _ _ => (mW17_z hm).elim
      | succ n_31 ih_31 =>
        intro v_outStart v_farthest v_in_at v_in_end v_out_length c_out_data c_lengths c_lengthCodes_symbols c_lengthCodes_counts c_lengthCodes_offsets c_madeSymbols_symbols c_madeSymbols_counts c_madeSymbols_offsets c_madeDistances_symbols c_madeDistances_counts c_madeDistances_offsets x3 H locs ls hm hP hD hS hl
        replace hm := mW17_s hm
        rw [Unpacker_unpack_31] at hm
        refine lv_iload_n hx hb d_Unpacker_unpack_31 rfl (lv_at hl 1 rfl) ?_
        refine lv_ldc (v := 65536) hx hb hown (hts _ tw_711) d_Unpacker_unpack_32 ?_
        refine lv_icmp_ge (tgt := 161) hx hb d_Unpacker_unpack_34 (by decide) (fun c34 => ?_) (fun c34 => ?_)
        · replace hm := mC_t hm c34
          refine lv_iconst (v := 0) hx hb d_Unpacker_unpack_161 (by decide) ?_
          replace hm := Option.some.inj hm
          subst hm
          exact hret d_Unpacker_unpack_162 (by decide) (u := (v_outStart, v_farthest, v_in_at, v_in_end, v_out_length, c_out_data, c_lengths, c_lengthCodes_symbols, c_lengthCodes_counts, c_lengthCodes_offsets, c_madeSymbols_symbols, c_madeSymbols_counts, c_madeSymbols_offsets, c_madeDistances_symbols, c_madeDistances_counts, c_madeDistances_offsets)) ⟨rfl, rfl⟩ hP hD hS
        · replace hm := mC_f hm c34
          refine lv_aload_n hx hb d_Unpacker_unpack_37 rfl (lv_at hl 0 rfl) ?_
          refine va_get (D := E.1) (ci := 9) (v := .ref a_in) (C := R_Unpacker) (T := F_Unpacker) (N := 10) hx hb hts i_Unpacker hown hK hP 0 rfl rfl 0 (by decide) (hts _ tw_343) (fun _ h9 => h9) rfl d_Unpacker_unpack_38 ?_
          refine lv_iconst (v := 1) hx hb d_Unpacker_unpack_41 (by decide) ?_
          obtain ⟨r_11, v_at_10, hc42, hm⟩ := mR1_e hm
          refine xmi (wc := (BitReader_number_w E a_in a_in_row a_in_row_data n_in_row_data v_in_end v_in_row_length c_in_row_data v_in_at)) [false, true, false, true, true, false, false, false, false, false, false, false, false, false, false, false, false, false, false, false, false, false, false, false, false] [0, 1, 2] [0, 1, 2] hP hD hS hA rfl (by decide) (by decide) 3 (by decide) (fun _ => rfl) (fun hPc hDc hFc => va_runV (As := [.int 1]) (rest := []) ⟨hx, hb, hml, hown, hts⟩ (c_BitReader_number l E F H.size a_in a_in_row a_in_row_data n_in_row_data v_in_end v_in_row_length c_in_row_data v_in_at 1 (r_11, v_at_10) hc42) (cwV 1 hts (x_gV tw_706 tw_707 tw_708 tw_77 tw_709) rfl rfl rfl (by decide +kernel) ⟨Nat.le_of_ble_eq_true rfl, Nat.le_of_ble_eq_true rfl⟩) (xPV 0 0 rfl rfl hPc hDc hFc hK hI hN hS) rfl rfl hl.1 rfl (lv_room (Nat.le_of_ble_eq_true rfl)) d_Unpacker_unpack_42 ⟨Nat.le_of_ble_eq_true rfl, Nat.le_of_ble_eq_true rfl⟩) (fun r9 u9 H locs hw hP hD hS => ?_)
          have hw1 : r_11 = r9 := hw.1.symm
          subst hw1
          have hw2 : v_at_10 = u9 := hw.2.symm
          subst hw2
          replace hP : va_P E.1 vwCl (Unpacker_unpack_w E a_this a_in a_out a_in_row a_in_row_data a_out_data a_fixedSymbols a_fixedSymbols_counts a_fixedSymbols_symbols a_fixedDistances a_fixedDistances_counts a_fixedDistances_symbols a_lengths a_lengthCodes a_lengthCodes_symbols a_lengthCodes_counts a_lengthCodes_offsets a_madeSymbols a_madeSymbols_symbols a_madeSymbols_counts a_madeSymbols_offsets a_madeDistances a_madeDistances_symbols a_madeDistances_counts a_madeDistances_offsets n_in_row_data n_out_data n_fixedSymbols_symbols n_fixedDistances_symbols n_lengthCodes_symbols n_madeSymbols_symbols n_madeDistances_symbols x_fixedSymbols_offsets x_fixedDistances_offsets v_in_row_length c_in_row_data c_fixedSymbols_counts c_fixedSymbols_symbols c_fixedDistances_counts c_fixedDistances_symbols v_outStart v_farthest v_at_10 v_in_end v_out_length c_out_data c_lengths c_lengthCodes_symbols c_lengthCodes_counts c_lengthCodes_offsets c_madeSymbols_symbols c_madeSymbols_counts c_madeSymbols_offsets c_madeDistances_symbols c_madeDistances_counts c_madeDistances_offsets) H := hP
          replace hD : va_D A (Unpacker_unpack_w E a_this a_in a_out a_in_row a_in_row_data a_out_data a_fixedSymbols a_fixedSymbols_counts a_fixedSymbols_symbols a_fixedDistances a_fixedDistances_counts a_fixedDistances_symbols a_lengths a_lengthCodes a_lengthCodes_symbols a_lengthCodes_counts a_lengthCodes_offsets a_madeSymbols a_madeSymbols_symbols a_madeSymbols_counts a_madeSymbols_offsets a_madeDistances a_madeDistances_symbols a_madeDistances_counts a_madeDistances_offsets n_in_row_data n_out_data n_fixedSymbols_symbols n_fixedDistances_symbols n_lengthCodes_symbols n_madeSymbols_symbols n_madeDistances_symbols x_fixedSymbols_offsets x_fixedDistances_offsets v_in_row_length c_in_row_data c_fixedSymbols_counts c_fixedSymbols_symbols c_fixedDistances_counts c_fixedDistances_symbols v_outStart v_farthest v_at_10 v_in_end v_out_length c_out_data c_lengths c_lengthCodes_symbols c_lengthCodes_counts c_lengthCodes_offsets c_madeSymbols_symbols c_madeSymbols_counts c_madeSymbols_offsets c_madeDistances_symbols c_madeDistances_counts c_madeDistances_offsets) := hD
          refine lv_istore (lv' := [(4, .int r_11), (0, .ref a_this), (3, .int x3)]) hx hb d_Unpacker_unpack_45 hl (by decide) rfl (fun ls hl => ?_)
          refine lv_aload_n hx hb d_Unpacker_unpack_47 rfl (lv_at hl 1 rfl) ?_
          refine va_get (D := E.1) (ci := 9) (v := .ref a_in) (C := R_Unpacker) (T := F_Unpacker) (N := 10) hx hb hts i_Unpacker hown hK hP 0 rfl rfl 0 (by decide) (hts _ tw_343) (fun _ h9 => h9) rfl d_Unpacker_unpack_48 ?_
          refine lv_iconst (v := 2) hx hb d_Unpacker_unpack_51 (by decide) ?_
          obtain ⟨r_13, v_at_12, hc52, hm⟩ := mR1_e hm
          refine xmi (wc := (BitReader_number_w E a_in a_in_row a_in_row_data n_in_row_data v_in_end v_in_row_length c_in_row_data v_at_10)) [false, true, false, true, true, false, false, false, false, false, false, false, false, false, false, false, false, false, false, false, false, false, false, false, false] [0, 1, 2] [0, 1, 2] hP hD hS hA rfl (by decide) (by decide) 3 (by decide) (fun _ => rfl) (fun hPc hDc hFc => va_runV (As := [.int 2]) (rest := []) ⟨hx, hb, hml, hown, hts⟩ (c_BitReader_number l E F H.size a_in a_in_row a_in_row_data n_in_row_data v_in_end v_in_row_length c_in_row_data v_at_10 2 (r_13, v_at_12) hc52) (cwV 1 hts (x_gV tw_706 tw_707 tw_708 tw_77 tw_709) rfl rfl rfl (by decide +kernel) ⟨Nat.le_of_ble_eq_true rfl, Nat.le_of_ble_eq_true rfl⟩) (xPV 0 0 rfl rfl hPc hDc hFc hK hI hN hS) rfl rfl hl.1 rfl (lv_room (Nat.le_of_ble_eq_true rfl)) d_Unpacker_unpack_52 ⟨Nat.le_of_ble_eq_true rfl, Nat.le_of_ble_eq_true rfl⟩) (fun r9 u9 H locs hw hP hD hS => ?_)
          have hw1 : r_13 = r9 := hw.1.symm
          subst hw1
          have hw2 : v_at_12 = u9 := hw.2.symm
          subst hw2
          replace hP : va_P E.1 vwCl (Unpacker_unpack_w E a_this a_in a_out a_in_row a_in_row_data a_out_data a_fixedSymbols a_fixedSymbols_counts a_fixedSymbols_symbols a_fixedDistances a_fixedDistances_counts a_fixedDistances_symbols a_lengths a_lengthCodes a_lengthCodes_symbols a_lengthCodes_counts a_lengthCodes_offsets a_madeSymbols a_madeSymbols_symbols a_madeSymbols_counts a_madeSymbols_offsets a_madeDistances a_madeDistances_symbols a_madeDistances_counts a_madeDistances_offsets n_in_row_data n_out_data n_fixedSymbols_symbols n_fixedDistances_symbols n_lengthCodes_symbols n_madeSymbols_symbols n_madeDistances_symbols x_fixedSymbols_offsets x_fixedDistances_offsets v_in_row_length c_in_row_data c_fixedSymbols_counts c_fixedSymbols_symbols c_fixedDistances_counts c_fixedDistances_symbols v_outStart v_farthest v_at_12 v_in_end v_out_length c_out_data c_lengths c_lengthCodes_symbols c_lengthCodes_counts c_lengthCodes_offsets c_madeSymbols_symbols c_madeSymbols_counts c_madeSymbols_offsets c_madeDistances_symbols c_madeDistances_counts c_madeDistances_offsets) H := hP
          replace hD : va_D A (Unpacker_unpack_w E a_this a_in a_out a_in_row a_in_row_data a_out_data a_fixedSymbols a_fixedSymbols_counts a_fixedSymbols_symbols a_fixedDistances a_fixedDistances_counts a_fixedDistances_symbols a_lengths a_lengthCodes a_lengthCodes_symbols a_lengthCodes_counts a_lengthCodes_offsets a_madeSymbols a_madeSymbols_symbols a_madeSymbols_counts a_madeSymbols_offsets a_madeDistances a_madeDistances_symbols a_madeDistances_counts a_madeDistances_offsets n_in_row_data n_out_data n_fixedSymbols_symbols n_fixedDistances_symbols n_lengthCodes_symbols n_madeSymbols_symbols n_madeDistances_symbols x_fixedSymbols_offsets x_fixedDistances_offsets v_in_row_length c_in_row_data c_fixedSymbols_counts c_fixedSymbols_symbols c_fixedDistances_counts c_fixedDistances_symbols v_outStart v_farthest v_at_12 v_in_end v_out_length c_out_data c_lengths c_lengthCodes_symbols c_lengthCodes_counts c_lengthCodes_offsets c_madeSymbols_symbols c_madeSymbols_counts c_madeSymbols_offsets c_madeDistances_symbols c_madeDistances_counts c_madeDistances_offsets) := hD
          refine lv_istore (lv' := [(5, .int r_13), (4, .int r_11), (0, .ref a_this), (3, .int x3)]) hx hb d_Unpacker_unpack_55 hl (by decide) rfl (fun ls hl => ?_)
          refine lv_iload hx hb d_Unpacker_unpack_57 (lv_at hl 1 rfl) ?_
          refine lv_if_lt (tgt := 73) hx hb d_Unpacker_unpack_59 (by decide) (fun c59 => ?_) (fun c59 => ?_)
          · replace hm := mC_t hm c59
            refine lv_iconst (v := 0) hx hb d_Unpacker_unpack_73 (by decide) ?_
            replace hm := Option.some.inj hm
            subst hm
            exact hret d_Unpacker_unpack_74 (by decide) (u := (v_outStart, v_farthest, v_at_12, v_in_end, v_out_length, c_out_data, c_lengths, c_lengthCodes_symbols, c_lengthCodes_counts, c_lengthCodes_offsets, c_madeSymbols_symbols, c_madeSymbols_counts, c_madeSymbols_offsets, c_madeDistances_symbols, c_madeDistances_counts, c_madeDistances_offsets)) ⟨rfl, rfl⟩ hP hD hS
          · replace hm := mC_f hm c59
            refine lv_iload hx hb d_Unpacker_unpack_62 (lv_at hl 0 rfl) ?_
            refine lv_if_lt (tgt := 73) hx hb d_Unpacker_unpack_64 (by decide) (fun c64 => ?_) (fun c64 => ?_)
            · replace hm := mC_t hm c64
              refine lv_iconst (v := 0) hx hb d_Unpacker_unpack_73 (by decide) ?_
              replace hm := Option.some.inj hm
              subst hm
              exact hret d_Unpacker_unpack_74 (by decide) (u := (v_outStart, v_farthest, v_at_12, v_in_end, v_out_length, c_out_data, c_lengths, c_lengthCodes_symbols, c_lengthCodes_counts, c_lengthCodes_offsets, c_madeSymbols_symbols, c_madeSymbols_counts, c_madeSymbols_offsets, c_madeDistances_symbols, c_madeDistances_counts, c_madeDistances_offsets)) ⟨rfl, rfl⟩ hP hD hS
            · replace hm := mC_f hm c64
              refine lv_iload hx hb d_Unpacker_unpack_67 (lv_at hl 0 rfl) ?_
              refine lv_iconst (v := 2) hx hb d_Unpacker_unpack_69 (by decide) ?_
              refine lv_icmp_le (tgt := 75) hx hb d_Unpacker_unpack_70 (by decide) (fun c70 => ?_) (fun c70 => ?_)
              · replace hm := mC_t hm c70
                have h_135 : ∀ (v_outStart : Int32) (v_farthest : Int32) (v_in_at : Int32) (v_in_end : Int32) (v_out_length : Int32) (c_out_data : Nat → Int32) (c_lengths : Nat → Int32) (c_lengthCodes_symbols : Nat → Int32) (c_lengthCodes_counts : Nat → Int32) (c_lengthCodes_offsets : Nat → Int32) (c_madeSymbols_symbols : Nat → Int32) (c_madeSymbols_counts : Nat → Int32) (c_madeSymbols_offsets : Nat → Int32) (c_madeDistances_symbols : Nat → Int32) (c_madeDistances_counts : Nat → Int32) (c_madeDistances_offsets : Nat → Int32) (x3 : Int32) (x4 : Int32) (s0 : Int32) (H : Heap) (locs : List Loc) (ls : Array Slot), (Unpacker_unpack_135 F (mW17 (Unpacker_unpack_31 F n_in_row_data n_out_data n_fixedSymbols_symbols n_fixedDistances_symbols n_lengthCodes_symbols n_madeSymbols_symbols n_madeDistances_symbols v_in_row_length c_in_row_data c_fixedSymbols_counts c_fixedSymbols_symbols c_fixedDistances_counts c_fixedDistances_symbols (Unpacker_unpack_150 F n_in_row_data n_out_data v_in_row_length c_in_row_data)) n_31) (Unpacker_unpack_150 F n_in_row_data n_out_data v_in_row_length c_in_row_data)) v_outStart v_farthest v_in_at v_in_end v_out_length c_out_data c_lengths c_lengthCodes_symbols c_lengthCodes_counts c_lengthCodes_offsets c_madeSymbols_symbols c_madeSymbols_counts c_madeSymbols_offsets c_madeDistances_symbols c_madeDistances_counts c_madeDistances_offsets x3 x4 s0 = some res → va_P E.1 vwCl (Unpacker_unpack_w E a_this a_in a_out a_in_row a_in_row_data a_out_data a_fixedSymbols a_fixedSymbols_counts a_fixedSymbols_symbols a_fixedDistances a_fixedDistances_counts a_fixedDistances_symbols a_lengths a_lengthCodes a_lengthCodes_symbols a_lengthCodes_counts a_lengthCodes_offsets a_madeSymbols a_madeSymbols_symbols a_madeSymbols_counts a_madeSymbols_offsets a_madeDistances a_madeDistances_symbols a_madeDistances_counts a_madeDistances_offsets n_in_row_data n_out_data n_fixedSymbols_symbols n_fixedDistances_symbols n_lengthCodes_symbols n_madeSymbols_symbols n_madeDistances_symbols x_fixedSymbols_offsets x_fixedDistances_offsets v_in_row_length c_in_row_data c_fixedSymbols_counts c_fixedSymbols_symbols c_fixedDistances_counts c_fixedDistances_symbols v_outStart v_farthest v_in_at v_in_end v_out_length c_out_data c_lengths c_lengthCodes_symbols c_lengthCodes_counts c_lengthCodes_offsets c_madeSymbols_symbols c_madeSymbols_counts c_madeSymbols_offsets c_madeDistances_symbols c_madeDistances_counts c_madeDistances_offsets) H → va_D A (Unpacker_unpack_w E a_this a_in a_out a_in_row a_in_row_data a_out_data a_fixedSymbols a_fixedSymbols_counts a_fixedSymbols_symbols a_fixedDistances a_fixedDistances_counts a_fixedDistances_symbols a_lengths a_lengthCodes a_lengthCodes_symbols a_lengthCodes_counts a_lengthCodes_offsets a_madeSymbols a_madeSymbols_symbols a_madeSymbols_counts a_madeSymbols_offsets a_madeDistances a_madeDistances_symbols a_madeDistances_counts a_madeDistances_offsets n_in_row_data n_out_data n_fixedSymbols_symbols n_fixedDistances_symbols n_lengthCodes_symbols n_madeSymbols_symbols n_madeDistances_symbols x_fixedSymbols_offsets x_fixedDistances_offsets v_in_row_length c_in_row_data c_fixedSymbols_counts c_fixedSymbols_symbols c_fixedDistances_counts c_fixedDistances_symbols v_outStart v_farthest v_in_at v_in_end v_out_length c_out_data c_lengths c_lengthCodes_symbols c_lengthCodes_counts c_lengthCodes_offsets c_madeSymbols_symbols c_madeSymbols_counts c_madeSymbols_offsets c_madeDistances_symbols c_madeDistances_counts c_madeDistances_offsets) → va_S A s.heap H locs → lv_has ls 7 [(0, .ref a_this), (3, .int x3), (4, .int x4)] → W p l e Unpacker_unpack_rm s m args below meth c H locs 0 0 Q (F0 m 135 ls [.int s0]) := by
                  intro v_outStart v_farthest v_in_at v_in_end v_out_length c_out_data c_lengths c_lengthCodes_symbols c_lengthCodes_counts c_lengthCodes_offsets c_madeSymbols_symbols c_madeSymbols_counts c_madeSymbols_offsets c_madeDistances_symbols c_madeDistances_counts c_madeDistances_offsets x3 x4 s0 H locs ls hm hP hD hS hl
                  rw [Unpacker_unpack_135] at hm
                  refine lv_istore (lv' := [(6, .int s0), (0, .ref a_this), (3, .int x3), (4, .int x4)]) hx hb d_Unpacker_unpack_135 hl (by decide) rfl (fun ls hl => ?_)
                  refine lv_iload hx hb d_Unpacker_unpack_137 (lv_at hl 0 rfl) ?_
                  refine lv_if_ne (tgt := 144) hx hb d_Unpacker_unpack_139 (by decide) (fun c139 => ?_) (fun c139 => ?_)
                  · replace hm := mC_f hm c139
                    refine lv_iload hx hb d_Unpacker_unpack_144 (lv_at hl 3 rfl) ?_
                    refine lv_iconst (v := 1) hx hb d_Unpacker_unpack_146 (by decide) ?_
                    refine lv_icmp_ne (tgt := 155) hx hb d_Unpacker_unpack_147 (by decide) (fun c147 => ?_) (fun c147 => ?_)
                    · replace hm := mC_f hm c147
                      obtain ⟨y3_14, ey3_14⟩ : ∃ y : Int32, y = x3 + 1 := ⟨_, rfl⟩
                      replace hm := mL_e hm y3_14 ey3_14
                      refine lv_iinc (v := y3_14) (lv' := [(3, .int y3_14), (6, .int s0), (0, .ref a_this), (4, .int x4)]) hx hb d_Unpacker_unpack_155 hl (k := 2) rfl (by rw [ey3_14]; rfl) (by decide) rfl (fun ls hl => ?_)
                      refine lv_goto (tgt := 31) hx hb d_Unpacker_unpack_158 (by decide) ?_
                      exact ih_31 _ _ _ _ _ _ _ _ _ _ _ _ _ _ _ _ _ H locs ls hm hP hD hS (lv_sub hl [2, 0] rfl)
                    · replace hm := mC_t hm c147
                      exact h_150 _ _ _ _ _ _ _ _ _ _ _ _ _ _ _ _ H locs ls hm hP hD hS (lv_sub hl [1] rfl)
                  · replace hm := mC_t hm c139
                    refine lv_iconst (v := 0) hx hb d_Unpacker_unpack_142 (by decide) ?_
                    replace hm := Option.some.inj hm
                    subst hm
                    exact hret d_Unpacker_unpack_143 (by decide) (u := (v_outStart, v_farthest, v_in_at, v_in_end, v_out_length, c_out_data, c_lengths, c_lengthCodes_symbols, c_lengthCodes_counts, c_lengthCodes_offsets, c_madeSymbols_symbols, c_madeSymbols_counts, c_madeSymbols_offsets, c_madeDistances_symbols, c_madeDistances_counts, c_madeDistances_offsets)) ⟨rfl, rfl⟩ hP hD hS
                refine lv_iload hx hb d_Unpacker_unpack_75 (lv_at hl 0 rfl) ?_
                refine lv_if_ne (tgt := 87) hx hb d_Unpacker_unpack_77 (by decide) (fun c77 => ?_) (fun c77 => ?_)
                · replace hm := mC_f hm c77
                  refine lv_iload hx hb d_Unpacker_unpack_87 (lv_at hl 0 rfl) ?_
                  refine lv_iconst (v := 1) hx hb d_Unpacker_unpack_89 (by decide) ?_
                  refine lv_icmp_ne (tgt := 108) hx hb d_Unpacker_unpack_90 (by decide) (fun c90 => ?_) (fun c90 => ?_)
                  · replace hm := mC_f hm c90
                    have h_134 : ∀ (v_outStart : Int32) (v_farthest : Int32) (v_in_at : Int32) (v_in_end : Int32) (v_out_length : Int32) (c_out_data : Nat → Int32) (c_lengths : Nat → Int32) (c_lengthCodes_symbols : Nat → Int32) (c_lengthCodes_counts : Nat → Int32) (c_lengthCodes_offsets : Nat → Int32) (c_madeSymbols_symbols : Nat → Int32) (c_madeSymbols_counts : Nat → Int32) (c_madeSymbols_offsets : Nat → Int32) (c_madeDistances_symbols : Nat → Int32) (c_madeDistances_counts : Nat → Int32) (c_madeDistances_offsets : Nat → Int32) (x3 : Int32) (x4 : Int32) (H : Heap) (locs : List Loc) (ls : Array Slot), (Unpacker_unpack_134 F (mW17 (Unpacker_unpack_31 F n_in_row_data n_out_data n_fixedSymbols_symbols n_fixedDistances_symbols n_lengthCodes_symbols n_madeSymbols_symbols n_madeDistances_symbols v_in_row_length c_in_row_data c_fixedSymbols_counts c_fixedSymbols_symbols c_fixedDistances_counts c_fixedDistances_symbols (Unpacker_unpack_150 F n_in_row_data n_out_data v_in_row_length c_in_row_data)) n_31) (Unpacker_unpack_150 F n_in_row_data n_out_data v_in_row_length c_in_row_data)) v_outStart v_farthest v_in_at v_in_end v_out_length c_out_data c_lengths c_lengthCodes_symbols c_lengthCodes_counts c_lengthCodes_offsets c_madeSymbols_symbols c_madeSymbols_counts c_madeSymbols_offsets c_madeDistances_symbols c_madeDistances_counts c_madeDistances_offsets x3 x4 = some res → va_P E.1 vwCl (Unpacker_unpack_w E a_this a_in a_out a_in_row a_in_row_data a_out_data a_fixedSymbols a_fixedSymbols_counts a_fixedSymbols_symbols a_fixedDistances a_fixedDistances_counts a_fixedDistances_symbols a_lengths a_lengthCodes a_lengthCodes_symbols a_lengthCodes_counts a_lengthCodes_offsets a_madeSymbols a_madeSymbols_symbols a_madeSymbols_counts a_madeSymbols_offsets a_madeDistances a_madeDistances_symbols a_madeDistances_counts a_madeDistances_offsets n_in_row_data n_out_data n_fixedSymbols_symbols n_fixedDistances_symbols n_lengthCodes_symbols n_madeSymbols_symbols n_madeDistances_symbols x_fixedSymbols_offsets x_fixedDistances_offsets v_in_row_length c_in_row_data c_fixedSymbols_counts c_fixedSymbols_symbols c_fixedDistances_counts c_fixedDistances_symbols v_outStart v_farthest v_in_at v_in_end v_out_length c_out_data c_lengths c_lengthCodes_symbols c_lengthCodes_counts c_lengthCodes_offsets c_madeSymbols_symbols c_madeSymbols_counts c_madeSymbols_offsets c_madeDistances_symbols c_madeDistances_counts c_madeDistances_offsets) H → va_D A (Unpacker_unpack_w E a_this a_in a_out a_in_row a_in_row_data a_out_data a_fixedSymbols a_fixedSymbols_counts a_fixedSymbols_symbols a_fixedDistances a_fixedDistances_counts a_fixedDistances_symbols a_lengths a_lengthCodes a_lengthCodes_symbols a_lengthCodes_counts a_lengthCodes_offsets a_madeSymbols a_madeSymbols_symbols a_madeSymbols_counts a_madeSymbols_offsets a_madeDistances a_madeDistances_symbols a_madeDistances_counts a_madeDistances_offsets n_in_row_data n_out_data n_fixedSymbols_symbols n_fixedDistances_symbols n_lengthCodes_symbols n_madeSymbols_symbols n_madeDistances_symbols x_fixedSymbols_offsets x_fixedDistances_offsets v_in_row_length c_in_row_data c_fixedSymbols_counts c_fixedSymbols_symbols c_fixedDistances_counts c_fixedDistances_symbols v_outStart v_farthest v_in_at v_in_end v_out_length c_out_data c_lengths c_lengthCodes_symbols c_lengthCodes_counts c_lengthCodes_offsets c_madeSymbols_symbols c_madeSymbols_counts c_madeSymbols_offsets c_madeDistances_symbols c_madeDistances_counts c_madeDistances_offsets) → va_S A s.heap H locs → lv_has ls 7 [(0, .ref a_this), (3, .int x3), (4, .int x4)] → W p l e Unpacker_unpack_rm s m args below meth c H locs 0 0 Q (F0 m 134 ls []) := by
                      intro v_outStart v_farthest v_in_at v_in_end v_out_length c_out_data c_lengths c_lengthCodes_symbols c_lengthCodes_counts c_lengthCodes_offsets c_madeSymbols_symbols c_madeSymbols_counts c_madeSymbols_offsets c_madeDistances_symbols c_madeDistances_counts c_madeDistances_offsets x3 x4 H locs ls hm hP hD hS hl
                      rw [Unpacker_unpack_134] at hm
                      refine lv_iconst (v := 0) hx hb d_Unpacker_unpack_134 (by decide) ?_
                      exact h_135 _ _ _ _ _ _ _ _ _ _ _ _ _ _ _ _ _ _ _ H locs ls hm hP hD hS hl
                    refine lv_aload_n hx hb d_Unpacker_unpack_108 rfl (lv_at hl 2 rfl) ?_
                    obtain ⟨r_26, v_in_at_15, c_lengths_16, c_lengthCodes_symbols_17, c_lengthCodes_counts_18, c_lengthCodes_offsets_19, c_madeSymbols_symbols_20, c_madeSymbols_counts_21, c_madeSymbols_offsets_22, c_madeDistances_symbols_23, c_madeDistances_counts_24, c_madeDistances_offsets_25, hc109, hm⟩ := mR11_e hm
                    refine xmi (wc := (Unpacker_makeCodes_w E a_this a_in a_in_row a_in_row_data a_lengths a_lengthCodes a_lengthCodes_symbols a_lengthCodes_counts a_lengthCodes_offsets a_madeSymbols a_madeSymbols_symbols a_madeSymbols_counts a_madeSymbols_offsets a_madeDistances a_madeDistances_symbols a_madeDistances_counts a_madeDistances_offsets n_in_row_data n_lengthCodes_symbols n_madeSymbols_symbols n_madeDistances_symbols (.ref a_out) (.ref a_fixedSymbols) (.ref a_fixedDistances) v_in_end v_in_row_length c_in_row_data v_at_12 c_lengths c_lengthCodes_symbols c_lengthCodes_counts c_lengthCodes_offsets c_madeSymbols_symbols c_madeSymbols_counts c_madeSymbols_offsets c_madeDistances_symbols c_madeDistances_counts c_madeDistances_offsets v_outStart v_farthest)) [true, true, false, true, true, false, false, false, false, false, false, false, true, true, true, true, true, true, true, true, true, true, true, true, true] [0, 1, 2, 3, 4, 5, 6, 7, 8, 9, 10, 11, 12, 13, 14, 15, 16] [0, 1, 2, 3, 4, 5, 6, 7, 8, 9, 10, 11, 12, 13, 14, 15, 16] hP hD hS hA rfl (by decide) (by decide) 17 (by decide) (fun _ => rfl) (fun hPc hDc hFc => va_runV (As := []) (rest := []) ⟨hx, hb, hml, hown, hts⟩ (c_Unpacker_makeCodes l E F H.size a_this a_in a_in_row a_in_row_data a_lengths a_lengthCodes a_lengthCodes_symbols a_lengthCodes_counts a_lengthCodes_offsets a_madeSymbols a_madeSymbols_symbols a_madeSymbols_counts a_madeSymbols_offsets a_madeDistances a_madeDistances_symbols a_madeDistances_counts a_madeDistances_offsets n_in_row_data n_lengthCodes_symbols n_madeSymbols_symbols n_madeDistances_symbols (.ref a_out) (.ref a_fixedSymbols) (.ref a_fixedDistances) v_in_end v_in_row_length c_in_row_data v_at_12 c_lengths c_lengthCodes_symbols c_lengthCodes_counts c_lengthCodes_offsets c_madeSymbols_symbols c_madeSymbols_counts c_madeSymbols_offsets c_madeDistances_symbols c_madeDistances_counts c_madeDistances_offsets v_outStart v_farthest (r_26, v_in_at_15, c_lengths_16, c_lengthCodes_symbols_17, c_lengthCodes_counts_18, c_lengthCodes_offsets_19, c_madeSymbols_symbols_20, c_madeSymbols_counts_21, c_madeSymbols_offsets_22, c_madeDistances_symbols_23, c_madeDistances_counts_24, c_madeDistances_offsets_25) hc109) (cwV 0 hts (x_gV tw_748 tw_750 tw_27 tw_76 tw_751) rfl rfl rfl (by decide +kernel) ⟨Nat.le_of_ble_eq_true rfl, Nat.le_of_ble_eq_true rfl⟩) (xPV 9 0 rfl rfl hPc hDc hFc hK hI hN hS) rfl rfl hl.1 rfl (lv_room (Nat.le_of_ble_eq_true rfl)) d_Unpacker_unpack_109 ⟨Nat.le_of_ble_eq_true rfl, Nat.le_of_ble_eq_true rfl⟩) (fun r9 u9 H locs hw hP hD hS => ?_)
                    have hw1 : r_26 = r9 := hw.1.symm
                    subst hw1
                    have hw2 : (v_in_at_15, c_lengths_16, c_lengthCodes_symbols_17, c_lengthCodes_counts_18, c_lengthCodes_offsets_19, c_madeSymbols_symbols_20, c_madeSymbols_counts_21, c_madeSymbols_offsets_22, c_madeDistances_symbols_23, c_madeDistances_counts_24, c_madeDistances_offsets_25) = u9 := hw.2.symm
                    subst hw2
                    replace hP : va_P E.1 vwCl (Unpacker_unpack_w E a_this a_in a_out a_in_row a_in_row_data a_out_data a_fixedSymbols a_fixedSymbols_counts a_fixedSymbols_symbols a_fixedDistances a_fixedDistances_counts a_fixedDistances_symbols a_lengths a_lengthCodes a_lengthCodes_symbols a_lengthCodes_counts a_lengthCodes_offsets a_madeSymbols a_madeSymbols_symbols a_madeSymbols_counts a_madeSymbols_offsets a_madeDistances a_madeDistances_symbols a_madeDistances_counts a_madeDistances_offsets n_in_row_data n_out_data n_fixedSymbols_symbols n_fixedDistances_symbols n_lengthCodes_symbols n_madeSymbols_symbols n_madeDistances_symbols x_fixedSymbols_offsets x_fixedDistances_offsets v_in_row_length c_in_row_data c_fixedSymbols_counts c_fixedSymbols_symbols c_fixedDistances_counts c_fixedDistances_symbols v_outStart v_farthest v_in_at_15 v_in_end v_out_length c_out_data c_lengths_16 c_lengthCodes_symbols_17 c_lengthCodes_counts_18 c_lengthCodes_offsets_19 c_madeSymbols_symbols_20 c_madeSymbols_counts_21 c_madeSymbols_offsets_22 c_madeDistances_symbols_23 c_madeDistances_counts_24 c_madeDistances_offsets_25) H := hP
                    replace hD : va_D A (Unpacker_unpack_w E a_this a_in a_out a_in_row a_in_row_data a_out_data a_fixedSymbols a_fixedSymbols_counts a_fixedSymbols_symbols a_fixedDistances a_fixedDistances_counts a_fixedDistances_symbols a_lengths a_lengthCodes a_lengthCodes_symbols a_lengthCodes_counts a_lengthCodes_offsets a_madeSymbols a_madeSymbols_symbols a_madeSymbols_counts a_madeSymbols_offsets a_madeDistances a_madeDistances_symbols a_madeDistances_counts a_madeDistances_offsets n_in_row_data n_out_data n_fixedSymbols_symbols n_fixedDistances_symbols n_lengthCodes_symbols n_madeSymbols_symbols n_madeDistances_symbols x_fixedSymbols_offsets x_fixedDistances_offsets v_in_row_length c_in_row_data c_fixedSymbols_counts c_fixedSymbols_symbols c_fixedDistances_counts c_fixedDistances_symbols v_outStart v_farthest v_in_at_15 v_in_end v_out_length c_out_data c_lengths_16 c_lengthCodes_symbols_17 c_lengthCodes_counts_18 c_lengthCodes_offsets_19 c_madeSymbols_symbols_20 c_madeSymbols_counts_21 c_madeSymbols_offsets_22 c_madeDistances_symbols_23 c_madeDistances_counts_24 c_madeDistances_offsets_25) := hD
                    refine lv_if_eq (tgt := 134) hx hb d_Unpacker_unpack_112 (by decide) (fun c112 => ?_) (fun c112 => ?_)
                    · replace hm := mC_t hm c112
                      exact h_134 _ _ _ _ _ _ _ _ _ _ _ _ _ _ _ _ _ _ H locs ls hm hP hD hS (lv_sub hl [2, 3, 1] rfl)
                    · replace hm := mC_f hm c112
                      refine lv_aload_n hx hb d_Unpacker_unpack_115 rfl (lv_at hl 2 rfl) ?_
                      refine lv_aload_n hx hb d_Unpacker_unpack_116 rfl (lv_at hl 2 rfl) ?_
                      refine va_get (D := E.1) (ci := 9) (v := .ref a_madeSymbols) (C := R_Unpacker) (T := F_Unpacker) (N := 10) hx hb hts i_Unpacker hown hK hP 0 rfl rfl 4 (by decide) (hts _ tw_347) (fun _ h9 => h9) rfl d_Unpacker_unpack_117 ?_
                      refine lv_aload_n hx hb d_Unpacker_unpack_120 rfl (lv_at hl 2 rfl) ?_
                      refine va_get (D := E.1) (ci := 9) (v := .ref a_madeDistances) (C := R_Unpacker) (T := F_Unpacker) (N := 10) hx hb hts i_Unpacker hown hK hP 0 rfl rfl 5 (by decide) (hts _ tw_348) (fun _ h9 => h9) rfl d_Unpacker_unpack_121 ?_
                      obtain ⟨r_30, v_in_at_27, v_out_length_28, c_out_data_29, hc124, hm⟩ := mR3_e hm
                      refine xmi (wc := (Unpacker_followSymbols_w E a_this a_in a_in_row a_in_row_data a_madeSymbols a_madeSymbols_counts a_madeSymbols_symbols a_out a_out_data a_madeDistances a_madeDistances_counts a_madeDistances_symbols n_in_row_data n_madeSymbols_symbols n_out_data n_madeDistances_symbols (.ref a_fixedSymbols) (.ref a_fixedDistances) (.ref a_madeSymbols) (.ref a_madeDistances) (.ref a_lengthCodes) (.ref a_lengths) (.ref a_madeSymbols_offsets) (.ref a_madeDistances_offsets) v_outStart v_farthest v_in_end v_in_row_length c_in_row_data c_madeSymbols_counts_21 c_madeSymbols_symbols_20 c_madeDistances_counts_24 c_madeDistances_symbols_23 v_in_at_15 v_out_length c_out_data)) [true, true, true, true, true, true, false, false, false, false, false, false, false, false, false, false, false, true, true, true, false, true, true, true, false] [0, 1, 3, 4, 6, 8, 7, 2, 5, 9, 11, 10] [0, 1, 7, 2, 3, 8, 4, 6, 5, 9, 11, 10] hP hD hS hA rfl (by decide) (by decide) 12 (by decide) (fun _ => rfl) (fun hPc hDc hFc => va_runV (As := [.ref a_madeSymbols, .ref a_madeDistances]) (rest := []) ⟨hx, hb, hml, hown, hts⟩ (c_Unpacker_followSymbols l E F H.size a_this a_in a_in_row a_in_row_data a_madeSymbols a_madeSymbols_counts a_madeSymbols_symbols a_out a_out_data a_madeDistances a_madeDistances_counts a_madeDistances_symbols n_in_row_data n_madeSymbols_symbols n_out_data n_madeDistances_symbols (.ref a_fixedSymbols) (.ref a_fixedDistances) (.ref a_madeSymbols) (.ref a_madeDistances) (.ref a_lengthCodes) (.ref a_lengths) (.ref a_madeSymbols_offsets) (.ref a_madeDistances_offsets) v_outStart v_farthest v_in_end v_in_row_length c_in_row_data c_madeSymbols_counts_21 c_madeSymbols_symbols_20 c_madeDistances_counts_24 c_madeDistances_symbols_23 v_in_at_15 v_out_length c_out_data (r_30, v_in_at_27, v_out_length_28, c_out_data_29) hc124) (cwV 2 hts (x_gV tw_730 tw_732 tw_25 tw_76 tw_733) rfl rfl rfl (by decide +kernel) ⟨Nat.le_of_ble_eq_true rfl, Nat.le_of_ble_eq_true rfl⟩) (xPV 9 0 rfl rfl hPc hDc hFc hK hI hN hS) rfl rfl hl.1 rfl (lv_room (Nat.le_of_ble_eq_true rfl)) d_Unpacker_unpack_124 ⟨Nat.le_of_ble_eq_true rfl, Nat.le_of_ble_eq_true rfl⟩) (fun r9 u9 H locs hw hP hD hS => ?_)
                      have hw1 : r_30 = r9 := hw.1.symm
                      subst hw1
                      have hw2 : (v_in_at_27, v_out_length_28, c_out_data_29) = u9 := hw.2.symm
                      subst hw2
                      replace hP : va_P E.1 vwCl (Unpacker_unpack_w E a_this a_in a_out a_in_row a_in_row_data a_out_data a_fixedSymbols a_fixedSymbols_counts a_fixedSymbols_symbols a_fixedDistances a_fixedDistances_counts a_fixedDistances_symbols a_lengths a_lengthCodes a_lengthCodes_symbols a_lengthCodes_counts a_lengthCodes_offsets a_madeSymbols a_madeSymbols_symbols a_madeSymbols_counts a_madeSymbols_offsets a_madeDistances a_madeDistances_symbols a_madeDistances_counts a_madeDistances_offsets n_in_row_data n_out_data n_fixedSymbols_symbols n_fixedDistances_symbols n_lengthCodes_symbols n_madeSymbols_symbols n_madeDistances_symbols x_fixedSymbols_offsets x_fixedDistances_offsets v_in_row_length c_in_row_data c_fixedSymbols_counts c_fixedSymbols_symbols c_fixedDistances_counts c_fixedDistances_symbols v_outStart v_farthest v_in_at_27 v_in_end v_out_length_28 c_out_data_29 c_lengths_16 c_lengthCodes_symbols_17 c_lengthCodes_counts_18 c_lengthCodes_offsets_19 c_madeSymbols_symbols_20 c_madeSymbols_counts_21 c_madeSymbols_offsets_22 c_madeDistances_symbols_23 c_madeDistances_counts_24 c_madeDistances_offsets_25) H := hP
                      replace hD : va_D A (Unpacker_unpack_w E a_this a_in a_out a_in_row a_in_row_data a_out_data a_fixedSymbols a_fixedSymbols_counts a_fixedSymbols_symbols a_fixedDistances a_fixedDistances_counts a_fixedDistances_symbols a_lengths a_lengthCodes a_lengthCodes_symbols a_lengthCodes_counts a_lengthCodes_offsets a_madeSymbols a_madeSymbols_symbols a_madeSymbols_counts a_madeSymbols_offsets a_madeDistances a_madeDistances_symbols a_madeDistances_counts a_madeDistances_offsets n_in_row_data n_out_data n_fixedSymbols_symbols n_fixedDistances_symbols n_lengthCodes_symbols n_madeSymbols_symbols n_madeDistances_symbols x_fixedSymbols_offsets x_fixedDistances_offsets v_in_row_length c_in_row_data c_fixedSymbols_counts c_fixedSymbols_symbols c_fixedDistances_counts c_fixedDistances_symbols v_outStart v_farthest v_in_at_27 v_in_end v_out_length_28 c_out_data_29 c_lengths_16 c_lengthCodes_symbols_17 c_lengthCodes_counts_18 c_lengthCodes_offsets_19 c_madeSymbols_symbols_20 c_madeSymbols_counts_21 c_madeSymbols_offsets_22 c_madeDistances_symbols_23 c_madeDistances_counts_24 c_madeDistances_offsets_25) := hD
                      refine lv_if_eq (tgt := 134) hx hb d_Unpacker_unpack_127 (by decide) (fun c127 => ?_) (fun c127 => ?_)
                      · replace hm := mC_t hm c127
                        exact h_134 _ _ _ _ _ _ _ _ _ _ _ _ _ _ _ _ _ _ H locs ls hm hP hD hS (lv_sub hl [2, 3, 1] rfl)
                      · replace hm := mC_f hm c127
                        refine lv_iconst (v := 1) hx hb d_Unpacker_unpack_130 (by decide) ?_
                        refine lv_goto (tgt := 135) hx hb d_Unpacker_unpack_131 (by decide) ?_
                        exact h_135 _ _ _ _ _ _ _ _ _ _ _ _ _ _ _ _ _ _ _ H locs ls hm hP hD hS (lv_sub hl [2, 3, 1] rfl)
                  · replace hm := mC_t hm c90
                    refine lv_aload_n hx hb d_Unpacker_unpack_93 rfl (lv_at hl 2 rfl) ?_
                    refine lv_aload_n hx hb d_Unpacker_unpack_94 rfl (lv_at hl 2 rfl) ?_
                    refine va_get (D := E.1) (ci := 9) (v := .ref a_fixedSymbols) (C := R_Unpacker) (T := F_Unpacker) (N := 10) hx hb hts i_Unpacker hown hK hP 0 rfl rfl 2 (by decide) (hts _ tw_345) (fun _ h9 => h9) rfl d_Unpacker_unpack_95 ?_
                    refine lv_aload_n hx hb d_Unpacker_unpack_98 rfl (lv_at hl 2 rfl) ?_
                    refine va_get (D := E.1) (ci := 9) (v := .ref a_fixedDistances) (C := R_Unpacker) (T := F_Unpacker) (N := 10) hx hb hts i_Unpacker hown hK hP 0 rfl rfl 3 (by decide) (hts _ tw_346) (fun _ h9 => h9) rfl d_Unpacker_unpack_99 ?_
                    obtain ⟨r_34, v_in_at_31, v_out_length_32, c_out_data_33, hc102, hm⟩ := mR3_e hm
                    refine xmi (wc := (Unpacker_followSymbols_w E a_this a_in a_in_row a_in_row_data a_fixedSymbols a_fixedSymbols_counts a_fixedSymbols_symbols a_out a_out_data a_fixedDistances a_fixedDistances_counts a_fixedDistances_symbols n_in_row_data n_fixedSymbols_symbols n_out_data n_fixedDistances_symbols (.ref a_fixedSymbols) (.ref a_fixedDistances) (.ref a_madeSymbols) (.ref a_madeDistances) (.ref a_lengthCodes) (.ref a_lengths) x_fixedSymbols_offsets x_fixedDistances_offsets v_outStart v_farthest v_in_end v_in_row_length c_in_row_data c_fixedSymbols_counts c_fixedSymbols_symbols c_fixedDistances_counts c_fixedDistances_symbols v_at_12 v_out_length c_out_data)) [true, true, true, true, true, true, true, true, true, true, true, true, false, false, false, false, false, false, false, false, false, false, false, false, false] [0, 1, 3, 4, 6, 7, 8, 2, 5, 9, 10, 11] [0, 1, 7, 2, 3, 8, 4, 5, 6, 9, 10, 11] hP hD hS hA rfl (by decide) (by decide) 12 (by decide) (fun _ => rfl) (fun hPc hDc hFc => va_runV (As := [.ref a_fixedSymbols, .ref a_fixedDistances]) (rest := []) ⟨hx, hb, hml, hown, hts⟩ (c_Unpacker_followSymbols l E F H.size a_this a_in a_in_row a_in_row_data a_fixedSymbols a_fixedSymbols_counts a_fixedSymbols_symbols a_out a_out_data a_fixedDistances a_fixedDistances_counts a_fixedDistances_symbols n_in_row_data n_fixedSymbols_symbols n_out_data n_fixedDistances_symbols (.ref a_fixedSymbols) (.ref a_fixedDistances) (.ref a_madeSymbols) (.ref a_madeDistances) (.ref a_lengthCodes) (.ref a_lengths) x_fixedSymbols_offsets x_fixedDistances_offsets v_outStart v_farthest v_in_end v_in_row_length c_in_row_data c_fixedSymbols_counts c_fixedSymbols_symbols c_fixedDistances_counts c_fixedDistances_symbols v_at_12 v_out_length c_out_data (r_34, v_in_at_31, v_out_length_32, c_out_data_33) hc102) (cwV 2 hts (x_gV tw_730 tw_732 tw_25 tw_76 tw_733) rfl rfl rfl (by decide +kernel) ⟨Nat.le_of_ble_eq_true rfl, Nat.le_of_ble_eq_true rfl⟩) (xPV 9 0 rfl rfl hPc hDc hFc hK hI hN hS) rfl rfl hl.1 rfl (lv_room (Nat.le_of_ble_eq_true rfl)) d_Unpacker_unpack_102 ⟨Nat.le_of_ble_eq_true rfl, Nat.le_of_ble_eq_true rfl⟩) (fun r9 u9 H locs hw hP hD hS => ?_)
                    have hw1 : r_34 = r9 := hw.1.symm
                    subst hw1
                    have hw2 : (v_in_at_31, v_out_length_32, c_out_data_33) = u9 := hw.2.symm
                    subst hw2
                    replace hP : va_P E.1 vwCl (Unpacker_unpack_w E a_this a_in a_out a_in_row a_in_row_data a_out_data a_fixedSymbols a_fixedSymbols_counts a_fixedSymbols_symbols a_fixedDistances a_fixedDistances_counts a_fixedDistances_symbols a_lengths a_lengthCodes a_lengthCodes_symbols a_lengthCodes_counts a_lengthCodes_offsets a_madeSymbols a_madeSymbols_symbols a_madeSymbols_counts a_madeSymbols_offsets a_madeDistances a_madeDistances_symbols a_madeDistances_counts a_madeDistances_offsets n_in_row_data n_out_data n_fixedSymbols_symbols n_fixedDistances_symbols n_lengthCodes_symbols n_madeSymbols_symbols n_madeDistances_symbols x_fixedSymbols_offsets x_fixedDistances_offsets v_in_row_length c_in_row_data c_fixedSymbols_counts c_fixedSymbols_symbols c_fixedDistances_counts c_fixedDistances_symbols v_outStart v_farthest v_in_at_31 v_in_end v_out_length_32 c_out_data_33 c_lengths c_lengthCodes_symbols c_lengthCodes_counts c_lengthCodes_offsets c_madeSymbols_symbols c_madeSymbols_counts c_madeSymbols_offsets c_madeDistances_symbols c_madeDistances_counts c_madeDistances_offsets) H := hP
                    replace hD : va_D A (Unpacker_unpack_w E a_this a_in a_out a_in_row a_in_row_data a_out_data a_fixedSymbols a_fixedSymbols_counts a_fixedSymbols_symbols a_fixedDistances a_fixedDistances_counts a_fixedDistances_symbols a_lengths a_lengthCodes a_lengthCodes_symbols a_lengthCodes_counts a_lengthCodes_offsets a_madeSymbols a_madeSymbols_symbols a_madeSymbols_counts a_madeSymbols_offsets a_madeDistances a_madeDistances_symbols a_madeDistances_counts a_madeDistances_offsets n_in_row_data n_out_data n_fixedSymbols_symbols n_fixedDistances_symbols n_lengthCodes_symbols n_madeSymbols_symbols n_madeDistances_symbols x_fixedSymbols_offsets x_fixedDistances_offsets v_in_row_length c_in_row_data c_fixedSymbols_counts c_fixedSymbols_symbols c_fixedDistances_counts c_fixedDistances_symbols v_outStart v_farthest v_in_at_31 v_in_end v_out_length_32 c_out_data_33 c_lengths c_lengthCodes_symbols c_lengthCodes_counts c_lengthCodes_offsets c_madeSymbols_symbols c_madeSymbols_counts c_madeSymbols_offsets c_madeDistances_symbols c_madeDistances_counts c_madeDistances_offsets) := hD
                    refine lv_goto (tgt := 135) hx hb d_Unpacker_unpack_105 (by decide) ?_
                    exact h_135 _ _ _ _ _ _ _ _ _ _ _ _ _ _ _ _ _ _ _ H locs ls hm hP hD hS (lv_sub hl [2, 3, 1] rfl)
                · replace hm := mC_t hm c77
                  refine lv_aload_n hx hb d_Unpacker_unpack_80 rfl (lv_at hl 2 rfl) ?_
                  obtain ⟨r_38, v_in_at_35, v_out_length_36, c_out_data_37, hc81, hm⟩ := mR3_e hm
                  refine xmi (wc := (Unpacker_copyStored_w E a_this a_in a_in_row a_in_row_data a_out a_out_data n_in_row_data n_out_data (.ref a_fixedSymbols) (.ref a_fixedDistances) (.ref a_madeSymbols) (.ref a_madeDistances) (.ref a_lengthCodes) (.ref a_lengths) v_outStart v_in_end v_in_row_length c_in_row_data v_at_12 v_out_length c_out_data v_farthest)) [true, true, true, true, true, true, false, false, false, false, false, false, false, false, false, false, false, false, false, false, false, false, false, false, false] [0, 1, 3, 4, 2, 5] [0, 1, 4, 2, 3, 5] hP hD hS hA rfl (by decide) (by decide) 6 (by decide) (fun _ => rfl) (fun hPc hDc hFc => va_runV (As := []) (rest := []) ⟨hx, hb, hml, hown, hts⟩ (c_Unpacker_copyStored l E F H.size a_this a_in a_in_row a_in_row_data a_out a_out_data n_in_row_data n_out_data (.ref a_fixedSymbols) (.ref a_fixedDistances) (.ref a_madeSymbols) (.ref a_madeDistances) (.ref a_lengthCodes) (.ref a_lengths) v_outStart v_in_end v_in_row_length c_in_row_data v_at_12 v_out_length c_out_data v_farthest (r_38, v_in_at_35, v_out_length_36, c_out_data_37) hc81) (cwV 0 hts (x_gV tw_712 tw_714 tw_23 tw_76 tw_715) rfl rfl rfl (by decide +kernel) ⟨Nat.le_of_ble_eq_true rfl, Nat.le_of_ble_eq_true rfl⟩) (xPV 9 0 rfl rfl hPc hDc hFc hK hI hN hS) rfl rfl hl.1 rfl (lv_room (Nat.le_of_ble_eq_true rfl)) d_Unpacker_unpack_81 ⟨Nat.le_of_ble_eq_true rfl, Nat.le_of_ble_eq_true rfl⟩) (fun r9 u9 H locs hw hP hD hS => ?_)
                  have hw1 : r_38 = r9 := hw.1.symm
                  subst hw1
                  have hw2 : (v_in_at_35, v_out_length_36, c_out_data_37) = u9 := hw.2.symm
                  subst hw2
                  replace hP : va_P E.1 vwCl (Unpacker_unpack_w E a_this a_in a_out a_in_row a_in_row_data a_out_data a_fixedSymbols a_fixedSymbols_counts a_fixedSymbols_symbols a_fixedDistances a_fixedDistances_counts a_fixedDistances_symbols a_lengths a_lengthCodes a_lengthCodes_symbols a_lengthCodes_counts a_lengthCodes_offsets a_madeSymbols a_madeSymbols_symbols a_madeSymbols_counts a_madeSymbols_offsets a_madeDistances a_madeDistances_symbols a_madeDistances_counts a_madeDistances_offsets n_in_row_data n_out_data n_fixedSymbols_symbols n_fixedDistances_symbols n_lengthCodes_symbols n_madeSymbols_symbols n_madeDistances_symbols x_fixedSymbols_offsets x_fixedDistances_offsets v_in_row_length c_in_row_data c_fixedSymbols_counts c_fixedSymbols_symbols c_fixedDistances_counts c_fixedDistances_symbols v_outStart v_farthest v_in_at_35 v_in_end v_out_length_36 c_out_data_37 c_lengths c_lengthCodes_symbols c_lengthCodes_counts c_lengthCodes_offsets c_madeSymbols_symbols c_madeSymbols_counts c_madeSymbols_offsets c_madeDistances_symbols c_madeDistances_counts c_madeDistances_offsets) H := hP
                  replace hD : va_D A (Unpacker_unpack_w E a_this a_in a_out a_in_row a_in_row_data a_out_data a_fixedSymbols a_fixedSymbols_counts a_fixedSymbols_symbols a_fixedDistances a_fixedDistances_counts a_fixedDistances_symbols a_lengths a_lengthCodes a_lengthCodes_symbols a_lengthCodes_counts a_lengthCodes_offsets a_madeSymbols a_madeSymbols_symbols a_madeSymbols_counts a_madeSymbols_offsets a_madeDistances a_madeDistances_symbols a_madeDistances_counts a_madeDistances_offsets n_in_row_data n_out_data n_fixedSymbols_symbols n_fixedDistances_symbols n_lengthCodes_symbols n_madeSymbols_symbols n_madeDistances_symbols x_fixedSymbols_offsets x_fixedDistances_offsets v_in_row_length c_in_row_data c_fixedSymbols_counts c_fixedSymbols_symbols c_fixedDistances_counts c_fixedDistances_symbols v_outStart v_farthest v_in_at_35 v_in_end v_out_length_36 c_out_data_37 c_lengths c_lengthCodes_symbols c_lengthCodes_counts c_lengthCodes_offsets c_madeSymbols_symbols c_madeSymbols_counts c_madeSymbols_offsets c_madeDistances_symbols c_madeDistances_counts c_madeDistances_offsets) := hD
                  refine lv_goto (tgt := 135) hx hb d_Unpacker_unpack_84 (by decide) ?_
                  exact h_135 _ _ _ _ _ _ _ _ _ _ _ _ _ _ _ _ _ _ _ H locs ls hm hP hD hS (lv_sub hl [2, 3, 1] rfl)
              · replace hm := mC_f hm c70
                refine lv_iconst (v := 0) hx hb d_Unpacker_unpack_73 (by decide) ?_
                replace hm := Option.some.inj hm
                subst hm
                exact hret d_Unpacker_unpack_74 (by decide) (u := (v_outStart, v_farthest, v_at_12, v_in_end, v_out_length, c_out_data, c_lengths, c_lengthCodes_symbols, c_lengthCodes_counts, c_lengthCodes_offsets, c_madeSymbols_symbols, c_madeSymbols_counts, c_madeSymbols_offsets, c_madeDistances_symbols, c_madeDistances_counts, c_madeDistances_offsets)) ⟨rfl, rfl⟩ hP hD hS
    refine lv_iconst (v := 0) hx hb d_Unpacker_unpack_29 (by decide) ?_
    refine lv_istore_n (lv' := [(3, .int 0), (0, .ref a_this), (1, .int x1), (2, .int x2)]) hx hb d_Unpacker_unpack_30 rfl hl (by decide) rfl (fun ls hl => ?_)
    exact h_31 F _ _ _ _ _ _ _ _ _ _ _ _ _ _ _ _ _ H locs ls hm hP hD hS (lv_sub hl [1, 0] rfl)
  · replace hm := mC_t hm c24
    refine lv_iconst (v := 0) hx hb d_Unpacker_unpack_27 (by decide) ?_
    replace hm := Option.some.inj hm
    subst hm
    exact hret d_Unpacker_unpack_28 (by decide) (u := (r_4, v_farthest_5, v_in_at_6, v_end_2, v_out_length, c_out_data, c_lengths, c_lengthCodes_symbols, c_lengthCodes_counts, c_lengthCodes_offsets, c_madeSymbols_symbols, c_madeSymbols_counts, c_madeSymbols_offsets, c_madeDistances_symbols, c_madeDistances_counts, c_madeDistances_offsets)) ⟨rfl, rfl⟩ hP hD hS
