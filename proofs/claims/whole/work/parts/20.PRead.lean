theorem d_P_begin_0 : decode b_P_begin 0 = .ok (.aload_n 0, 1) := by decide +kernel
theorem d_P_begin_1 : decode b_P_begin 1 = .ok (.iload_n 1, 1) := by decide +kernel
theorem d_P_begin_2 : decode b_P_begin 2 = .ok (.putfield 48, 3) := by decide +kernel
theorem d_P_begin_5 : decode b_P_begin 5 = .ok (.aload_n 0, 1) := by decide +kernel
theorem d_P_begin_6 : decode b_P_begin 6 = .ok (.iconst 0, 1) := by decide +kernel
theorem d_P_begin_7 : decode b_P_begin 7 = .ok (.putfield 52, 3) := by decide +kernel
theorem d_P_begin_10 : decode b_P_begin 10 = .ok (.aload_n 0, 1) := by decide +kernel
theorem d_P_begin_11 : decode b_P_begin 11 = .ok (.iconst 0, 1) := by decide +kernel
theorem d_P_begin_12 : decode b_P_begin 12 = .ok (.putfield 55, 3) := by decide +kernel
theorem d_P_begin_15 : decode b_P_begin 15 = .ok (.aload_n 0, 1) := by decide +kernel
theorem d_P_begin_16 : decode b_P_begin 16 = .ok (.getfield 14, 3) := by decide +kernel
theorem d_P_begin_19 : decode b_P_begin 19 = .ok (.iconst 0, 1) := by decide +kernel
theorem d_P_begin_20 : decode b_P_begin 20 = .ok (.invokevirtual 59, 3) := by decide +kernel
theorem d_P_begin_23 : decode b_P_begin 23 = .ok (.aload_n 0, 1) := by decide +kernel
theorem d_P_begin_24 : decode b_P_begin 24 = .ok (.getfield 19, 3) := by decide +kernel
theorem d_P_begin_27 : decode b_P_begin 27 = .ok (.iconst 0, 1) := by decide +kernel
theorem d_P_begin_28 : decode b_P_begin 28 = .ok (.invokevirtual 59, 3) := by decide +kernel
theorem d_P_begin_31 : decode b_P_begin 31 = .ok (.return_, 1) := by decide +kernel
abbrev P_begin_w (E : xE) (a_this : Nat) (a_piece : Nat) (a_image : Nat) (x_packer : Value) (x_known : Value) (x_knownStarts : Value) (x_unpacker : Value) (x_piece_data : Value) (x_image_data : Value) (v_pieces : Int32) (v_plain : Int32) (v_closed : Int32) (v_piece_length : Int32) (v_image_length : Int32) (v_knownPieces : Int32) : va_W := [(a_this, .inr (10, [.ref a_piece, .ref a_image, x_packer, .int v_pieces, .int v_plain, .int v_closed, x_known, x_knownStarts, x_unpacker, .int v_knownPieces])), (a_piece, .inr (2, [x_piece_data, .int v_piece_length])), (a_image, .inr (2, [x_image_data, .int v_image_length]))]
def P_begin (F : Nat) (v_pieces : Int32) (v_plain : Int32) (v_closed : Int32) (v_piece_length : Int32) (v_image_length : Int32) (x1 : Int32) : Option (Unit × Int32 × Int32 × Int32 × Int32 × Int32) :=
  mZ x1 (mR1 (Bytes_keep F v_piece_length 0) fun _ v_length_1 => mR1 (Bytes_keep F v_image_length 0) fun _ v_length_3 => some ((), 0, x1, 0, v_length_1, v_length_3))
abbrev P_begin_rm : Room := { frames := 1, cells := 0, slots := 0, locals := 21 }
set_option maxHeartbeats 4000000 in
set_option maxRecDepth 100000 in
theorem c_P_begin (l : Launch) (E : xE) (F sz : Nat) (a_this : Nat) (a_piece : Nat) (a_image : Nat) (x_packer : Value) (x_known : Value) (x_knownStarts : Value) (x_unpacker : Value) (x_piece_data : Value) (x_image_data : Value) (v_pieces : Int32) (v_plain : Int32) (v_closed : Int32) (v_piece_length : Int32) (v_image_length : Int32) (v_knownPieces : Int32) (x1 : Int32) (res : Unit × Int32 × Int32 × Int32 × Int32 × Int32) (hm : P_begin F v_pieces v_plain v_closed v_piece_length v_image_length x1 = some res) : Met l y_P_begin (Cond.code y_P_begin b_P_begin 2 none :: x_tb) P_begin_rm (va_Pc [.ref a_this, .int x1] (xPre E (P_begin_w E a_this a_piece a_image x_packer x_known x_knownStarts x_unpacker x_piece_data x_image_data v_pieces v_plain v_closed v_piece_length v_image_length v_knownPieces) sz)) (xQv E (fun (u : Int32 × Int32 × Int32 × Int32 × Int32) => u = res.2) (fun (u : Int32 × Int32 × Int32 × Int32 × Int32) => (P_begin_w E a_this a_piece a_image x_packer x_known x_knownStarts x_unpacker x_piece_data x_image_data u.1 u.2.1 u.2.2.1 u.2.2.2.1 u.2.2.2.2 v_knownPieces)) (va_A (P_begin_w E a_this a_piece a_image x_packer x_known x_knownStarts x_unpacker x_piece_data x_image_data v_pieces v_plain v_closed v_piece_length v_image_length v_knownPieces) sz)) 0 0 (va_A (P_begin_w E a_this a_piece a_image x_packer x_known x_knownStarts x_unpacker x_piece_data x_image_data v_pieces v_plain v_closed v_piece_length v_image_length v_knownPieces) sz) := by
  refine xEnV (by decide) (Nat.le_of_ble_eq_true rfl) ?_
  intro p e s m args below meth c A ls Q hx hb hnm hts hown hml hK hA hI hN hret hP hD hS hl
  replace hown : s.vm.findClass R_P = some m.cls := hown
  replace hl : lv_has ls 2 [(0, .ref a_this), (1, .int x1)] := hl
  obtain ⟨H, eH⟩ : ∃ z, z = s.heap := ⟨_, rfl⟩
  obtain ⟨locs, eL⟩ : ∃ z : List Loc, z = [] := ⟨_, rfl⟩
  rw [show W p l e P_begin_rm s m args below meth c s.heap [] 0 0 Q (F0 m 0 ls []) = W p l e P_begin_rm s m args below meth c H locs 0 0 Q (F0 m 0 ls []) by rw [eH, eL]]
  replace hP : va_P E.1 vwCl (P_begin_w E a_this a_piece a_image x_packer x_known x_knownStarts x_unpacker x_piece_data x_image_data v_pieces v_plain v_closed v_piece_length v_image_length v_knownPieces) H := by rw [eH]; exact hP
  replace hS : va_S A s.heap H locs := by rw [eH, eL]; exact hS
  clear eH eL
  rw [P_begin] at hm
  refine lv_aload_n hx hb d_P_begin_0 rfl (lv_at hl 0 rfl) ?_
  refine lv_iload_n hx hb d_P_begin_1 rfl (lv_at hl 1 rfl) ?_
  obtain ⟨hz2, hm⟩ := mZ_e hm
  refine va_put (D := E.1) (ci := 10) (v := .int x1) (ty := .boolean) (C := R_P) (T := F_P) (N := 10) hx hb hts i_P t_P t_P_ok n_P hown hK hP hD hS 0 rfl rfl 4 (by decide) (hts _ tw_378) (fun _ h9 => h9) rfl (by decide +kernel) (xnz hz2) (xfz hz2) (Nat.le_of_ble_eq_true rfl) d_P_begin_2 (fun H locs hP hD hS => ?_)
  replace hP : va_P E.1 vwCl (P_begin_w E a_this a_piece a_image x_packer x_known x_knownStarts x_unpacker x_piece_data x_image_data v_pieces x1 v_closed v_piece_length v_image_length v_knownPieces) H := hP
  replace hD : va_D A (P_begin_w E a_this a_piece a_image x_packer x_known x_knownStarts x_unpacker x_piece_data x_image_data v_pieces x1 v_closed v_piece_length v_image_length v_knownPieces) := hD
  refine lv_aload_n hx hb d_P_begin_5 rfl (lv_at hl 0 rfl) ?_
  refine lv_iconst (v := 0) hx hb d_P_begin_6 (by decide) ?_
  refine va_put (D := E.1) (ci := 10) (v := .int 0) (ty := .boolean) (C := R_P) (T := F_P) (N := 10) hx hb hts i_P t_P t_P_ok n_P hown hK hP hD hS 0 rfl rfl 5 (by decide) (hts _ tw_379) (fun _ h9 => h9) rfl (by decide +kernel) rfl rfl (Nat.le_of_ble_eq_true rfl) d_P_begin_7 (fun H locs hP hD hS => ?_)
  replace hP : va_P E.1 vwCl (P_begin_w E a_this a_piece a_image x_packer x_known x_knownStarts x_unpacker x_piece_data x_image_data v_pieces x1 0 v_piece_length v_image_length v_knownPieces) H := hP
  replace hD : va_D A (P_begin_w E a_this a_piece a_image x_packer x_known x_knownStarts x_unpacker x_piece_data x_image_data v_pieces x1 0 v_piece_length v_image_length v_knownPieces) := hD
  refine lv_aload_n hx hb d_P_begin_10 rfl (lv_at hl 0 rfl) ?_
  refine lv_iconst (v := 0) hx hb d_P_begin_11 (by decide) ?_
  refine va_put (D := E.1) (ci := 10) (v := .int 0) (ty := .int) (C := R_P) (T := F_P) (N := 10) hx hb hts i_P t_P t_P_ok n_P hown hK hP hD hS 0 rfl rfl 3 (by decide) (hts _ tw_377) (fun _ h9 => h9) rfl (by decide +kernel) rfl rfl (Nat.le_of_ble_eq_true rfl) d_P_begin_12 (fun H locs hP hD hS => ?_)
  replace hP : va_P E.1 vwCl (P_begin_w E a_this a_piece a_image x_packer x_known x_knownStarts x_unpacker x_piece_data x_image_data 0 x1 0 v_piece_length v_image_length v_knownPieces) H := hP
  replace hD : va_D A (P_begin_w E a_this a_piece a_image x_packer x_known x_knownStarts x_unpacker x_piece_data x_image_data 0 x1 0 v_piece_length v_image_length v_knownPieces) := hD
  refine lv_aload_n hx hb d_P_begin_15 rfl (lv_at hl 0 rfl) ?_
  refine va_get (D := E.1) (ci := 10) (v := .ref a_piece) (C := R_P) (T := F_P) (N := 10) hx hb hts i_P hown hK hP 0 rfl rfl 0 (by decide) (hts _ tw_374) (fun _ h9 => h9) rfl d_P_begin_16 ?_
  refine lv_iconst (v := 0) hx hb d_P_begin_19 (by decide) ?_
  obtain ⟨r_2, v_length_1, hc20, hm⟩ := mR1_e hm
  refine xmv (wc := (Bytes_keep_w E a_piece x_piece_data v_piece_length)) [false, true, false] [0] [0] hP hD hS hA rfl (by decide) (by decide) 1 (by decide) (fun _ => rfl) (fun hPc hDc hFc => va_runV (As := [.int 0]) (rest := []) ⟨hx, hb, hml, hown, hts⟩ (c_Bytes_keep l E F H.size a_piece x_piece_data v_piece_length 0 (r_2, v_length_1) hc20) (cwV 1 hts (x_gV tw_409 tw_410 tw_411 tw_67 tw_412) rfl rfl rfl (by decide +kernel) ⟨Nat.le_of_ble_eq_true rfl, Nat.le_of_ble_eq_true rfl⟩) (xPV 2 0 rfl rfl hPc hDc hFc hK hI hN hS) rfl rfl hl.1 rfl (lv_room (Nat.le_of_ble_eq_true rfl)) d_P_begin_20 ⟨Nat.le_of_ble_eq_true rfl, Nat.le_of_ble_eq_true rfl⟩) (fun u9 H locs hw hP hD hS => ?_)
  have hw2 : v_length_1 = u9 := hw.symm
  subst hw2
  replace hP : va_P E.1 vwCl (P_begin_w E a_this a_piece a_image x_packer x_known x_knownStarts x_unpacker x_piece_data x_image_data 0 x1 0 v_length_1 v_image_length v_knownPieces) H := hP
  replace hD : va_D A (P_begin_w E a_this a_piece a_image x_packer x_known x_knownStarts x_unpacker x_piece_data x_image_data 0 x1 0 v_length_1 v_image_length v_knownPieces) := hD
  refine lv_aload_n hx hb d_P_begin_23 rfl (lv_at hl 0 rfl) ?_
  refine va_get (D := E.1) (ci := 10) (v := .ref a_image) (C := R_P) (T := F_P) (N := 10) hx hb hts i_P hown hK hP 0 rfl rfl 1 (by decide) (hts _ tw_375) (fun _ h9 => h9) rfl d_P_begin_24 ?_
  refine lv_iconst (v := 0) hx hb d_P_begin_27 (by decide) ?_
  obtain ⟨r_4, v_length_3, hc28, hm⟩ := mR1_e hm
  refine xmv (wc := (Bytes_keep_w E a_image x_image_data v_image_length)) [false, false, true] [0] [0] hP hD hS hA rfl (by decide) (by decide) 1 (by decide) (fun _ => rfl) (fun hPc hDc hFc => va_runV (As := [.int 0]) (rest := []) ⟨hx, hb, hml, hown, hts⟩ (c_Bytes_keep l E F H.size a_image x_image_data v_image_length 0 (r_4, v_length_3) hc28) (cwV 1 hts (x_gV tw_409 tw_410 tw_411 tw_67 tw_412) rfl rfl rfl (by decide +kernel) ⟨Nat.le_of_ble_eq_true rfl, Nat.le_of_ble_eq_true rfl⟩) (xPV 2 0 rfl rfl hPc hDc hFc hK hI hN hS) rfl rfl hl.1 rfl (lv_room (Nat.le_of_ble_eq_true rfl)) d_P_begin_28 ⟨Nat.le_of_ble_eq_true rfl, Nat.le_of_ble_eq_true rfl⟩) (fun u9 H locs hw hP hD hS => ?_)
  have hw2 : v_length_3 = u9 := hw.symm
  subst hw2
  replace hP : va_P E.1 vwCl (P_begin_w E a_this a_piece a_image x_packer x_known x_knownStarts x_unpacker x_piece_data x_image_data 0 x1 0 v_length_1 v_length_3 v_knownPieces) H := hP
  replace hD : va_D A (P_begin_w E a_this a_piece a_image x_packer x_known x_knownStarts x_unpacker x_piece_data x_image_data 0 x1 0 v_length_1 v_length_3 v_knownPieces) := hD
  replace hm := Option.some.inj hm
  subst hm
  exact hret d_P_begin_31 (u := (0, x1, 0, v_length_1, v_length_3)) rfl hP hD hS
theorem d_P_reference_0 : decode b_P_reference 0 = .ok (.aload_n 0, 1) := by decide +kernel
theorem d_P_reference_1 : decode b_P_reference 1 = .ok (.getfield 52, 3) := by decide +kernel
theorem d_P_reference_4 : decode b_P_reference 4 = .ok (.ifCond .eq 9, 3) := by decide +kernel
theorem d_P_reference_7 : decode b_P_reference 7 = .ok (.ldc2_w 76, 3) := by decide +kernel
theorem d_P_reference_10 : decode b_P_reference 10 = .ok (.goto 24, 3) := by decide +kernel
theorem d_P_reference_13 : decode b_P_reference 13 = .ok (.ldc2_w 78, 3) := by decide +kernel
theorem d_P_reference_16 : decode b_P_reference 16 = .ok (.aload_n 0, 1) := by decide +kernel
theorem d_P_reference_17 : decode b_P_reference 17 = .ok (.getfield 19, 3) := by decide +kernel
theorem d_P_reference_20 : decode b_P_reference 20 = .ok (.invokevirtual 69, 3) := by decide +kernel
theorem d_P_reference_23 : decode b_P_reference 23 = .ok (.i2l, 1) := by decide +kernel
theorem d_P_reference_24 : decode b_P_reference 24 = .ok (.lmul, 1) := by decide +kernel
theorem d_P_reference_25 : decode b_P_reference 25 = .ok (.aload_n 0, 1) := by decide +kernel
theorem d_P_reference_26 : decode b_P_reference 26 = .ok (.getfield 14, 3) := by decide +kernel
theorem d_P_reference_29 : decode b_P_reference 29 = .ok (.invokevirtual 69, 3) := by decide +kernel
theorem d_P_reference_32 : decode b_P_reference 32 = .ok (.i2l, 1) := by decide +kernel
theorem d_P_reference_33 : decode b_P_reference 33 = .ok (.ladd, 1) := by decide +kernel
theorem d_P_reference_34 : decode b_P_reference 34 = .ok (.lreturn, 1) := by decide +kernel
abbrev P_reference_w (E : xE) (a_this : Nat) (a_image : Nat) (a_piece : Nat) (x_packer : Value) (x_known : Value) (x_knownStarts : Value) (x_unpacker : Value) (x_image_data : Value) (x_piece_data : Value) (v_closed : Int32) (v_image_length : Int32) (v_piece_length : Int32) (v_pieces : Int32) (v_plain : Int32) (v_knownPieces : Int32) : va_W := [(a_this, .inr (10, [.ref a_piece, .ref a_image, x_packer, .int v_pieces, .int v_plain, .int v_closed, x_known, x_knownStarts, x_unpacker, .int v_knownPieces])), (a_image, .inr (2, [x_image_data, .int v_image_length])), (a_piece, .inr (2, [x_piece_data, .int v_piece_length]))]
def P_reference (F : Nat) (v_closed : Int32) (v_image_length : Int32) (v_piece_length : Int32) : Option (Int64 × Unit) :=
  mC (v_closed = 0) (mR0 (Bytes_length F v_image_length) fun r_1 => mR0 (Bytes_length F v_piece_length) fun r_2 => some ((65536 * r_1.toInt64) + r_2.toInt64, ())) (some ((-1), ()))
abbrev P_reference_rm : Room := { frames := 1, cells := 0, slots := 0, locals := 20 }
set_option maxHeartbeats 4000000 in
set_option maxRecDepth 100000 in
theorem c_P_reference (l : Launch) (E : xE) (F sz : Nat) (a_this : Nat) (a_image : Nat) (a_piece : Nat) (x_packer : Value) (x_known : Value) (x_knownStarts : Value) (x_unpacker : Value) (x_image_data : Value) (x_piece_data : Value) (v_closed : Int32) (v_image_length : Int32) (v_piece_length : Int32) (v_pieces : Int32) (v_plain : Int32) (v_knownPieces : Int32) (res : Int64 × Unit) (hm : P_reference F v_closed v_image_length v_piece_length = some res) : Met l y_P_reference (Cond.code y_P_reference b_P_reference 1 (some .long) :: x_tb) P_reference_rm (va_Pc [.ref a_this] (xPre E (P_reference_w E a_this a_image a_piece x_packer x_known x_knownStarts x_unpacker x_image_data x_piece_data v_closed v_image_length v_piece_length v_pieces v_plain v_knownPieces) sz)) (xQl E (fun (r : Int64) (u : Unit) => r = res.1 ∧ u = res.2) (fun (u : Unit) => (P_reference_w E a_this a_image a_piece x_packer x_known x_knownStarts x_unpacker x_image_data x_piece_data v_closed v_image_length v_piece_length v_pieces v_plain v_knownPieces)) (va_A (P_reference_w E a_this a_image a_piece x_packer x_known x_knownStarts x_unpacker x_image_data x_piece_data v_closed v_image_length v_piece_length v_pieces v_plain v_knownPieces) sz)) 0 0 (va_A (P_reference_w E a_this a_image a_piece x_packer x_known x_knownStarts x_unpacker x_image_data x_piece_data v_closed v_image_length v_piece_length v_pieces v_plain v_knownPieces) sz) := by
  refine xEnL (by decide) (Nat.le_of_ble_eq_true rfl) ?_
  intro p e s m args below meth c A ls Q hx hb hnm hts hown hml hK hA hI hN hret hP hD hS hl
  replace hown : s.vm.findClass R_P = some m.cls := hown
  replace hl : lv_has ls 1 [(0, .ref a_this)] := hl
  obtain ⟨H, eH⟩ : ∃ z, z = s.heap := ⟨_, rfl⟩
  obtain ⟨locs, eL⟩ : ∃ z : List Loc, z = [] := ⟨_, rfl⟩
  rw [show W p l e P_reference_rm s m args below meth c s.heap [] 0 0 Q (F0 m 0 ls []) = W p l e P_reference_rm s m args below meth c H locs 0 0 Q (F0 m 0 ls []) by rw [eH, eL]]
  replace hP : va_P E.1 vwCl (P_reference_w E a_this a_image a_piece x_packer x_known x_knownStarts x_unpacker x_image_data x_piece_data v_closed v_image_length v_piece_length v_pieces v_plain v_knownPieces) H := by rw [eH]; exact hP
  replace hS : va_S A s.heap H locs := by rw [eH, eL]; exact hS
  clear eH eL
  rw [P_reference] at hm
  refine lv_aload_n hx hb d_P_reference_0 rfl (lv_at hl 0 rfl) ?_
  refine va_get (D := E.1) (ci := 10) (v := .int v_closed) (C := R_P) (T := F_P) (N := 10) hx hb hts i_P hown hK hP 0 rfl rfl 5 (by decide) (hts _ tw_379) (fun _ h9 => h9) rfl d_P_reference_1 ?_
  refine lv_if_eq (tgt := 13) hx hb d_P_reference_4 (by decide) (fun c4 => ?_) (fun c4 => ?_)
  · replace hm := mC_t hm c4
    refine lv_ldc2 (v := 65536) hx hb hown (hts _ tw_649) d_P_reference_13 ?_
    refine lv_aload_n hx hb d_P_reference_16 rfl (lv_at hl 0 rfl) ?_
    refine va_get (D := E.1) (ci := 10) (v := .ref a_image) (C := R_P) (T := F_P) (N := 10) hx hb hts i_P hown hK hP 0 rfl rfl 1 (by decide) (hts _ tw_375) (fun _ h9 => h9) rfl d_P_reference_17 ?_
    obtain ⟨r_1, hc20, hm⟩ := mR0_e hm
    refine xmi (wc := (Bytes_length_w E a_image x_image_data v_image_length)) [false, true, false] [0] [0] hP hD hS hA rfl (by decide) (by decide) 1 (by decide) (fun _ => rfl) (fun hPc hDc hFc => va_runV (As := []) (rest := [.long 65536]) ⟨hx, hb, hml, hown, hts⟩ (c_Bytes_length l E F H.size a_image x_image_data v_image_length (r_1, ()) hc20) (cwV 0 hts (x_gV tw_421 tw_422 tw_423 tw_67 tw_424) rfl rfl rfl (by decide +kernel) ⟨Nat.le_of_ble_eq_true rfl, Nat.le_of_ble_eq_true rfl⟩) (xPV 2 0 rfl rfl hPc hDc hFc hK hI hN hS) rfl rfl hl.1 rfl (lv_room (Nat.le_of_ble_eq_true rfl)) d_P_reference_20 ⟨Nat.le_of_ble_eq_true rfl, Nat.le_of_ble_eq_true rfl⟩) (fun r9 u9 H locs hw hP hD hS => ?_)
    have hw1 : r_1 = r9 := hw.1.symm
    subst hw1
    replace hP : va_P E.1 vwCl (P_reference_w E a_this a_image a_piece x_packer x_known x_knownStarts x_unpacker x_image_data x_piece_data v_closed v_image_length v_piece_length v_pieces v_plain v_knownPieces) H := hP
    replace hD : va_D A (P_reference_w E a_this a_image a_piece x_packer x_known x_knownStarts x_unpacker x_image_data x_piece_data v_closed v_image_length v_piece_length v_pieces v_plain v_knownPieces) := hD
    refine lv_i2l hx hb d_P_reference_23 rfl ?_
    refine lv_lmul hx hb d_P_reference_24 ?_
    refine lv_aload_n hx hb d_P_reference_25 rfl (lv_at hl 0 rfl) ?_
    refine va_get (D := E.1) (ci := 10) (v := .ref a_piece) (C := R_P) (T := F_P) (N := 10) hx hb hts i_P hown hK hP 0 rfl rfl 0 (by decide) (hts _ tw_374) (fun _ h9 => h9) rfl d_P_reference_26 ?_
    obtain ⟨r_2, hc29, hm⟩ := mR0_e hm
    refine xmi (wc := (Bytes_length_w E a_piece x_piece_data v_piece_length)) [false, false, true] [0] [0] hP hD hS hA rfl (by decide) (by decide) 1 (by decide) (fun _ => rfl) (fun hPc hDc hFc => va_runV (As := []) (rest := [.long (65536 * r_1.toInt64)]) ⟨hx, hb, hml, hown, hts⟩ (c_Bytes_length l E F H.size a_piece x_piece_data v_piece_length (r_2, ()) hc29) (cwV 0 hts (x_gV tw_421 tw_422 tw_423 tw_67 tw_424) rfl rfl rfl (by decide +kernel) ⟨Nat.le_of_ble_eq_true rfl, Nat.le_of_ble_eq_true rfl⟩) (xPV 2 0 rfl rfl hPc hDc hFc hK hI hN hS) rfl rfl hl.1 rfl (lv_room (Nat.le_of_ble_eq_true rfl)) d_P_reference_29 ⟨Nat.le_of_ble_eq_true rfl, Nat.le_of_ble_eq_true rfl⟩) (fun r9 u9 H locs hw hP hD hS => ?_)
    have hw1 : r_2 = r9 := hw.1.symm
    subst hw1
    replace hP : va_P E.1 vwCl (P_reference_w E a_this a_image a_piece x_packer x_known x_knownStarts x_unpacker x_image_data x_piece_data v_closed v_image_length v_piece_length v_pieces v_plain v_knownPieces) H := hP
    replace hD : va_D A (P_reference_w E a_this a_image a_piece x_packer x_known x_knownStarts x_unpacker x_image_data x_piece_data v_closed v_image_length v_piece_length v_pieces v_plain v_knownPieces) := hD
    refine lv_i2l hx hb d_P_reference_32 rfl ?_
    refine lv_ladd hx hb d_P_reference_33 ?_
    replace hm := Option.some.inj hm
    subst hm
    exact hret d_P_reference_34 (u := ()) ⟨rfl, rfl⟩ hP hD hS
  · replace hm := mC_f hm c4
    refine lv_ldc2 (v := (-1)) hx hb hown (hts _ tw_648) d_P_reference_7 ?_
    refine lv_goto (tgt := 34) hx hb d_P_reference_10 (by decide) ?_
    replace hm := Option.some.inj hm
    subst hm
    exact hret d_P_reference_34 (u := ()) ⟨rfl, rfl⟩ hP hD hS
theorem d_P_size_0 : decode b_P_size 0 = .ok (.iload_n 1, 1) := by decide +kernel
theorem d_P_size_1 : decode b_P_size 1 = .ok (.tableswitch 48 0 2 #[27, 35, 43], 27) := by decide +kernel
theorem d_P_size_28 : decode b_P_size 28 = .ok (.aload_n 0, 1) := by decide +kernel
theorem d_P_size_29 : decode b_P_size 29 = .ok (.getfield 19, 3) := by decide +kernel
theorem d_P_size_32 : decode b_P_size 32 = .ok (.invokevirtual 69, 3) := by decide +kernel
theorem d_P_size_35 : decode b_P_size 35 = .ok (.ireturn, 1) := by decide +kernel
theorem d_P_size_36 : decode b_P_size 36 = .ok (.aload_n 0, 1) := by decide +kernel
theorem d_P_size_37 : decode b_P_size 37 = .ok (.getfield 32, 3) := by decide +kernel
theorem d_P_size_40 : decode b_P_size 40 = .ok (.invokevirtual 69, 3) := by decide +kernel
theorem d_P_size_43 : decode b_P_size 43 = .ok (.ireturn, 1) := by decide +kernel
theorem d_P_size_44 : decode b_P_size 44 = .ok (.aload_n 0, 1) := by decide +kernel
theorem d_P_size_45 : decode b_P_size 45 = .ok (.getfield 80, 3) := by decide +kernel
theorem d_P_size_48 : decode b_P_size 48 = .ok (.ireturn, 1) := by decide +kernel
theorem d_P_size_49 : decode b_P_size 49 = .ok (.iconst (-1), 1) := by decide +kernel
theorem d_P_size_50 : decode b_P_size 50 = .ok (.ireturn, 1) := by decide +kernel
abbrev P_size_w (E : xE) (a_this : Nat) (a_known : Nat) (a_image : Nat) (x_piece : Value) (x_packer : Value) (x_knownStarts : Value) (x_unpacker : Value) (x_known_data : Value) (x_image_data : Value) (v_knownPieces : Int32) (v_known_length : Int32) (v_image_length : Int32) (v_pieces : Int32) (v_plain : Int32) (v_closed : Int32) : va_W := [(a_this, .inr (10, [x_piece, .ref a_image, x_packer, .int v_pieces, .int v_plain, .int v_closed, .ref a_known, x_knownStarts, x_unpacker, .int v_knownPieces])), (a_known, .inr (2, [x_known_data, .int v_known_length])), (a_image, .inr (2, [x_image_data, .int v_image_length]))]
def P_size (F : Nat) (v_knownPieces : Int32) (v_known_length : Int32) (v_image_length : Int32) (x1 : Int32) : Option (Int32 × Unit) :=
  mC (x1 = 0) (mR0 (Bytes_length F v_image_length) fun r_1 => some (r_1, ())) (mC (x1 = 1) (mR0 (Bytes_length F v_known_length) fun r_2 => some (r_2, ())) (mC (x1 = 2) (some (v_knownPieces, ())) (some ((-1), ()))))
abbrev P_size_rm : Room := { frames := 1, cells := 0, slots := 0, locals := 20 }
set_option maxHeartbeats 4000000 in
set_option maxRecDepth 100000 in
theorem c_P_size (l : Launch) (E : xE) (F sz : Nat) (a_this : Nat) (a_known : Nat) (a_image : Nat) (x_piece : Value) (x_packer : Value) (x_knownStarts : Value) (x_unpacker : Value) (x_known_data : Value) (x_image_data : Value) (v_knownPieces : Int32) (v_known_length : Int32) (v_image_length : Int32) (v_pieces : Int32) (v_plain : Int32) (v_closed : Int32) (x1 : Int32) (res : Int32 × Unit) (hm : P_size F v_knownPieces v_known_length v_image_length x1 = some res) : Met l y_P_size (Cond.code y_P_size b_P_size 2 (some .int) :: x_tb) P_size_rm (va_Pc [.ref a_this, .int x1] (xPre E (P_size_w E a_this a_known a_image x_piece x_packer x_knownStarts x_unpacker x_known_data x_image_data v_knownPieces v_known_length v_image_length v_pieces v_plain v_closed) sz)) (xQi E (fun (r : Int32) (u : Unit) => r = res.1 ∧ u = res.2) (fun (u : Unit) => (P_size_w E a_this a_known a_image x_piece x_packer x_knownStarts x_unpacker x_known_data x_image_data v_knownPieces v_known_length v_image_length v_pieces v_plain v_closed)) (va_A (P_size_w E a_this a_known a_image x_piece x_packer x_knownStarts x_unpacker x_known_data x_image_data v_knownPieces v_known_length v_image_length v_pieces v_plain v_closed) sz)) 0 0 (va_A (P_size_w E a_this a_known a_image x_piece x_packer x_knownStarts x_unpacker x_known_data x_image_data v_knownPieces v_known_length v_image_length v_pieces v_plain v_closed) sz) := by
  refine xEnI (by decide) (Nat.le_of_ble_eq_true rfl) ?_
  intro p e s m args below meth c A ls Q hx hb hnm hts hown hml hK hA hI hN hret hP hD hS hl
  replace hown : s.vm.findClass R_P = some m.cls := hown
  replace hl : lv_has ls 2 [(0, .ref a_this), (1, .int x1)] := hl
  obtain ⟨H, eH⟩ : ∃ z, z = s.heap := ⟨_, rfl⟩
  obtain ⟨locs, eL⟩ : ∃ z : List Loc, z = [] := ⟨_, rfl⟩
  rw [show W p l e P_size_rm s m args below meth c s.heap [] 0 0 Q (F0 m 0 ls []) = W p l e P_size_rm s m args below meth c H locs 0 0 Q (F0 m 0 ls []) by rw [eH, eL]]
  replace hP : va_P E.1 vwCl (P_size_w E a_this a_known a_image x_piece x_packer x_knownStarts x_unpacker x_known_data x_image_data v_knownPieces v_known_length v_image_length v_pieces v_plain v_closed) H := by rw [eH]; exact hP
  replace hS : va_S A s.heap H locs := by rw [eH, eL]; exact hS
  clear eH eL
  rw [P_size] at hm
  refine lv_iload_n hx hb d_P_size_0 rfl (lv_at hl 1 rfl) ?_
  by_cases c1_0 : x1 = 0
  · replace hm := mC_t hm c1_0
    refine lv_tableIn (tgt := 28) hx hb d_P_size_1 (by rw [c1_0]; decide) (by rw [c1_0]; decide) (by rw [c1_0]; rfl) (by decide) ?_
    refine lv_aload_n hx hb d_P_size_28 rfl (lv_at hl 0 rfl) ?_
    refine va_get (D := E.1) (ci := 10) (v := .ref a_image) (C := R_P) (T := F_P) (N := 10) hx hb hts i_P hown hK hP 0 rfl rfl 1 (by decide) (hts _ tw_375) (fun _ h9 => h9) rfl d_P_size_29 ?_
    obtain ⟨r_1, hc32, hm⟩ := mR0_e hm
    refine xmi (wc := (Bytes_length_w E a_image x_image_data v_image_length)) [false, false, true] [0] [0] hP hD hS hA rfl (by decide) (by decide) 1 (by decide) (fun _ => rfl) (fun hPc hDc hFc => va_runV (As := []) (rest := []) ⟨hx, hb, hml, hown, hts⟩ (c_Bytes_length l E F H.size a_image x_image_data v_image_length (r_1, ()) hc32) (cwV 0 hts (x_gV tw_421 tw_422 tw_423 tw_67 tw_424) rfl rfl rfl (by decide +kernel) ⟨Nat.le_of_ble_eq_true rfl, Nat.le_of_ble_eq_true rfl⟩) (xPV 2 0 rfl rfl hPc hDc hFc hK hI hN hS) rfl rfl hl.1 rfl (lv_room (Nat.le_of_ble_eq_true rfl)) d_P_size_32 ⟨Nat.le_of_ble_eq_true rfl, Nat.le_of_ble_eq_true rfl⟩) (fun r9 u9 H locs hw hP hD hS => ?_)
    have hw1 : r_1 = r9 := hw.1.symm
    subst hw1
    replace hP : va_P E.1 vwCl (P_size_w E a_this a_known a_image x_piece x_packer x_knownStarts x_unpacker x_known_data x_image_data v_knownPieces v_known_length v_image_length v_pieces v_plain v_closed) H := hP
    replace hD : va_D A (P_size_w E a_this a_known a_image x_piece x_packer x_knownStarts x_unpacker x_known_data x_image_data v_knownPieces v_known_length v_image_length v_pieces v_plain v_closed) := hD
    replace hm := Option.some.inj hm
    subst hm
    exact hret d_P_size_35 (u := ()) ⟨rfl, rfl⟩ hP hD hS
  replace hm := mC_f hm c1_0
  by_cases c1_1 : x1 = 1
  · replace hm := mC_t hm c1_1
    refine lv_tableIn (tgt := 36) hx hb d_P_size_1 (by rw [c1_1]; decide) (by rw [c1_1]; decide) (by rw [c1_1]; rfl) (by decide) ?_
    refine lv_aload_n hx hb d_P_size_36 rfl (lv_at hl 0 rfl) ?_
    refine va_get (D := E.1) (ci := 10) (v := .ref a_known) (C := R_P) (T := F_P) (N := 10) hx hb hts i_P hown hK hP 0 rfl rfl 6 (by decide) (hts _ tw_380) (fun _ h9 => h9) rfl d_P_size_37 ?_
    obtain ⟨r_2, hc40, hm⟩ := mR0_e hm
    refine xmi (wc := (Bytes_length_w E a_known x_known_data v_known_length)) [false, true, false] [0] [0] hP hD hS hA rfl (by decide) (by decide) 1 (by decide) (fun _ => rfl) (fun hPc hDc hFc => va_runV (As := []) (rest := []) ⟨hx, hb, hml, hown, hts⟩ (c_Bytes_length l E F H.size a_known x_known_data v_known_length (r_2, ()) hc40) (cwV 0 hts (x_gV tw_421 tw_422 tw_423 tw_67 tw_424) rfl rfl rfl (by decide +kernel) ⟨Nat.le_of_ble_eq_true rfl, Nat.le_of_ble_eq_true rfl⟩) (xPV 2 0 rfl rfl hPc hDc hFc hK hI hN hS) rfl rfl hl.1 rfl (lv_room (Nat.le_of_ble_eq_true rfl)) d_P_size_40 ⟨Nat.le_of_ble_eq_true rfl, Nat.le_of_ble_eq_true rfl⟩) (fun r9 u9 H locs hw hP hD hS => ?_)
    have hw1 : r_2 = r9 := hw.1.symm
    subst hw1
    replace hP : va_P E.1 vwCl (P_size_w E a_this a_known a_image x_piece x_packer x_knownStarts x_unpacker x_known_data x_image_data v_knownPieces v_known_length v_image_length v_pieces v_plain v_closed) H := hP
    replace hD : va_D A (P_size_w E a_this a_known a_image x_piece x_packer x_knownStarts x_unpacker x_known_data x_image_data v_knownPieces v_known_length v_image_length v_pieces v_plain v_closed) := hD
    replace hm := Option.some.inj hm
    subst hm
    exact hret d_P_size_43 (u := ()) ⟨rfl, rfl⟩ hP hD hS
  replace hm := mC_f hm c1_1
  by_cases c1_2 : x1 = 2
  · replace hm := mC_t hm c1_2
    refine lv_tableIn (tgt := 44) hx hb d_P_size_1 (by rw [c1_2]; decide) (by rw [c1_2]; decide) (by rw [c1_2]; rfl) (by decide) ?_
    refine lv_aload_n hx hb d_P_size_44 rfl (lv_at hl 0 rfl) ?_
    refine va_get (D := E.1) (ci := 10) (v := .int v_knownPieces) (C := R_P) (T := F_P) (N := 10) hx hb hts i_P hown hK hP 0 rfl rfl 9 (by decide) (hts _ tw_383) (fun _ h9 => h9) rfl d_P_size_45 ?_
    replace hm := Option.some.inj hm
    subst hm
    exact hret d_P_size_48 (u := ()) ⟨rfl, rfl⟩ hP hD hS
  replace hm := mC_f hm c1_2
  have hs0 := xne c1_0 (by decide : ((0 : Int32).toInt = 0))
  have hs1 := xne c1_1 (by decide : ((1 : Int32).toInt = 1))
  have hs2 := xne c1_2 (by decide : ((2 : Int32).toInt = 2))
  refine lv_tableOut (tgt := 49) hx hb d_P_size_1 (by omega) (by decide) ?_
  refine lv_iconst (v := (-1)) hx hb d_P_size_49 (by decide) ?_
  replace hm := Option.some.inj hm
  subst hm
  exact hret d_P_size_50 (u := ()) ⟨rfl, rfl⟩ hP hD hS
theorem d_P_word_0 : decode b_P_word 0 = .ok (.iload_n 1, 1) := by decide +kernel
theorem d_P_word_1 : decode b_P_word 1 = .ok (.ifCond .lt 10, 3) := by decide +kernel
theorem d_P_word_4 : decode b_P_word 4 = .ok (.iload_n 1, 1) := by decide +kernel
theorem d_P_word_5 : decode b_P_word 5 = .ok (.sipush 8250, 3) := by decide +kernel
theorem d_P_word_8 : decode b_P_word 8 = .ok (.if_icmp .le 5, 3) := by decide +kernel
theorem d_P_word_11 : decode b_P_word 11 = .ok (.lconst 0, 1) := by decide +kernel
theorem d_P_word_12 : decode b_P_word 12 = .ok (.lreturn, 1) := by decide +kernel
theorem d_P_word_13 : decode b_P_word 13 = .ok (.lconst 0, 1) := by decide +kernel
theorem d_P_word_14 : decode b_P_word 14 = .ok (.lstore_n 2, 1) := by decide +kernel
theorem d_P_word_15 : decode b_P_word 15 = .ok (.iconst 0, 1) := by decide +kernel
theorem d_P_word_16 : decode b_P_word 16 = .ok (.istore 4, 2) := by decide +kernel
theorem d_P_word_18 : decode b_P_word 18 = .ok (.iload 4, 2) := by decide +kernel
theorem d_P_word_20 : decode b_P_word 20 = .ok (.bipush 8, 2) := by decide +kernel
theorem d_P_word_22 : decode b_P_word 22 = .ok (.if_icmp .ge 33, 3) := by decide +kernel
theorem d_P_word_25 : decode b_P_word 25 = .ok (.lload_n 2, 1) := by decide +kernel
theorem d_P_word_26 : decode b_P_word 26 = .ok (.aload_n 0, 1) := by decide +kernel
theorem d_P_word_27 : decode b_P_word 27 = .ok (.getfield 19, 3) := by decide +kernel
theorem d_P_word_30 : decode b_P_word 30 = .ok (.bipush 8, 2) := by decide +kernel
theorem d_P_word_32 : decode b_P_word 32 = .ok (.iload_n 1, 1) := by decide +kernel
theorem d_P_word_33 : decode b_P_word 33 = .ok (.imul, 1) := by decide +kernel
theorem d_P_word_34 : decode b_P_word 34 = .ok (.iload 4, 2) := by decide +kernel
theorem d_P_word_36 : decode b_P_word 36 = .ok (.iadd, 1) := by decide +kernel
theorem d_P_word_37 : decode b_P_word 37 = .ok (.invokevirtual 83, 3) := by decide +kernel
theorem d_P_word_40 : decode b_P_word 40 = .ok (.i2l, 1) := by decide +kernel
theorem d_P_word_41 : decode b_P_word 41 = .ok (.bipush 8, 2) := by decide +kernel
theorem d_P_word_43 : decode b_P_word 43 = .ok (.iload 4, 2) := by decide +kernel
theorem d_P_word_45 : decode b_P_word 45 = .ok (.imul, 1) := by decide +kernel
theorem d_P_word_46 : decode b_P_word 46 = .ok (.lshl, 1) := by decide +kernel
theorem d_P_word_47 : decode b_P_word 47 = .ok (.lor, 1) := by decide +kernel
theorem d_P_word_48 : decode b_P_word 48 = .ok (.lstore_n 2, 1) := by decide +kernel
theorem d_P_word_49 : decode b_P_word 49 = .ok (.iinc 4 1, 3) := by decide +kernel
theorem d_P_word_52 : decode b_P_word 52 = .ok (.goto (-34), 3) := by decide +kernel
theorem d_P_word_55 : decode b_P_word 55 = .ok (.lload_n 2, 1) := by decide +kernel
theorem d_P_word_56 : decode b_P_word 56 = .ok (.lreturn, 1) := by decide +kernel
def P_word_18 (F : Nat) (n_image_data : Nat) (v_image_length : Int32) (c_image_data : Nat → Int32) (x1 : Int32) (k_18 : Int64 → Int32 → Option (Int64 × Unit)) (x2 : Int64) (x4 : Int32) : Option (Int64 × Unit) :=
  mC (8 ≤ x4) (some (x2, ())) (mL ((8 * x1) + x4) fun t_1 => mR0 (Bytes_at F n_image_data v_image_length c_image_data t_1) fun r_2 => mL (x2 ||| (r_2.toInt64 <<< ((8 * x4).toInt64 &&& 63))) fun y2_3 => mL (x4 + 1) fun y4_4 => k_18 y2_3 y4_4)
abbrev P_word_w (E : xE) (a_this : Nat) (a_image : Nat) (a_image_data : Nat) (n_image_data : Nat) (x_piece : Value) (x_packer : Value) (x_known : Value) (x_knownStarts : Value) (x_unpacker : Value) (v_image_length : Int32) (c_image_data : Nat → Int32) (v_pieces : Int32) (v_plain : Int32) (v_closed : Int32) (v_knownPieces : Int32) : va_W := [(a_this, .inr (10, [x_piece, .ref a_image, x_packer, .int v_pieces, .int v_plain, .int v_closed, x_known, x_knownStarts, x_unpacker, .int v_knownPieces])), (a_image, .inr (2, [.ref a_image_data, .int v_image_length])), (a_image_data, .inl (E.2.2.1, n_image_data, .inl c_image_data))]
def P_word (F : Nat) (n_image_data : Nat) (v_image_length : Int32) (c_image_data : Nat → Int32) (x1 : Int32) : Option (Int64 × Unit) :=
  mC (x1 < 0) (some (0, ())) (mC (x1 ≤ 8250) ((mW2 (P_word_18 F n_image_data v_image_length c_image_data x1) F) 0 0) (some (0, ())))
abbrev P_word_rm : Room := { frames := 1, cells := 0, slots := 0, locals := 21 }
set_option maxHeartbeats 4000000 in
set_option maxRecDepth 100000 in
theorem c_P_word (l : Launch) (E : xE) (F sz : Nat) (a_this : Nat) (a_image : Nat) (a_image_data : Nat) (n_image_data : Nat) (x_piece : Value) (x_packer : Value) (x_known : Value) (x_knownStarts : Value) (x_unpacker : Value) (v_image_length : Int32) (c_image_data : Nat → Int32) (v_pieces : Int32) (v_plain : Int32) (v_closed : Int32) (v_knownPieces : Int32) (x1 : Int32) (res : Int64 × Unit) (hm : P_word F n_image_data v_image_length c_image_data x1 = some res) : Met l y_P_word (Cond.code y_P_word b_P_word 5 (some .long) :: x_tb) P_word_rm (va_Pc [.ref a_this, .int x1] (xPre E (P_word_w E a_this a_image a_image_data n_image_data x_piece x_packer x_known x_knownStarts x_unpacker v_image_length c_image_data v_pieces v_plain v_closed v_knownPieces) sz)) (xQl E (fun (r : Int64) (u : Unit) => r = res.1 ∧ u = res.2) (fun (u : Unit) => (P_word_w E a_this a_image a_image_data n_image_data x_piece x_packer x_known x_knownStarts x_unpacker v_image_length c_image_data v_pieces v_plain v_closed v_knownPieces)) (va_A (P_word_w E a_this a_image a_image_data n_image_data x_piece x_packer x_known x_knownStarts x_unpacker v_image_length c_image_data v_pieces v_plain v_closed v_knownPieces) sz)) 0 0 (va_A (P_word_w E a_this a_image a_image_data n_image_data x_piece x_packer x_known x_knownStarts x_unpacker v_image_length c_image_data v_pieces v_plain v_closed v_knownPieces) sz) := by
  refine xEnL (by decide) (Nat.le_of_ble_eq_true rfl) ?_
  intro p e s m args below meth c A ls Q hx hb hnm hts hown hml hK hA hI hN hret hP hD hS hl
  replace hown : s.vm.findClass R_P = some m.cls := hown
  replace hl : lv_has ls 5 [(0, .ref a_this), (1, .int x1)] := hl
  obtain ⟨H, eH⟩ : ∃ z, z = s.heap := ⟨_, rfl⟩
  obtain ⟨locs, eL⟩ : ∃ z : List Loc, z = [] := ⟨_, rfl⟩
  rw [show W p l e P_word_rm s m args below meth c s.heap [] 0 0 Q (F0 m 0 ls []) = W p l e P_word_rm s m args below meth c H locs 0 0 Q (F0 m 0 ls []) by rw [eH, eL]]
  replace hP : va_P E.1 vwCl (P_word_w E a_this a_image a_image_data n_image_data x_piece x_packer x_known x_knownStarts x_unpacker v_image_length c_image_data v_pieces v_plain v_closed v_knownPieces) H := by rw [eH]; exact hP
  replace hS : va_S A s.heap H locs := by rw [eH, eL]; exact hS
  clear eH eL
  rw [P_word] at hm
  refine lv_iload_n hx hb d_P_word_0 rfl (lv_at hl 1 rfl) ?_
  refine lv_if_lt (tgt := 11) hx hb d_P_word_1 (by decide) (fun c1 => ?_) (fun c1 => ?_)
  · replace hm := mC_t hm c1
    refine lv_lconst (v := 0) hx hb d_P_word_11 (by decide) ?_
    replace hm := Option.some.inj hm
    subst hm
    exact hret d_P_word_12 (u := ()) ⟨rfl, rfl⟩ hP hD hS
  · replace hm := mC_f hm c1
    refine lv_iload_n hx hb d_P_word_4 rfl (lv_at hl 1 rfl) ?_
    refine lv_sipush (v := 8250) hx hb d_P_word_5 (by decide) ?_
    refine lv_icmp_le (tgt := 13) hx hb d_P_word_8 (by decide) (fun c8 => ?_) (fun c8 => ?_)
    · replace hm := mC_t hm c8
      have h_18 : ∀ (n_18 : Nat) (x2 : Int64) (x4 : Int32) (H : Heap) (locs : List Loc) (ls : Array Slot), (mW2 (P_word_18 F n_image_data v_image_length c_image_data x1) n_18) x2 x4 = some res → va_P E.1 vwCl (P_word_w E a_this a_image a_image_data n_image_data x_piece x_packer x_known x_knownStarts x_unpacker v_image_length c_image_data v_pieces v_plain v_closed v_knownPieces) H → va_D A (P_word_w E a_this a_image a_image_data n_image_data x_piece x_packer x_known x_knownStarts x_unpacker v_image_length c_image_data v_pieces v_plain v_closed v_knownPieces) → va_S A s.heap H locs → lv_has ls 5 [(0, .ref a_this), (1, .int x1), (2, .long x2), (4, .int x4)] → W p l e P_word_rm s m args below meth c H locs 0 0 Q (F0 m 18 ls []) := by
        intro n_18
        induction n_18 with
        | zero => exact fun _ _ _ _ _ hm _ _ _ _ => (mW2_z hm).elim
        | succ n_18 ih_18 =>
          intro x2 x4 H locs ls hm hP hD hS hl
          replace hm := mW2_s hm
          rw [P_word_18] at hm
          refine lv_iload hx hb d_P_word_18 (lv_at hl 3 rfl) ?_
          refine lv_bipush (v := 8) hx hb d_P_word_20 (by decide) ?_
          refine lv_icmp_ge (tgt := 55) hx hb d_P_word_22 (by decide) (fun c22 => ?_) (fun c22 => ?_)
          · replace hm := mC_t hm c22
            refine lv_lload_n hx hb d_P_word_55 rfl (lv_at hl 2 rfl) ?_
            replace hm := Option.some.inj hm
            subst hm
            exact hret d_P_word_56 (u := ()) ⟨rfl, rfl⟩ hP hD hS
          · replace hm := mC_f hm c22
            refine lv_lload_n hx hb d_P_word_25 rfl (lv_at hl 2 rfl) ?_
            refine lv_aload_n hx hb d_P_word_26 rfl (lv_at hl 0 rfl) ?_
            refine va_get (D := E.1) (ci := 10) (v := .ref a_image) (C := R_P) (T := F_P) (N := 10) hx hb hts i_P hown hK hP 0 rfl rfl 1 (by decide) (hts _ tw_375) (fun _ h9 => h9) rfl d_P_word_27 ?_
            refine lv_bipush (v := 8) hx hb d_P_word_30 (by decide) ?_
            refine lv_iload_n hx hb d_P_word_32 rfl (lv_at hl 1 rfl) ?_
            refine lv_imul hx hb d_P_word_33 ?_
            refine lv_iload hx hb d_P_word_34 (lv_at hl 3 rfl) ?_
            refine lv_iadd hx hb d_P_word_36 ?_
            obtain ⟨t_1, et_1⟩ : ∃ z : Int32, z = (8 * x1) + x4 := ⟨_, rfl⟩
            rw [← et_1]
            replace hm := mL_e hm t_1 et_1
            obtain ⟨r_2, hc37, hm⟩ := mR0_e hm
            refine xmi (wc := (Bytes_at_w E a_image a_image_data n_image_data v_image_length c_image_data)) [false, true, true] [0, 1] [0, 1] hP hD hS hA rfl (by decide) (by decide) 2 (by decide) (fun _ => rfl) (fun hPc hDc hFc => va_runV (As := [.int t_1]) (rest := [.long x2]) ⟨hx, hb, hml, hown, hts⟩ (c_Bytes_at l E F H.size a_image a_image_data n_image_data v_image_length c_image_data t_1 (r_2, ()) hc37) (cwV 1 hts (x_gV tw_612 tw_448 tw_449 tw_67 tw_450) rfl rfl rfl (by decide +kernel) ⟨Nat.le_of_ble_eq_true rfl, Nat.le_of_ble_eq_true rfl⟩) (xPV 2 0 rfl rfl hPc hDc hFc hK hI hN hS) rfl rfl hl.1 rfl (lv_room (Nat.le_of_ble_eq_true rfl)) d_P_word_37 ⟨Nat.le_of_ble_eq_true rfl, Nat.le_of_ble_eq_true rfl⟩) (fun r9 u9 H locs hw hP hD hS => ?_)
            have hw1 : r_2 = r9 := hw.1.symm
            subst hw1
            replace hP : va_P E.1 vwCl (P_word_w E a_this a_image a_image_data n_image_data x_piece x_packer x_known x_knownStarts x_unpacker v_image_length c_image_data v_pieces v_plain v_closed v_knownPieces) H := hP
            replace hD : va_D A (P_word_w E a_this a_image a_image_data n_image_data x_piece x_packer x_known x_knownStarts x_unpacker v_image_length c_image_data v_pieces v_plain v_closed v_knownPieces) := hD
            refine lv_i2l hx hb d_P_word_40 rfl ?_
            refine lv_bipush (v := 8) hx hb d_P_word_41 (by decide) ?_
            refine lv_iload hx hb d_P_word_43 (lv_at hl 3 rfl) ?_
            refine lv_imul hx hb d_P_word_45 ?_
            refine lv_lshl hx hb d_P_word_46 rfl ?_
            refine lv_lor hx hb d_P_word_47 ?_
            refine lv_topl (fun y2_3 ey2_3 => ?_)
            replace hm := mL_e hm y2_3 ey2_3
            refine lv_lstore_n (lv' := [(2, .long y2_3), (0, .ref a_this), (1, .int x1), (4, .int x4)]) hx hb d_P_word_48 rfl hl (by decide) rfl (fun ls hl => ?_)
            obtain ⟨y4_4, ey4_4⟩ : ∃ y : Int32, y = x4 + 1 := ⟨_, rfl⟩
            replace hm := mL_e hm y4_4 ey4_4
            refine lv_iinc (v := y4_4) (lv' := [(4, .int y4_4), (2, .long y2_3), (0, .ref a_this), (1, .int x1)]) hx hb d_P_word_49 hl (k := 3) rfl (by rw [ey4_4]; rfl) (by decide) rfl (fun ls hl => ?_)
            refine lv_goto (tgt := 18) hx hb d_P_word_52 (by decide) ?_
            exact ih_18 _ _ H locs ls hm hP hD hS (lv_sub hl [2, 3, 1, 0] rfl)
      refine lv_lconst (v := 0) hx hb d_P_word_13 (by decide) ?_
      refine lv_lstore_n (lv' := [(2, .long 0), (0, .ref a_this), (1, .int x1)]) hx hb d_P_word_14 rfl hl (by decide) rfl (fun ls hl => ?_)
      refine lv_iconst (v := 0) hx hb d_P_word_15 (by decide) ?_
      refine lv_istore (lv' := [(4, .int 0), (2, .long 0), (0, .ref a_this), (1, .int x1)]) hx hb d_P_word_16 hl (by decide) rfl (fun ls hl => ?_)
      exact h_18 F _ _ H locs ls hm hP hD hS (lv_sub hl [2, 3, 1, 0] rfl)
    · replace hm := mC_f hm c8
      refine lv_lconst (v := 0) hx hb d_P_word_11 (by decide) ?_
      replace hm := Option.some.inj hm
      subst hm
      exact hret d_P_word_12 (u := ()) ⟨rfl, rfl⟩ hP hD hS
theorem d_P_patch_0 : decode b_P_patch 0 = .ok (.aload_n 0, 1) := by decide +kernel
theorem d_P_patch_1 : decode b_P_patch 1 = .ok (.getfield 52, 3) := by decide +kernel
theorem d_P_patch_4 : decode b_P_patch 4 = .ok (.ifCond .ne 5, 3) := by decide +kernel
theorem d_P_patch_7 : decode b_P_patch 7 = .ok (.iconst (-1), 1) := by decide +kernel
theorem d_P_patch_8 : decode b_P_patch 8 = .ok (.ireturn, 1) := by decide +kernel
theorem d_P_patch_9 : decode b_P_patch 9 = .ok (.iload_n 1, 1) := by decide +kernel
theorem d_P_patch_10 : decode b_P_patch 10 = .ok (.ifCond .lt 14, 3) := by decide +kernel
theorem d_P_patch_13 : decode b_P_patch 13 = .ok (.iload_n 1, 1) := by decide +kernel
theorem d_P_patch_14 : decode b_P_patch 14 = .ok (.aload_n 0, 1) := by decide +kernel
theorem d_P_patch_15 : decode b_P_patch 15 = .ok (.getfield 19, 3) := by decide +kernel
theorem d_P_patch_18 : decode b_P_patch 18 = .ok (.invokevirtual 69, 3) := by decide +kernel
theorem d_P_patch_21 : decode b_P_patch 21 = .ok (.if_icmp .lt 6, 3) := by decide +kernel
theorem d_P_patch_24 : decode b_P_patch 24 = .ok (.bipush (-2), 2) := by decide +kernel
theorem d_P_patch_26 : decode b_P_patch 26 = .ok (.ireturn, 1) := by decide +kernel
theorem d_P_patch_27 : decode b_P_patch 27 = .ok (.aload_n 0, 1) := by decide +kernel
theorem d_P_patch_28 : decode b_P_patch 28 = .ok (.getfield 19, 3) := by decide +kernel
theorem d_P_patch_31 : decode b_P_patch 31 = .ok (.iload_n 1, 1) := by decide +kernel
theorem d_P_patch_32 : decode b_P_patch 32 = .ok (.invokevirtual 83, 3) := by decide +kernel
theorem d_P_patch_35 : decode b_P_patch 35 = .ok (.istore_n 3, 1) := by decide +kernel
theorem d_P_patch_36 : decode b_P_patch 36 = .ok (.aload_n 0, 1) := by decide +kernel
theorem d_P_patch_37 : decode b_P_patch 37 = .ok (.getfield 19, 3) := by decide +kernel
theorem d_P_patch_40 : decode b_P_patch 40 = .ok (.iload_n 1, 1) := by decide +kernel
theorem d_P_patch_41 : decode b_P_patch 41 = .ok (.iload_n 2, 1) := by decide +kernel
theorem d_P_patch_42 : decode b_P_patch 42 = .ok (.invokevirtual 87, 3) := by decide +kernel
theorem d_P_patch_45 : decode b_P_patch 45 = .ok (.iload_n 3, 1) := by decide +kernel
theorem d_P_patch_46 : decode b_P_patch 46 = .ok (.ireturn, 1) := by decide +kernel
abbrev P_patch_w (E : xE) (a_this : Nat) (a_image : Nat) (a_image_data : Nat) (n_image_data : Nat) (x_piece : Value) (x_packer : Value) (x_known : Value) (x_knownStarts : Value) (x_unpacker : Value) (v_closed : Int32) (v_image_length : Int32) (c_image_data : Nat → Int32) (v_pieces : Int32) (v_plain : Int32) (v_knownPieces : Int32) : va_W := [(a_this, .inr (10, [x_piece, .ref a_image, x_packer, .int v_pieces, .int v_plain, .int v_closed, x_known, x_knownStarts, x_unpacker, .int v_knownPieces])), (a_image, .inr (2, [.ref a_image_data, .int v_image_length])), (a_image_data, .inl (E.2.2.1, n_image_data, .inl c_image_data))]
def P_patch (F : Nat) (n_image_data : Nat) (v_closed : Int32) (v_image_length : Int32) (c_image_data : Nat → Int32) (x1 : Int32) (x2 : Int32) : Option (Int32 × (Nat → Int32)) :=
  mC (v_closed = 0) (some ((-1), c_image_data)) (mC (x1 < 0) (some ((-2), c_image_data)) (mR0 (Bytes_length F v_image_length) fun r_1 => mC (x1 < r_1) (mR0 (Bytes_at F n_image_data v_image_length c_image_data x1) fun r_2 => mR1 (Bytes_set F n_image_data v_image_length c_image_data x1 x2) fun _ c_data_3 => some (r_2, c_data_3)) (some ((-2), c_image_data))))
abbrev P_patch_rm : Room := { frames := 1, cells := 0, slots := 0, locals := 22 }
set_option maxHeartbeats 4000000 in
set_option maxRecDepth 100000 in
theorem c_P_patch (l : Launch) (E : xE) (F sz : Nat) (a_this : Nat) (a_image : Nat) (a_image_data : Nat) (n_image_data : Nat) (x_piece : Value) (x_packer : Value) (x_known : Value) (x_knownStarts : Value) (x_unpacker : Value) (v_closed : Int32) (v_image_length : Int32) (c_image_data : Nat → Int32) (v_pieces : Int32) (v_plain : Int32) (v_knownPieces : Int32) (x1 : Int32) (x2 : Int32) (res : Int32 × (Nat → Int32)) (hm : P_patch F n_image_data v_closed v_image_length c_image_data x1 x2 = some res) : Met l y_P_patch (Cond.code y_P_patch b_P_patch 4 (some .int) :: x_tb) P_patch_rm (va_Pc [.ref a_this, .int x1, .int x2] (xPre E (P_patch_w E a_this a_image a_image_data n_image_data x_piece x_packer x_known x_knownStarts x_unpacker v_closed v_image_length c_image_data v_pieces v_plain v_knownPieces) sz)) (xQi E (fun (r : Int32) (u : (Nat → Int32)) => r = res.1 ∧ u = res.2) (fun (u : (Nat → Int32)) => (P_patch_w E a_this a_image a_image_data n_image_data x_piece x_packer x_known x_knownStarts x_unpacker v_closed v_image_length u v_pieces v_plain v_knownPieces)) (va_A (P_patch_w E a_this a_image a_image_data n_image_data x_piece x_packer x_known x_knownStarts x_unpacker v_closed v_image_length c_image_data v_pieces v_plain v_knownPieces) sz)) 0 0 (va_A (P_patch_w E a_this a_image a_image_data n_image_data x_piece x_packer x_known x_knownStarts x_unpacker v_closed v_image_length c_image_data v_pieces v_plain v_knownPieces) sz) := by
  refine xEnI (by decide) (Nat.le_of_ble_eq_true rfl) ?_
  intro p e s m args below meth c A ls Q hx hb hnm hts hown hml hK hA hI hN hret hP hD hS hl
  replace hown : s.vm.findClass R_P = some m.cls := hown
  replace hl : lv_has ls 4 [(0, .ref a_this), (1, .int x1), (2, .int x2)] := hl
  obtain ⟨H, eH⟩ : ∃ z, z = s.heap := ⟨_, rfl⟩
  obtain ⟨locs, eL⟩ : ∃ z : List Loc, z = [] := ⟨_, rfl⟩
  rw [show W p l e P_patch_rm s m args below meth c s.heap [] 0 0 Q (F0 m 0 ls []) = W p l e P_patch_rm s m args below meth c H locs 0 0 Q (F0 m 0 ls []) by rw [eH, eL]]
  replace hP : va_P E.1 vwCl (P_patch_w E a_this a_image a_image_data n_image_data x_piece x_packer x_known x_knownStarts x_unpacker v_closed v_image_length c_image_data v_pieces v_plain v_knownPieces) H := by rw [eH]; exact hP
  replace hS : va_S A s.heap H locs := by rw [eH, eL]; exact hS
  clear eH eL
  rw [P_patch] at hm
  refine lv_aload_n hx hb d_P_patch_0 rfl (lv_at hl 0 rfl) ?_
  refine va_get (D := E.1) (ci := 10) (v := .int v_closed) (C := R_P) (T := F_P) (N := 10) hx hb hts i_P hown hK hP 0 rfl rfl 5 (by decide) (hts _ tw_379) (fun _ h9 => h9) rfl d_P_patch_1 ?_
  refine lv_if_ne (tgt := 9) hx hb d_P_patch_4 (by decide) (fun c4 => ?_) (fun c4 => ?_)
  · replace hm := mC_f hm c4
    refine lv_iload_n hx hb d_P_patch_9 rfl (lv_at hl 1 rfl) ?_
    refine lv_if_lt (tgt := 24) hx hb d_P_patch_10 (by decide) (fun c10 => ?_) (fun c10 => ?_)
    · replace hm := mC_t hm c10
      refine lv_bipush (v := (-2)) hx hb d_P_patch_24 (by decide) ?_
      replace hm := Option.some.inj hm
      subst hm
      exact hret d_P_patch_26 (u := c_image_data) ⟨rfl, rfl⟩ hP hD hS
    · replace hm := mC_f hm c10
      refine lv_iload_n hx hb d_P_patch_13 rfl (lv_at hl 1 rfl) ?_
      refine lv_aload_n hx hb d_P_patch_14 rfl (lv_at hl 0 rfl) ?_
      refine va_get (D := E.1) (ci := 10) (v := .ref a_image) (C := R_P) (T := F_P) (N := 10) hx hb hts i_P hown hK hP 0 rfl rfl 1 (by decide) (hts _ tw_375) (fun _ h9 => h9) rfl d_P_patch_15 ?_
      obtain ⟨r_1, hc18, hm⟩ := mR0_e hm
      refine xmi (wc := (Bytes_length_w E a_image (.ref a_image_data) v_image_length)) [false, true, false] [0] [0] hP hD hS hA rfl (by decide) (by decide) 1 (by decide) (fun _ => rfl) (fun hPc hDc hFc => va_runV (As := []) (rest := [.int x1]) ⟨hx, hb, hml, hown, hts⟩ (c_Bytes_length l E F H.size a_image (.ref a_image_data) v_image_length (r_1, ()) hc18) (cwV 0 hts (x_gV tw_421 tw_422 tw_423 tw_67 tw_424) rfl rfl rfl (by decide +kernel) ⟨Nat.le_of_ble_eq_true rfl, Nat.le_of_ble_eq_true rfl⟩) (xPV 2 0 rfl rfl hPc hDc hFc hK hI hN hS) rfl rfl hl.1 rfl (lv_room (Nat.le_of_ble_eq_true rfl)) d_P_patch_18 ⟨Nat.le_of_ble_eq_true rfl, Nat.le_of_ble_eq_true rfl⟩) (fun r9 u9 H locs hw hP hD hS => ?_)
      have hw1 : r_1 = r9 := hw.1.symm
      subst hw1
      replace hP : va_P E.1 vwCl (P_patch_w E a_this a_image a_image_data n_image_data x_piece x_packer x_known x_knownStarts x_unpacker v_closed v_image_length c_image_data v_pieces v_plain v_knownPieces) H := hP
      replace hD : va_D A (P_patch_w E a_this a_image a_image_data n_image_data x_piece x_packer x_known x_knownStarts x_unpacker v_closed v_image_length c_image_data v_pieces v_plain v_knownPieces) := hD
      refine lv_icmp_lt (tgt := 27) hx hb d_P_patch_21 (by decide) (fun c21 => ?_) (fun c21 => ?_)
      · replace hm := mC_t hm c21
        refine lv_aload_n hx hb d_P_patch_27 rfl (lv_at hl 0 rfl) ?_
        refine va_get (D := E.1) (ci := 10) (v := .ref a_image) (C := R_P) (T := F_P) (N := 10) hx hb hts i_P hown hK hP 0 rfl rfl 1 (by decide) (hts _ tw_375) (fun _ h9 => h9) rfl d_P_patch_28 ?_
        refine lv_iload_n hx hb d_P_patch_31 rfl (lv_at hl 1 rfl) ?_
        obtain ⟨r_2, hc32, hm⟩ := mR0_e hm
        refine xmi (wc := (Bytes_at_w E a_image a_image_data n_image_data v_image_length c_image_data)) [false, true, true] [0, 1] [0, 1] hP hD hS hA rfl (by decide) (by decide) 2 (by decide) (fun _ => rfl) (fun hPc hDc hFc => va_runV (As := [.int x1]) (rest := []) ⟨hx, hb, hml, hown, hts⟩ (c_Bytes_at l E F H.size a_image a_image_data n_image_data v_image_length c_image_data x1 (r_2, ()) hc32) (cwV 1 hts (x_gV tw_612 tw_448 tw_449 tw_67 tw_450) rfl rfl rfl (by decide +kernel) ⟨Nat.le_of_ble_eq_true rfl, Nat.le_of_ble_eq_true rfl⟩) (xPV 2 0 rfl rfl hPc hDc hFc hK hI hN hS) rfl rfl hl.1 rfl (lv_room (Nat.le_of_ble_eq_true rfl)) d_P_patch_32 ⟨Nat.le_of_ble_eq_true rfl, Nat.le_of_ble_eq_true rfl⟩) (fun r9 u9 H locs hw hP hD hS => ?_)
        have hw1 : r_2 = r9 := hw.1.symm
        subst hw1
        replace hP : va_P E.1 vwCl (P_patch_w E a_this a_image a_image_data n_image_data x_piece x_packer x_known x_knownStarts x_unpacker v_closed v_image_length c_image_data v_pieces v_plain v_knownPieces) H := hP
        replace hD : va_D A (P_patch_w E a_this a_image a_image_data n_image_data x_piece x_packer x_known x_knownStarts x_unpacker v_closed v_image_length c_image_data v_pieces v_plain v_knownPieces) := hD
        refine lv_istore_n (lv' := [(3, .int r_2), (0, .ref a_this), (1, .int x1), (2, .int x2)]) hx hb d_P_patch_35 rfl hl (by decide) rfl (fun ls hl => ?_)
        refine lv_aload_n hx hb d_P_patch_36 rfl (lv_at hl 1 rfl) ?_
        refine va_get (D := E.1) (ci := 10) (v := .ref a_image) (C := R_P) (T := F_P) (N := 10) hx hb hts i_P hown hK hP 0 rfl rfl 1 (by decide) (hts _ tw_375) (fun _ h9 => h9) rfl d_P_patch_37 ?_
        refine lv_iload_n hx hb d_P_patch_40 rfl (lv_at hl 2 rfl) ?_
        refine lv_iload_n hx hb d_P_patch_41 rfl (lv_at hl 3 rfl) ?_
        obtain ⟨r_4, c_data_3, hc42, hm⟩ := mR1_e hm
        refine xmv (wc := (Bytes_set_w E a_image a_image_data n_image_data v_image_length c_image_data)) [false, true, true] [0, 1] [0, 1] hP hD hS hA rfl (by decide) (by decide) 2 (by decide) (fun _ => rfl) (fun hPc hDc hFc => va_runV (As := [.int x1, .int x2]) (rest := []) ⟨hx, hb, hml, hown, hts⟩ (c_Bytes_set l E F H.size a_image a_image_data n_image_data v_image_length c_image_data x1 x2 (r_4, c_data_3) hc42) (cwV 2 hts (x_gV tw_666 tw_667 tw_668 tw_67 tw_669) rfl rfl rfl (by decide +kernel) ⟨Nat.le_of_ble_eq_true rfl, Nat.le_of_ble_eq_true rfl⟩) (xPV 2 0 rfl rfl hPc hDc hFc hK hI hN hS) rfl rfl hl.1 rfl (lv_room (Nat.le_of_ble_eq_true rfl)) d_P_patch_42 ⟨Nat.le_of_ble_eq_true rfl, Nat.le_of_ble_eq_true rfl⟩) (fun u9 H locs hw hP hD hS => ?_)
        have hw2 : c_data_3 = u9 := hw.symm
        subst hw2
        replace hP : va_P E.1 vwCl (P_patch_w E a_this a_image a_image_data n_image_data x_piece x_packer x_known x_knownStarts x_unpacker v_closed v_image_length c_data_3 v_pieces v_plain v_knownPieces) H := hP
        replace hD : va_D A (P_patch_w E a_this a_image a_image_data n_image_data x_piece x_packer x_known x_knownStarts x_unpacker v_closed v_image_length c_data_3 v_pieces v_plain v_knownPieces) := hD
        refine lv_iload_n hx hb d_P_patch_45 rfl (lv_at hl 0 rfl) ?_
        replace hm := Option.some.inj hm
        subst hm
        exact hret d_P_patch_46 (u := c_data_3) ⟨rfl, rfl⟩ hP hD hS
      · replace hm := mC_f hm c21
        refine lv_bipush (v := (-2)) hx hb d_P_patch_24 (by decide) ?_
        replace hm := Option.some.inj hm
        subst hm
        exact hret d_P_patch_26 (u := c_image_data) ⟨rfl, rfl⟩ hP hD hS
  · replace hm := mC_t hm c4
    refine lv_iconst (v := (-1)) hx hb d_P_patch_7 (by decide) ?_
    replace hm := Option.some.inj hm
    subst hm
    exact hret d_P_patch_8 (u := c_image_data) ⟨rfl, rfl⟩ hP hD hS
theorem d_P_cut_0 : decode b_P_cut 0 = .ok (.aload_n 0, 1) := by decide +kernel
theorem d_P_cut_1 : decode b_P_cut 1 = .ok (.getfield 19, 3) := by decide +kernel
theorem d_P_cut_4 : decode b_P_cut 4 = .ok (.invokevirtual 69, 3) := by decide +kernel
theorem d_P_cut_7 : decode b_P_cut 7 = .ok (.istore_n 2, 1) := by decide +kernel
theorem d_P_cut_8 : decode b_P_cut 8 = .ok (.iload_n 1, 1) := by decide +kernel
theorem d_P_cut_9 : decode b_P_cut 9 = .ok (.ifCond .lt 15, 3) := by decide +kernel
theorem d_P_cut_12 : decode b_P_cut 12 = .ok (.iload_n 1, 1) := by decide +kernel
theorem d_P_cut_13 : decode b_P_cut 13 = .ok (.iload_n 2, 1) := by decide +kernel
theorem d_P_cut_14 : decode b_P_cut 14 = .ok (.if_icmp .gt 10, 3) := by decide +kernel
theorem d_P_cut_17 : decode b_P_cut 17 = .ok (.aload_n 0, 1) := by decide +kernel
theorem d_P_cut_18 : decode b_P_cut 18 = .ok (.getfield 52, 3) := by decide +kernel
theorem d_P_cut_21 : decode b_P_cut 21 = .ok (.ifCond .ne 5, 3) := by decide +kernel
theorem d_P_cut_24 : decode b_P_cut 24 = .ok (.iconst (-1), 1) := by decide +kernel
theorem d_P_cut_25 : decode b_P_cut 25 = .ok (.ireturn, 1) := by decide +kernel
theorem d_P_cut_26 : decode b_P_cut 26 = .ok (.aload_n 0, 1) := by decide +kernel
theorem d_P_cut_27 : decode b_P_cut 27 = .ok (.getfield 19, 3) := by decide +kernel
theorem d_P_cut_30 : decode b_P_cut 30 = .ok (.iload_n 1, 1) := by decide +kernel
theorem d_P_cut_31 : decode b_P_cut 31 = .ok (.invokevirtual 59, 3) := by decide +kernel
theorem d_P_cut_34 : decode b_P_cut 34 = .ok (.iload_n 2, 1) := by decide +kernel
theorem d_P_cut_35 : decode b_P_cut 35 = .ok (.iload_n 1, 1) := by decide +kernel
theorem d_P_cut_36 : decode b_P_cut 36 = .ok (.isub, 1) := by decide +kernel
theorem d_P_cut_37 : decode b_P_cut 37 = .ok (.ireturn, 1) := by decide +kernel
abbrev P_cut_w (E : xE) (a_this : Nat) (a_image : Nat) (x_piece : Value) (x_packer : Value) (x_known : Value) (x_knownStarts : Value) (x_unpacker : Value) (x_image_data : Value) (v_closed : Int32) (v_image_length : Int32) (v_pieces : Int32) (v_plain : Int32) (v_knownPieces : Int32) : va_W := [(a_this, .inr (10, [x_piece, .ref a_image, x_packer, .int v_pieces, .int v_plain, .int v_closed, x_known, x_knownStarts, x_unpacker, .int v_knownPieces])), (a_image, .inr (2, [x_image_data, .int v_image_length]))]
def P_cut (F : Nat) (v_closed : Int32) (v_image_length : Int32) (x1 : Int32) : Option (Int32 × Int32) :=
  mR0 (Bytes_length F v_image_length) fun r_1 => mC (x1 < 0) (some ((-1), v_image_length)) (mC (r_1 < x1) (some ((-1), v_image_length)) (mC (v_closed = 0) (some ((-1), v_image_length)) (mR1 (Bytes_keep F v_image_length x1) fun _ v_length_2 => some (r_1 - x1, v_length_2))))
abbrev P_cut_rm : Room := { frames := 1, cells := 0, slots := 0, locals := 21 }
set_option maxHeartbeats 4000000 in
set_option maxRecDepth 100000 in
theorem c_P_cut (l : Launch) (E : xE) (F sz : Nat) (a_this : Nat) (a_image : Nat) (x_piece : Value) (x_packer : Value) (x_known : Value) (x_knownStarts : Value) (x_unpacker : Value) (x_image_data : Value) (v_closed : Int32) (v_image_length : Int32) (v_pieces : Int32) (v_plain : Int32) (v_knownPieces : Int32) (x1 : Int32) (res : Int32 × Int32) (hm : P_cut F v_closed v_image_length x1 = some res) : Met l y_P_cut (Cond.code y_P_cut b_P_cut 3 (some .int) :: x_tb) P_cut_rm (va_Pc [.ref a_this, .int x1] (xPre E (P_cut_w E a_this a_image x_piece x_packer x_known x_knownStarts x_unpacker x_image_data v_closed v_image_length v_pieces v_plain v_knownPieces) sz)) (xQi E (fun (r : Int32) (u : Int32) => r = res.1 ∧ u = res.2) (fun (u : Int32) => (P_cut_w E a_this a_image x_piece x_packer x_known x_knownStarts x_unpacker x_image_data v_closed u v_pieces v_plain v_knownPieces)) (va_A (P_cut_w E a_this a_image x_piece x_packer x_known x_knownStarts x_unpacker x_image_data v_closed v_image_length v_pieces v_plain v_knownPieces) sz)) 0 0 (va_A (P_cut_w E a_this a_image x_piece x_packer x_known x_knownStarts x_unpacker x_image_data v_closed v_image_length v_pieces v_plain v_knownPieces) sz) := by
  refine xEnI (by decide) (Nat.le_of_ble_eq_true rfl) ?_
  intro p e s m args below meth c A ls Q hx hb hnm hts hown hml hK hA hI hN hret hP hD hS hl
  replace hown : s.vm.findClass R_P = some m.cls := hown
  replace hl : lv_has ls 3 [(0, .ref a_this), (1, .int x1)] := hl
  obtain ⟨H, eH⟩ : ∃ z, z = s.heap := ⟨_, rfl⟩
  obtain ⟨locs, eL⟩ : ∃ z : List Loc, z = [] := ⟨_, rfl⟩
  rw [show W p l e P_cut_rm s m args below meth c s.heap [] 0 0 Q (F0 m 0 ls []) = W p l e P_cut_rm s m args below meth c H locs 0 0 Q (F0 m 0 ls []) by rw [eH, eL]]
  replace hP : va_P E.1 vwCl (P_cut_w E a_this a_image x_piece x_packer x_known x_knownStarts x_unpacker x_image_data v_closed v_image_length v_pieces v_plain v_knownPieces) H := by rw [eH]; exact hP
  replace hS : va_S A s.heap H locs := by rw [eH, eL]; exact hS
  clear eH eL
  rw [P_cut] at hm
  refine lv_aload_n hx hb d_P_cut_0 rfl (lv_at hl 0 rfl) ?_
  refine va_get (D := E.1) (ci := 10) (v := .ref a_image) (C := R_P) (T := F_P) (N := 10) hx hb hts i_P hown hK hP 0 rfl rfl 1 (by decide) (hts _ tw_375) (fun _ h9 => h9) rfl d_P_cut_1 ?_
  obtain ⟨r_1, hc4, hm⟩ := mR0_e hm
  refine xmi (wc := (Bytes_length_w E a_image x_image_data v_image_length)) [false, true] [0] [0] hP hD hS hA rfl (by decide) (by decide) 1 (by decide) (fun _ => rfl) (fun hPc hDc hFc => va_runV (As := []) (rest := []) ⟨hx, hb, hml, hown, hts⟩ (c_Bytes_length l E F H.size a_image x_image_data v_image_length (r_1, ()) hc4) (cwV 0 hts (x_gV tw_421 tw_422 tw_423 tw_67 tw_424) rfl rfl rfl (by decide +kernel) ⟨Nat.le_of_ble_eq_true rfl, Nat.le_of_ble_eq_true rfl⟩) (xPV 2 0 rfl rfl hPc hDc hFc hK hI hN hS) rfl rfl hl.1 rfl (lv_room (Nat.le_of_ble_eq_true rfl)) d_P_cut_4 ⟨Nat.le_of_ble_eq_true rfl, Nat.le_of_ble_eq_true rfl⟩) (fun r9 u9 H locs hw hP hD hS => ?_)
  have hw1 : r_1 = r9 := hw.1.symm
  subst hw1
  replace hP : va_P E.1 vwCl (P_cut_w E a_this a_image x_piece x_packer x_known x_knownStarts x_unpacker x_image_data v_closed v_image_length v_pieces v_plain v_knownPieces) H := hP
  replace hD : va_D A (P_cut_w E a_this a_image x_piece x_packer x_known x_knownStarts x_unpacker x_image_data v_closed v_image_length v_pieces v_plain v_knownPieces) := hD
  refine lv_istore_n (lv' := [(2, .int r_1), (0, .ref a_this), (1, .int x1)]) hx hb d_P_cut_7 rfl hl (by decide) rfl (fun ls hl => ?_)
  refine lv_iload_n hx hb d_P_cut_8 rfl (lv_at hl 2 rfl) ?_
  refine lv_if_lt (tgt := 24) hx hb d_P_cut_9 (by decide) (fun c9 => ?_) (fun c9 => ?_)
  · replace hm := mC_t hm c9
    refine lv_iconst (v := (-1)) hx hb d_P_cut_24 (by decide) ?_
    replace hm := Option.some.inj hm
    subst hm
    exact hret d_P_cut_25 (u := v_image_length) ⟨rfl, rfl⟩ hP hD hS
  · replace hm := mC_f hm c9
    refine lv_iload_n hx hb d_P_cut_12 rfl (lv_at hl 2 rfl) ?_
    refine lv_iload_n hx hb d_P_cut_13 rfl (lv_at hl 0 rfl) ?_
    refine lv_icmp_gt (tgt := 24) hx hb d_P_cut_14 (by decide) (fun c14 => ?_) (fun c14 => ?_)
    · replace hm := mC_t hm c14
      refine lv_iconst (v := (-1)) hx hb d_P_cut_24 (by decide) ?_
      replace hm := Option.some.inj hm
      subst hm
      exact hret d_P_cut_25 (u := v_image_length) ⟨rfl, rfl⟩ hP hD hS
    · replace hm := mC_f hm c14
      refine lv_aload_n hx hb d_P_cut_17 rfl (lv_at hl 1 rfl) ?_
      refine va_get (D := E.1) (ci := 10) (v := .int v_closed) (C := R_P) (T := F_P) (N := 10) hx hb hts i_P hown hK hP 0 rfl rfl 5 (by decide) (hts _ tw_379) (fun _ h9 => h9) rfl d_P_cut_18 ?_
      refine lv_if_ne (tgt := 26) hx hb d_P_cut_21 (by decide) (fun c21 => ?_) (fun c21 => ?_)
      · replace hm := mC_f hm c21
        refine lv_aload_n hx hb d_P_cut_26 rfl (lv_at hl 1 rfl) ?_
        refine va_get (D := E.1) (ci := 10) (v := .ref a_image) (C := R_P) (T := F_P) (N := 10) hx hb hts i_P hown hK hP 0 rfl rfl 1 (by decide) (hts _ tw_375) (fun _ h9 => h9) rfl d_P_cut_27 ?_
        refine lv_iload_n hx hb d_P_cut_30 rfl (lv_at hl 2 rfl) ?_
        obtain ⟨r_3, v_length_2, hc31, hm⟩ := mR1_e hm
        refine xmv (wc := (Bytes_keep_w E a_image x_image_data v_image_length)) [false, true] [0] [0] hP hD hS hA rfl (by decide) (by decide) 1 (by decide) (fun _ => rfl) (fun hPc hDc hFc => va_runV (As := [.int x1]) (rest := []) ⟨hx, hb, hml, hown, hts⟩ (c_Bytes_keep l E F H.size a_image x_image_data v_image_length x1 (r_3, v_length_2) hc31) (cwV 1 hts (x_gV tw_409 tw_410 tw_411 tw_67 tw_412) rfl rfl rfl (by decide +kernel) ⟨Nat.le_of_ble_eq_true rfl, Nat.le_of_ble_eq_true rfl⟩) (xPV 2 0 rfl rfl hPc hDc hFc hK hI hN hS) rfl rfl hl.1 rfl (lv_room (Nat.le_of_ble_eq_true rfl)) d_P_cut_31 ⟨Nat.le_of_ble_eq_true rfl, Nat.le_of_ble_eq_true rfl⟩) (fun u9 H locs hw hP hD hS => ?_)
        have hw2 : v_length_2 = u9 := hw.symm
        subst hw2
        replace hP : va_P E.1 vwCl (P_cut_w E a_this a_image x_piece x_packer x_known x_knownStarts x_unpacker x_image_data v_closed v_length_2 v_pieces v_plain v_knownPieces) H := hP
        replace hD : va_D A (P_cut_w E a_this a_image x_piece x_packer x_known x_knownStarts x_unpacker x_image_data v_closed v_length_2 v_pieces v_plain v_knownPieces) := hD
        refine lv_iload_n hx hb d_P_cut_34 rfl (lv_at hl 0 rfl) ?_
        refine lv_iload_n hx hb d_P_cut_35 rfl (lv_at hl 2 rfl) ?_
        refine lv_isub hx hb d_P_cut_36 ?_
        replace hm := Option.some.inj hm
        subst hm
        exact hret d_P_cut_37 (u := v_length_2) ⟨rfl, rfl⟩ hP hD hS
      · replace hm := mC_t hm c21
        refine lv_iconst (v := (-1)) hx hb d_P_cut_24 (by decide) ?_
        replace hm := Option.some.inj hm
        subst hm
        exact hret d_P_cut_25 (u := v_image_length) ⟨rfl, rfl⟩ hP hD hS
theorem d_P_byteAt_0 : decode b_P_byteAt 0 = .ok (.lload_n 1, 1) := by decide +kernel
theorem d_P_byteAt_1 : decode b_P_byteAt 1 = .ok (.bipush 16, 2) := by decide +kernel
theorem d_P_byteAt_3 : decode b_P_byteAt 3 = .ok (.lshr, 1) := by decide +kernel
theorem d_P_byteAt_4 : decode b_P_byteAt 4 = .ok (.lstore_n 3, 1) := by decide +kernel
theorem d_P_byteAt_5 : decode b_P_byteAt 5 = .ok (.lload_n 1, 1) := by decide +kernel
theorem d_P_byteAt_6 : decode b_P_byteAt 6 = .ok (.ldc2_w 98, 3) := by decide +kernel
theorem d_P_byteAt_9 : decode b_P_byteAt 9 = .ok (.land, 1) := by decide +kernel
theorem d_P_byteAt_10 : decode b_P_byteAt 10 = .ok (.l2i, 1) := by decide +kernel
theorem d_P_byteAt_11 : decode b_P_byteAt 11 = .ok (.istore 5, 2) := by decide +kernel
theorem d_P_byteAt_13 : decode b_P_byteAt 13 = .ok (.iconst 0, 1) := by decide +kernel
theorem d_P_byteAt_14 : decode b_P_byteAt 14 = .ok (.istore 6, 2) := by decide +kernel
theorem d_P_byteAt_16 : decode b_P_byteAt 16 = .ok (.iload 6, 2) := by decide +kernel
theorem d_P_byteAt_18 : decode b_P_byteAt 18 = .ok (.aload_n 0, 1) := by decide +kernel
theorem d_P_byteAt_19 : decode b_P_byteAt 19 = .ok (.getfield 80, 3) := by decide +kernel
theorem d_P_byteAt_22 : decode b_P_byteAt 22 = .ok (.if_icmp .ge 75, 3) := by decide +kernel
theorem d_P_byteAt_25 : decode b_P_byteAt 25 = .ok (.iload 6, 2) := by decide +kernel
theorem d_P_byteAt_27 : decode b_P_byteAt 27 = .ok (.bipush 8, 2) := by decide +kernel
theorem d_P_byteAt_29 : decode b_P_byteAt 29 = .ok (.if_icmp .ge 68, 3) := by decide +kernel
theorem d_P_byteAt_32 : decode b_P_byteAt 32 = .ok (.aload_n 0, 1) := by decide +kernel
theorem d_P_byteAt_33 : decode b_P_byteAt 33 = .ok (.getfield 35, 3) := by decide +kernel
theorem d_P_byteAt_36 : decode b_P_byteAt 36 = .ok (.iload 6, 2) := by decide +kernel
theorem d_P_byteAt_38 : decode b_P_byteAt 38 = .ok (.iaload, 1) := by decide +kernel
theorem d_P_byteAt_39 : decode b_P_byteAt 39 = .ok (.i2l, 1) := by decide +kernel
theorem d_P_byteAt_40 : decode b_P_byteAt 40 = .ok (.lload_n 3, 1) := by decide +kernel
theorem d_P_byteAt_41 : decode b_P_byteAt 41 = .ok (.lcmp, 1) := by decide +kernel
theorem d_P_byteAt_42 : decode b_P_byteAt 42 = .ok (.ifCond .ne 49, 3) := by decide +kernel
theorem d_P_byteAt_45 : decode b_P_byteAt 45 = .ok (.sipush 8192, 3) := by decide +kernel
theorem d_P_byteAt_48 : decode b_P_byteAt 48 = .ok (.iload 6, 2) := by decide +kernel
theorem d_P_byteAt_50 : decode b_P_byteAt 50 = .ok (.imul, 1) := by decide +kernel
theorem d_P_byteAt_51 : decode b_P_byteAt 51 = .ok (.iload 5, 2) := by decide +kernel
theorem d_P_byteAt_53 : decode b_P_byteAt 53 = .ok (.iadd, 1) := by decide +kernel
theorem d_P_byteAt_54 : decode b_P_byteAt 54 = .ok (.istore 7, 2) := by decide +kernel
theorem d_P_byteAt_56 : decode b_P_byteAt 56 = .ok (.iload 5, 2) := by decide +kernel
theorem d_P_byteAt_58 : decode b_P_byteAt 58 = .ok (.sipush 8192, 3) := by decide +kernel
theorem d_P_byteAt_61 : decode b_P_byteAt 61 = .ok (.if_icmp .ge 27, 3) := by decide +kernel
theorem d_P_byteAt_64 : decode b_P_byteAt 64 = .ok (.iload 7, 2) := by decide +kernel
theorem d_P_byteAt_66 : decode b_P_byteAt 66 = .ok (.aload_n 0, 1) := by decide +kernel
theorem d_P_byteAt_67 : decode b_P_byteAt 67 = .ok (.getfield 32, 3) := by decide +kernel
theorem d_P_byteAt_70 : decode b_P_byteAt 70 = .ok (.invokevirtual 69, 3) := by decide +kernel
theorem d_P_byteAt_73 : decode b_P_byteAt 73 = .ok (.if_icmp .ge 15, 3) := by decide +kernel
theorem d_P_byteAt_76 : decode b_P_byteAt 76 = .ok (.aload_n 0, 1) := by decide +kernel
theorem d_P_byteAt_77 : decode b_P_byteAt 77 = .ok (.getfield 32, 3) := by decide +kernel
theorem d_P_byteAt_80 : decode b_P_byteAt 80 = .ok (.iload 7, 2) := by decide +kernel
theorem d_P_byteAt_82 : decode b_P_byteAt 82 = .ok (.invokevirtual 83, 3) := by decide +kernel
theorem d_P_byteAt_85 : decode b_P_byteAt 85 = .ok (.goto 5, 3) := by decide +kernel
theorem d_P_byteAt_88 : decode b_P_byteAt 88 = .ok (.bipush (-2), 2) := by decide +kernel
theorem d_P_byteAt_90 : decode b_P_byteAt 90 = .ok (.ireturn, 1) := by decide +kernel
theorem d_P_byteAt_91 : decode b_P_byteAt 91 = .ok (.iinc 6 1, 3) := by decide +kernel
theorem d_P_byteAt_94 : decode b_P_byteAt 94 = .ok (.goto (-78), 3) := by decide +kernel
theorem d_P_byteAt_97 : decode b_P_byteAt 97 = .ok (.bipush (-2), 2) := by decide +kernel
theorem d_P_byteAt_99 : decode b_P_byteAt 99 = .ok (.ireturn, 1) := by decide +kernel
def P_byteAt_45 (F : Nat) (n_known_data : Nat) (v_known_length : Int32) (c_known_data : Nat → Int32) (x5 : Int32) (x6 : Int32) : Option (Int32 × Unit) :=
  mL ((8192 * x6) + x5) fun y7_1 => mC (8192 ≤ x5) (some ((-2), ())) (mR0 (Bytes_length F v_known_length) fun r_2 => mC (r_2 ≤ y7_1) (some ((-2), ())) (mR0 (Bytes_at F n_known_data v_known_length c_known_data y7_1) fun r_3 => some (r_3, ())))
def P_byteAt_16 (F : Nat) (v_knownPieces : Int32) (c_knownStarts : Nat → Int32) (k_45 : Int32 → Int32 → Option (Int32 × Unit)) (k_16 : Int64 → Int32 → Int32 → Option (Int32 × Unit)) (x3 : Int64) (x5 : Int32) (x6 : Int32) : Option (Int32 × Unit) :=
  mC (v_knownPieces ≤ x6) (some ((-2), ())) (mC (8 ≤ x6) (some ((-2), ())) (mG x6 8 (mC ((lg_cmp ((c_knownStarts x6.toNatClampNeg).toInt64) x3) = 0) (k_45 x5 x6) (mL (x6 + 1) fun y6_4 => k_16 x3 x5 y6_4))))
abbrev P_byteAt_w (E : xE) (a_this : Nat) (a_knownStarts : Nat) (a_known : Nat) (a_known_data : Nat) (n_known_data : Nat) (x_piece : Value) (x_image : Value) (x_packer : Value) (x_unpacker : Value) (v_knownPieces : Int32) (c_knownStarts : Nat → Int32) (v_known_length : Int32) (c_known_data : Nat → Int32) (v_pieces : Int32) (v_plain : Int32) (v_closed : Int32) : va_W := [(a_this, .inr (10, [x_piece, x_image, x_packer, .int v_pieces, .int v_plain, .int v_closed, .ref a_known, .ref a_knownStarts, x_unpacker, .int v_knownPieces])), (a_knownStarts, .inl (E.2.1, 8, .inl c_knownStarts)), (a_known, .inr (2, [.ref a_known_data, .int v_known_length])), (a_known_data, .inl (E.2.2.1, n_known_data, .inl c_known_data))]
def P_byteAt (F : Nat) (n_known_data : Nat) (v_knownPieces : Int32) (c_knownStarts : Nat → Int32) (v_known_length : Int32) (c_known_data : Nat → Int32) (x1 : Int64) : Option (Int32 × Unit) :=
  mL (x1 >>> ((16 : Int32).toInt64 &&& 63)) fun y3_5 => mL ((x1 &&& 65535).toInt32) fun y5_6 => (mW3 (P_byteAt_16 F v_knownPieces c_knownStarts (P_byteAt_45 F n_known_data v_known_length c_known_data)) F) y3_5 y5_6 0
abbrev P_byteAt_rm : Room := { frames := 1, cells := 0, slots := 0, locals := 21 }
set_option maxHeartbeats 4000000 in
set_option maxRecDepth 100000 in
theorem c_P_byteAt (l : Launch) (E : xE) (F sz : Nat) (a_this : Nat) (a_knownStarts : Nat) (a_known : Nat) (a_known_data : Nat) (n_known_data : Nat) (x_piece : Value) (x_image : Value) (x_packer : Value) (x_unpacker : Value) (v_knownPieces : Int32) (c_knownStarts : Nat → Int32) (v_known_length : Int32) (c_known_data : Nat → Int32) (v_pieces : Int32) (v_plain : Int32) (v_closed : Int32) (x1 : Int64) (res : Int32 × Unit) (hm : P_byteAt F n_known_data v_knownPieces c_knownStarts v_known_length c_known_data x1 = some res) : Met l y_P_byteAt (Cond.code y_P_byteAt b_P_byteAt 8 (some .int) :: x_tb) P_byteAt_rm (va_Pc [.ref a_this, .long x1] (xPre E (P_byteAt_w E a_this a_knownStarts a_known a_known_data n_known_data x_piece x_image x_packer x_unpacker v_knownPieces c_knownStarts v_known_length c_known_data v_pieces v_plain v_closed) sz)) (xQi E (fun (r : Int32) (u : Unit) => r = res.1 ∧ u = res.2) (fun (u : Unit) => (P_byteAt_w E a_this a_knownStarts a_known a_known_data n_known_data x_piece x_image x_packer x_unpacker v_knownPieces c_knownStarts v_known_length c_known_data v_pieces v_plain v_closed)) (va_A (P_byteAt_w E a_this a_knownStarts a_known a_known_data n_known_data x_piece x_image x_packer x_unpacker v_knownPieces c_knownStarts v_known_length c_known_data v_pieces v_plain v_closed) sz)) 0 0 (va_A (P_byteAt_w E a_this a_knownStarts a_known a_known_data n_known_data x_piece x_image x_packer x_unpacker v_knownPieces c_knownStarts v_known_length c_known_data v_pieces v_plain v_closed) sz) := by
  refine xEnI (by decide) (Nat.le_of_ble_eq_true rfl) ?_
  intro p e s m args below meth c A ls Q hx hb hnm hts hown hml hK hA hI hN hret hP hD hS hl
  replace hown : s.vm.findClass R_P = some m.cls := hown
  replace hl : lv_has ls 8 [(0, .ref a_this), (1, .long x1)] := hl
  obtain ⟨H, eH⟩ : ∃ z, z = s.heap := ⟨_, rfl⟩
  obtain ⟨locs, eL⟩ : ∃ z : List Loc, z = [] := ⟨_, rfl⟩
  rw [show W p l e P_byteAt_rm s m args below meth c s.heap [] 0 0 Q (F0 m 0 ls []) = W p l e P_byteAt_rm s m args below meth c H locs 0 0 Q (F0 m 0 ls []) by rw [eH, eL]]
  replace hP : va_P E.1 vwCl (P_byteAt_w E a_this a_knownStarts a_known a_known_data n_known_data x_piece x_image x_packer x_unpacker v_knownPieces c_knownStarts v_known_length c_known_data v_pieces v_plain v_closed) H := by rw [eH]; exact hP
  replace hS : va_S A s.heap H locs := by rw [eH, eL]; exact hS
  clear eH eL
  rw [P_byteAt] at hm
  have h_45 : ∀ (x5 : Int32) (x6 : Int32) (H : Heap) (locs : List Loc) (ls : Array Slot), (P_byteAt_45 F n_known_data v_known_length c_known_data) x5 x6 = some res → va_P E.1 vwCl (P_byteAt_w E a_this a_knownStarts a_known a_known_data n_known_data x_piece x_image x_packer x_unpacker v_knownPieces c_knownStarts v_known_length c_known_data v_pieces v_plain v_closed) H → va_D A (P_byteAt_w E a_this a_knownStarts a_known a_known_data n_known_data x_piece x_image x_packer x_unpacker v_knownPieces c_knownStarts v_known_length c_known_data v_pieces v_plain v_closed) → va_S A s.heap H locs → lv_has ls 8 [(0, .ref a_this), (5, .int x5), (6, .int x6)] → W p l e P_byteAt_rm s m args below meth c H locs 0 0 Q (F0 m 45 ls []) := by
    intro x5 x6 H locs ls hm hP hD hS hl
    rw [P_byteAt_45] at hm
    refine lv_sipush (v := 8192) hx hb d_P_byteAt_45 (by decide) ?_
    refine lv_iload hx hb d_P_byteAt_48 (lv_at hl 2 rfl) ?_
    refine lv_imul hx hb d_P_byteAt_50 ?_
    refine lv_iload hx hb d_P_byteAt_51 (lv_at hl 1 rfl) ?_
    refine lv_iadd hx hb d_P_byteAt_53 ?_
    refine lv_topi (fun y7_1 ey7_1 => ?_)
    replace hm := mL_e hm y7_1 ey7_1
    refine lv_istore (lv' := [(7, .int y7_1), (0, .ref a_this), (5, .int x5), (6, .int x6)]) hx hb d_P_byteAt_54 hl (by decide) rfl (fun ls hl => ?_)
    refine lv_iload hx hb d_P_byteAt_56 (lv_at hl 2 rfl) ?_
    refine lv_sipush (v := 8192) hx hb d_P_byteAt_58 (by decide) ?_
    refine lv_icmp_ge (tgt := 88) hx hb d_P_byteAt_61 (by decide) (fun c61 => ?_) (fun c61 => ?_)
    · replace hm := mC_t hm c61
      refine lv_bipush (v := (-2)) hx hb d_P_byteAt_88 (by decide) ?_
      replace hm := Option.some.inj hm
      subst hm
      exact hret d_P_byteAt_90 (u := ()) ⟨rfl, rfl⟩ hP hD hS
    · replace hm := mC_f hm c61
      refine lv_iload hx hb d_P_byteAt_64 (lv_at hl 0 rfl) ?_
      refine lv_aload_n hx hb d_P_byteAt_66 rfl (lv_at hl 1 rfl) ?_
      refine va_get (D := E.1) (ci := 10) (v := .ref a_known) (C := R_P) (T := F_P) (N := 10) hx hb hts i_P hown hK hP 0 rfl rfl 6 (by decide) (hts _ tw_380) (fun _ h9 => h9) rfl d_P_byteAt_67 ?_
      obtain ⟨r_2, hc70, hm⟩ := mR0_e hm
      refine xmi (wc := (Bytes_length_w E a_known (.ref a_known_data) v_known_length)) [false, false, true, false] [0] [0] hP hD hS hA rfl (by decide) (by decide) 1 (by decide) (fun _ => rfl) (fun hPc hDc hFc => va_runV (As := []) (rest := [.int y7_1]) ⟨hx, hb, hml, hown, hts⟩ (c_Bytes_length l E F H.size a_known (.ref a_known_data) v_known_length (r_2, ()) hc70) (cwV 0 hts (x_gV tw_421 tw_422 tw_423 tw_67 tw_424) rfl rfl rfl (by decide +kernel) ⟨Nat.le_of_ble_eq_true rfl, Nat.le_of_ble_eq_true rfl⟩) (xPV 2 0 rfl rfl hPc hDc hFc hK hI hN hS) rfl rfl hl.1 rfl (lv_room (Nat.le_of_ble_eq_true rfl)) d_P_byteAt_70 ⟨Nat.le_of_ble_eq_true rfl, Nat.le_of_ble_eq_true rfl⟩) (fun r9 u9 H locs hw hP hD hS => ?_)
      have hw1 : r_2 = r9 := hw.1.symm
      subst hw1
      replace hP : va_P E.1 vwCl (P_byteAt_w E a_this a_knownStarts a_known a_known_data n_known_data x_piece x_image x_packer x_unpacker v_knownPieces c_knownStarts v_known_length c_known_data v_pieces v_plain v_closed) H := hP
      replace hD : va_D A (P_byteAt_w E a_this a_knownStarts a_known a_known_data n_known_data x_piece x_image x_packer x_unpacker v_knownPieces c_knownStarts v_known_length c_known_data v_pieces v_plain v_closed) := hD
      refine lv_icmp_ge (tgt := 88) hx hb d_P_byteAt_73 (by decide) (fun c73 => ?_) (fun c73 => ?_)
      · replace hm := mC_t hm c73
        refine lv_bipush (v := (-2)) hx hb d_P_byteAt_88 (by decide) ?_
        replace hm := Option.some.inj hm
        subst hm
        exact hret d_P_byteAt_90 (u := ()) ⟨rfl, rfl⟩ hP hD hS
      · replace hm := mC_f hm c73
        refine lv_aload_n hx hb d_P_byteAt_76 rfl (lv_at hl 1 rfl) ?_
        refine va_get (D := E.1) (ci := 10) (v := .ref a_known) (C := R_P) (T := F_P) (N := 10) hx hb hts i_P hown hK hP 0 rfl rfl 6 (by decide) (hts _ tw_380) (fun _ h9 => h9) rfl d_P_byteAt_77 ?_
        refine lv_iload hx hb d_P_byteAt_80 (lv_at hl 0 rfl) ?_
        obtain ⟨r_3, hc82, hm⟩ := mR0_e hm
        refine xmi (wc := (Bytes_at_w E a_known a_known_data n_known_data v_known_length c_known_data)) [false, false, true, true] [0, 1] [0, 1] hP hD hS hA rfl (by decide) (by decide) 2 (by decide) (fun _ => rfl) (fun hPc hDc hFc => va_runV (As := [.int y7_1]) (rest := []) ⟨hx, hb, hml, hown, hts⟩ (c_Bytes_at l E F H.size a_known a_known_data n_known_data v_known_length c_known_data y7_1 (r_3, ()) hc82) (cwV 1 hts (x_gV tw_612 tw_448 tw_449 tw_67 tw_450) rfl rfl rfl (by decide +kernel) ⟨Nat.le_of_ble_eq_true rfl, Nat.le_of_ble_eq_true rfl⟩) (xPV 2 0 rfl rfl hPc hDc hFc hK hI hN hS) rfl rfl hl.1 rfl (lv_room (Nat.le_of_ble_eq_true rfl)) d_P_byteAt_82 ⟨Nat.le_of_ble_eq_true rfl, Nat.le_of_ble_eq_true rfl⟩) (fun r9 u9 H locs hw hP hD hS => ?_)
        have hw1 : r_3 = r9 := hw.1.symm
        subst hw1
        replace hP : va_P E.1 vwCl (P_byteAt_w E a_this a_knownStarts a_known a_known_data n_known_data x_piece x_image x_packer x_unpacker v_knownPieces c_knownStarts v_known_length c_known_data v_pieces v_plain v_closed) H := hP
        replace hD : va_D A (P_byteAt_w E a_this a_knownStarts a_known a_known_data n_known_data x_piece x_image x_packer x_unpacker v_knownPieces c_knownStarts v_known_length c_known_data v_pieces v_plain v_closed) := hD
        refine lv_goto (tgt := 90) hx hb d_P_byteAt_85 (by decide) ?_
        replace hm := Option.some.inj hm
        subst hm
        exact hret d_P_byteAt_90 (u := ()) ⟨rfl, rfl⟩ hP hD hS
  have h_16 : ∀ (n_16 : Nat) (x3 : Int64) (x5 : Int32) (x6 : Int32) (H : Heap) (locs : List Loc) (ls : Array Slot), (mW3 (P_byteAt_16 F v_knownPieces c_knownStarts (P_byteAt_45 F n_known_data v_known_length c_known_data)) n_16) x3 x5 x6 = some res → va_P E.1 vwCl (P_byteAt_w E a_this a_knownStarts a_known a_known_data n_known_data x_piece x_image x_packer x_unpacker v_knownPieces c_knownStarts v_known_length c_known_data v_pieces v_plain v_closed) H → va_D A (P_byteAt_w E a_this a_knownStarts a_known a_known_data n_known_data x_piece x_image x_packer x_unpacker v_knownPieces c_knownStarts v_known_length c_known_data v_pieces v_plain v_closed) → va_S A s.heap H locs → lv_has ls 8 [(0, .ref a_this), (3, .long x3), (5, .int x5), (6, .int x6)] → W p l e P_byteAt_rm s m args below meth c H locs 0 0 Q (F0 m 16 ls []) := by
    intro n_16
    induction n_16 with
    | zero => exact fun _ _ _ _ _ _ hm _ _ _ _ => (mW3_z hm).elim
    | succ n_16 ih_16 =>
      intro x3 x5 x6 H locs ls hm hP hD hS hl
      replace hm := mW3_s hm
      rw [P_byteAt_16] at hm
      refine lv_iload hx hb d_P_byteAt_16 (lv_at hl 3 rfl) ?_
      refine lv_aload_n hx hb d_P_byteAt_18 rfl (lv_at hl 0 rfl) ?_
      refine va_get (D := E.1) (ci := 10) (v := .int v_knownPieces) (C := R_P) (T := F_P) (N := 10) hx hb hts i_P hown hK hP 0 rfl rfl 9 (by decide) (hts _ tw_383) (fun _ h9 => h9) rfl d_P_byteAt_19 ?_
      refine lv_icmp_ge (tgt := 97) hx hb d_P_byteAt_22 (by decide) (fun c22 => ?_) (fun c22 => ?_)
      · replace hm := mC_t hm c22
        refine lv_bipush (v := (-2)) hx hb d_P_byteAt_97 (by decide) ?_
        replace hm := Option.some.inj hm
        subst hm
        exact hret d_P_byteAt_99 (u := ()) ⟨rfl, rfl⟩ hP hD hS
      · replace hm := mC_f hm c22
        refine lv_iload hx hb d_P_byteAt_25 (lv_at hl 3 rfl) ?_
        refine lv_bipush (v := 8) hx hb d_P_byteAt_27 (by decide) ?_
        refine lv_icmp_ge (tgt := 97) hx hb d_P_byteAt_29 (by decide) (fun c29 => ?_) (fun c29 => ?_)
        · replace hm := mC_t hm c29
          refine lv_bipush (v := (-2)) hx hb d_P_byteAt_97 (by decide) ?_
          replace hm := Option.some.inj hm
          subst hm
          exact hret d_P_byteAt_99 (u := ()) ⟨rfl, rfl⟩ hP hD hS
        · replace hm := mC_f hm c29
          refine lv_aload_n hx hb d_P_byteAt_32 rfl (lv_at hl 0 rfl) ?_
          refine va_get (D := E.1) (ci := 10) (v := .ref a_knownStarts) (C := R_P) (T := F_P) (N := 10) hx hb hts i_P hown hK hP 0 rfl rfl 7 (by decide) (hts _ tw_381) (fun _ h9 => h9) rfl d_P_byteAt_33 ?_
          refine lv_iload hx hb d_P_byteAt_36 (lv_at hl 3 rfl) ?_
          obtain ⟨hi38, hm⟩ := mG_e hm
          refine va_iald hx hb hK hP 1 0 rfl rfl hi38 d_P_byteAt_38 ?_
          refine lv_i2l hx hb d_P_byteAt_39 rfl ?_
          refine lv_lload_n hx hb d_P_byteAt_40 rfl (lv_at hl 1 rfl) ?_
          refine W.lcmp hx hb d_P_byteAt_41 ?_
          refine lv_if_ne (tgt := 91) hx hb d_P_byteAt_42 (by decide) (fun c42 => ?_) (fun c42 => ?_)
          · replace hm := mC_f hm c42
            obtain ⟨y6_4, ey6_4⟩ : ∃ y : Int32, y = x6 + 1 := ⟨_, rfl⟩
            replace hm := mL_e hm y6_4 ey6_4
            refine lv_iinc (v := y6_4) (lv' := [(6, .int y6_4), (0, .ref a_this), (3, .long x3), (5, .int x5)]) hx hb d_P_byteAt_91 hl (k := 3) rfl (by rw [ey6_4]; rfl) (by decide) rfl (fun ls hl => ?_)
            refine lv_goto (tgt := 16) hx hb d_P_byteAt_94 (by decide) ?_
            exact ih_16 _ _ _ H locs ls hm hP hD hS (lv_sub hl [1, 2, 3, 0] rfl)
          · replace hm := mC_t hm c42
            exact h_45 _ _ H locs ls hm hP hD hS (lv_sub hl [0, 2, 3] rfl)
  refine lv_lload_n hx hb d_P_byteAt_0 rfl (lv_at hl 1 rfl) ?_
  refine lv_bipush (v := 16) hx hb d_P_byteAt_1 (by decide) ?_
  refine lv_lshr hx hb d_P_byteAt_3 rfl ?_
  refine lv_topl (fun y3_5 ey3_5 => ?_)
  replace hm := mL_e hm y3_5 ey3_5
  refine lv_lstore_n (lv' := [(3, .long y3_5), (0, .ref a_this), (1, .long x1)]) hx hb d_P_byteAt_4 rfl hl (by decide) rfl (fun ls hl => ?_)
  refine lv_lload_n hx hb d_P_byteAt_5 rfl (lv_at hl 2 rfl) ?_
  refine lv_ldc2 (v := 65535) hx hb hown (hts _ tw_768) d_P_byteAt_6 ?_
  refine lv_land hx hb d_P_byteAt_9 ?_
  refine lv_l2i hx hb d_P_byteAt_10 rfl ?_
  refine lv_topi (fun y5_6 ey5_6 => ?_)
  replace hm := mL_e hm y5_6 ey5_6
  refine lv_istore (lv' := [(5, .int y5_6), (3, .long y3_5), (0, .ref a_this), (1, .long x1)]) hx hb d_P_byteAt_11 hl (by decide) rfl (fun ls hl => ?_)
  refine lv_iconst (v := 0) hx hb d_P_byteAt_13 (by decide) ?_
  refine lv_istore (lv' := [(6, .int 0), (5, .int y5_6), (3, .long y3_5), (0, .ref a_this), (1, .long x1)]) hx hb d_P_byteAt_14 hl (by decide) rfl (fun ls hl => ?_)
  exact h_16 F _ _ _ H locs ls hm hP hD hS (lv_sub hl [3, 2, 1, 0] rfl)
theorem d_P_start_0 : decode b_P_start 0 = .ok (.iload_n 1, 1) := by decide +kernel
theorem d_P_start_1 : decode b_P_start 1 = .ok (.ifCond .lt 26, 3) := by decide +kernel
theorem d_P_start_4 : decode b_P_start 4 = .ok (.iload_n 1, 1) := by decide +kernel
theorem d_P_start_5 : decode b_P_start 5 = .ok (.aload_n 0, 1) := by decide +kernel
theorem d_P_start_6 : decode b_P_start 6 = .ok (.getfield 80, 3) := by decide +kernel
theorem d_P_start_9 : decode b_P_start 9 = .ok (.if_icmp .ge 18, 3) := by decide +kernel
theorem d_P_start_12 : decode b_P_start 12 = .ok (.iload_n 1, 1) := by decide +kernel
theorem d_P_start_13 : decode b_P_start 13 = .ok (.bipush 8, 2) := by decide +kernel
theorem d_P_start_15 : decode b_P_start 15 = .ok (.if_icmp .ge 12, 3) := by decide +kernel
theorem d_P_start_18 : decode b_P_start 18 = .ok (.aload_n 0, 1) := by decide +kernel
theorem d_P_start_19 : decode b_P_start 19 = .ok (.getfield 35, 3) := by decide +kernel
theorem d_P_start_22 : decode b_P_start 22 = .ok (.iload_n 1, 1) := by decide +kernel
theorem d_P_start_23 : decode b_P_start 23 = .ok (.iaload, 1) := by decide +kernel
theorem d_P_start_24 : decode b_P_start 24 = .ok (.goto 5, 3) := by decide +kernel
theorem d_P_start_27 : decode b_P_start 27 = .ok (.bipush (-2), 2) := by decide +kernel
theorem d_P_start_29 : decode b_P_start 29 = .ok (.ireturn, 1) := by decide +kernel
abbrev P_start_w (E : xE) (a_this : Nat) (a_knownStarts : Nat) (x_piece : Value) (x_image : Value) (x_packer : Value) (x_known : Value) (x_unpacker : Value) (v_knownPieces : Int32) (c_knownStarts : Nat → Int32) (v_pieces : Int32) (v_plain : Int32) (v_closed : Int32) : va_W := [(a_this, .inr (10, [x_piece, x_image, x_packer, .int v_pieces, .int v_plain, .int v_closed, x_known, .ref a_knownStarts, x_unpacker, .int v_knownPieces])), (a_knownStarts, .inl (E.2.1, 8, .inl c_knownStarts))]
def P_start (F : Nat) (v_knownPieces : Int32) (c_knownStarts : Nat → Int32) (x1 : Int32) : Option (Int32 × Unit) :=
  mC (x1 < 0) (some ((-2), ())) (mC (v_knownPieces ≤ x1) (some ((-2), ())) (mC (8 ≤ x1) (some ((-2), ())) (mG x1 8 (some (c_knownStarts x1.toNatClampNeg, ())))))
abbrev P_start_rm : Room := { frames := 0, cells := 0, slots := 0, locals := 0 }
set_option maxHeartbeats 4000000 in
set_option maxRecDepth 100000 in
theorem c_P_start (l : Launch) (E : xE) (F sz : Nat) (a_this : Nat) (a_knownStarts : Nat) (x_piece : Value) (x_image : Value) (x_packer : Value) (x_known : Value) (x_unpacker : Value) (v_knownPieces : Int32) (c_knownStarts : Nat → Int32) (v_pieces : Int32) (v_plain : Int32) (v_closed : Int32) (x1 : Int32) (res : Int32 × Unit) (hm : P_start F v_knownPieces c_knownStarts x1 = some res) : Met l y_P_start (Cond.code y_P_start b_P_start 2 (some .int) :: x_tb) P_start_rm (va_Pc [.ref a_this, .int x1] (xPre E (P_start_w E a_this a_knownStarts x_piece x_image x_packer x_known x_unpacker v_knownPieces c_knownStarts v_pieces v_plain v_closed) sz)) (xQi E (fun (r : Int32) (u : Unit) => r = res.1 ∧ u = res.2) (fun (u : Unit) => (P_start_w E a_this a_knownStarts x_piece x_image x_packer x_known x_unpacker v_knownPieces c_knownStarts v_pieces v_plain v_closed)) (va_A (P_start_w E a_this a_knownStarts x_piece x_image x_packer x_known x_unpacker v_knownPieces c_knownStarts v_pieces v_plain v_closed) sz)) 0 0 (va_A (P_start_w E a_this a_knownStarts x_piece x_image x_packer x_known x_unpacker v_knownPieces c_knownStarts v_pieces v_plain v_closed) sz) := by
  refine xEnI (by decide) (Nat.le_of_ble_eq_true rfl) ?_
  intro p e s m args below meth c A ls Q hx hb hnm hts hown hml hK hA hI hN hret hP hD hS hl
  replace hown : s.vm.findClass R_P = some m.cls := hown
  replace hl : lv_has ls 2 [(0, .ref a_this), (1, .int x1)] := hl
  obtain ⟨H, eH⟩ : ∃ z, z = s.heap := ⟨_, rfl⟩
  obtain ⟨locs, eL⟩ : ∃ z : List Loc, z = [] := ⟨_, rfl⟩
  rw [show W p l e P_start_rm s m args below meth c s.heap [] 0 0 Q (F0 m 0 ls []) = W p l e P_start_rm s m args below meth c H locs 0 0 Q (F0 m 0 ls []) by rw [eH, eL]]
  replace hP : va_P E.1 vwCl (P_start_w E a_this a_knownStarts x_piece x_image x_packer x_known x_unpacker v_knownPieces c_knownStarts v_pieces v_plain v_closed) H := by rw [eH]; exact hP
  replace hS : va_S A s.heap H locs := by rw [eH, eL]; exact hS
  clear eH eL
  rw [P_start] at hm
  refine lv_iload_n hx hb d_P_start_0 rfl (lv_at hl 1 rfl) ?_
  refine lv_if_lt (tgt := 27) hx hb d_P_start_1 (by decide) (fun c1 => ?_) (fun c1 => ?_)
  · replace hm := mC_t hm c1
    refine lv_bipush (v := (-2)) hx hb d_P_start_27 (by decide) ?_
    replace hm := Option.some.inj hm
    subst hm
    exact hret d_P_start_29 (u := ()) ⟨rfl, rfl⟩ hP hD hS
  · replace hm := mC_f hm c1
    refine lv_iload_n hx hb d_P_start_4 rfl (lv_at hl 1 rfl) ?_
    refine lv_aload_n hx hb d_P_start_5 rfl (lv_at hl 0 rfl) ?_
    refine va_get (D := E.1) (ci := 10) (v := .int v_knownPieces) (C := R_P) (T := F_P) (N := 10) hx hb hts i_P hown hK hP 0 rfl rfl 9 (by decide) (hts _ tw_383) (fun _ h9 => h9) rfl d_P_start_6 ?_
    refine lv_icmp_ge (tgt := 27) hx hb d_P_start_9 (by decide) (fun c9 => ?_) (fun c9 => ?_)
    · replace hm := mC_t hm c9
      refine lv_bipush (v := (-2)) hx hb d_P_start_27 (by decide) ?_
      replace hm := Option.some.inj hm
      subst hm
      exact hret d_P_start_29 (u := ()) ⟨rfl, rfl⟩ hP hD hS
    · replace hm := mC_f hm c9
      refine lv_iload_n hx hb d_P_start_12 rfl (lv_at hl 1 rfl) ?_
      refine lv_bipush (v := 8) hx hb d_P_start_13 (by decide) ?_
      refine lv_icmp_ge (tgt := 27) hx hb d_P_start_15 (by decide) (fun c15 => ?_) (fun c15 => ?_)
      · replace hm := mC_t hm c15
        refine lv_bipush (v := (-2)) hx hb d_P_start_27 (by decide) ?_
        replace hm := Option.some.inj hm
        subst hm
        exact hret d_P_start_29 (u := ()) ⟨rfl, rfl⟩ hP hD hS
      · replace hm := mC_f hm c15
        refine lv_aload_n hx hb d_P_start_18 rfl (lv_at hl 0 rfl) ?_
        refine va_get (D := E.1) (ci := 10) (v := .ref a_knownStarts) (C := R_P) (T := F_P) (N := 10) hx hb hts i_P hown hK hP 0 rfl rfl 7 (by decide) (hts _ tw_381) (fun _ h9 => h9) rfl d_P_start_19 ?_
        refine lv_iload_n hx hb d_P_start_22 rfl (lv_at hl 1 rfl) ?_
        obtain ⟨hi23, hm⟩ := mG_e hm
        refine va_iald hx hb hK hP 1 0 rfl rfl hi23 d_P_start_23 ?_
        refine lv_goto (tgt := 29) hx hb d_P_start_24 (by decide) ?_
        replace hm := Option.some.inj hm
        subst hm
        exact hret d_P_start_29 (u := ()) ⟨rfl, rfl⟩ hP hD hS
theorem d_P_openLength_0 : decode b_P_openLength 0 = .ok (.sipush 8192, 3) := by decide +kernel
theorem d_P_openLength_3 : decode b_P_openLength 3 = .ok (.aload_n 0, 1) := by decide +kernel
theorem d_P_openLength_4 : decode b_P_openLength 4 = .ok (.getfield 55, 3) := by decide +kernel
theorem d_P_openLength_7 : decode b_P_openLength 7 = .ok (.imul, 1) := by decide +kernel
theorem d_P_openLength_8 : decode b_P_openLength 8 = .ok (.aload_n 0, 1) := by decide +kernel
theorem d_P_openLength_9 : decode b_P_openLength 9 = .ok (.getfield 14, 3) := by decide +kernel
theorem d_P_openLength_12 : decode b_P_openLength 12 = .ok (.invokevirtual 69, 3) := by decide +kernel
theorem d_P_openLength_15 : decode b_P_openLength 15 = .ok (.iadd, 1) := by decide +kernel
theorem d_P_openLength_16 : decode b_P_openLength 16 = .ok (.ireturn, 1) := by decide +kernel
abbrev P_openLength_w (E : xE) (a_this : Nat) (a_piece : Nat) (x_image : Value) (x_packer : Value) (x_known : Value) (x_knownStarts : Value) (x_unpacker : Value) (x_piece_data : Value) (v_pieces : Int32) (v_piece_length : Int32) (v_plain : Int32) (v_closed : Int32) (v_knownPieces : Int32) : va_W := [(a_this, .inr (10, [.ref a_piece, x_image, x_packer, .int v_pieces, .int v_plain, .int v_closed, x_known, x_knownStarts, x_unpacker, .int v_knownPieces])), (a_piece, .inr (2, [x_piece_data, .int v_piece_length]))]
def P_openLength (F : Nat) (v_pieces : Int32) (v_piece_length : Int32) : Option (Int32 × Unit) :=
  mR0 (Bytes_length F v_piece_length) fun r_1 => some ((8192 * v_pieces) + r_1, ())
abbrev P_openLength_rm : Room := { frames := 1, cells := 0, slots := 0, locals := 20 }
set_option maxHeartbeats 4000000 in
set_option maxRecDepth 100000 in
theorem c_P_openLength (l : Launch) (E : xE) (F sz : Nat) (a_this : Nat) (a_piece : Nat) (x_image : Value) (x_packer : Value) (x_known : Value) (x_knownStarts : Value) (x_unpacker : Value) (x_piece_data : Value) (v_pieces : Int32) (v_piece_length : Int32) (v_plain : Int32) (v_closed : Int32) (v_knownPieces : Int32) (res : Int32 × Unit) (hm : P_openLength F v_pieces v_piece_length = some res) : Met l y_P_openLength (Cond.code y_P_openLength b_P_openLength 1 (some .int) :: x_tb) P_openLength_rm (va_Pc [.ref a_this] (xPre E (P_openLength_w E a_this a_piece x_image x_packer x_known x_knownStarts x_unpacker x_piece_data v_pieces v_piece_length v_plain v_closed v_knownPieces) sz)) (xQi E (fun (r : Int32) (u : Unit) => r = res.1 ∧ u = res.2) (fun (u : Unit) => (P_openLength_w E a_this a_piece x_image x_packer x_known x_knownStarts x_unpacker x_piece_data v_pieces v_piece_length v_plain v_closed v_knownPieces)) (va_A (P_openLength_w E a_this a_piece x_image x_packer x_known x_knownStarts x_unpacker x_piece_data v_pieces v_piece_length v_plain v_closed v_knownPieces) sz)) 0 0 (va_A (P_openLength_w E a_this a_piece x_image x_packer x_known x_knownStarts x_unpacker x_piece_data v_pieces v_piece_length v_plain v_closed v_knownPieces) sz) := by
  refine xEnI (by decide) (Nat.le_of_ble_eq_true rfl) ?_
  intro p e s m args below meth c A ls Q hx hb hnm hts hown hml hK hA hI hN hret hP hD hS hl
  replace hown : s.vm.findClass R_P = some m.cls := hown
  replace hl : lv_has ls 1 [(0, .ref a_this)] := hl
  obtain ⟨H, eH⟩ : ∃ z, z = s.heap := ⟨_, rfl⟩
  obtain ⟨locs, eL⟩ : ∃ z : List Loc, z = [] := ⟨_, rfl⟩
  rw [show W p l e P_openLength_rm s m args below meth c s.heap [] 0 0 Q (F0 m 0 ls []) = W p l e P_openLength_rm s m args below meth c H locs 0 0 Q (F0 m 0 ls []) by rw [eH, eL]]
  replace hP : va_P E.1 vwCl (P_openLength_w E a_this a_piece x_image x_packer x_known x_knownStarts x_unpacker x_piece_data v_pieces v_piece_length v_plain v_closed v_knownPieces) H := by rw [eH]; exact hP
  replace hS : va_S A s.heap H locs := by rw [eH, eL]; exact hS
  clear eH eL
  rw [P_openLength] at hm
  refine lv_sipush (v := 8192) hx hb d_P_openLength_0 (by decide) ?_
  refine lv_aload_n hx hb d_P_openLength_3 rfl (lv_at hl 0 rfl) ?_
  refine va_get (D := E.1) (ci := 10) (v := .int v_pieces) (C := R_P) (T := F_P) (N := 10) hx hb hts i_P hown hK hP 0 rfl rfl 3 (by decide) (hts _ tw_377) (fun _ h9 => h9) rfl d_P_openLength_4 ?_
  refine lv_imul hx hb d_P_openLength_7 ?_
  refine lv_aload_n hx hb d_P_openLength_8 rfl (lv_at hl 0 rfl) ?_
  refine va_get (D := E.1) (ci := 10) (v := .ref a_piece) (C := R_P) (T := F_P) (N := 10) hx hb hts i_P hown hK hP 0 rfl rfl 0 (by decide) (hts _ tw_374) (fun _ h9 => h9) rfl d_P_openLength_9 ?_
  obtain ⟨r_1, hc12, hm⟩ := mR0_e hm
  refine xmi (wc := (Bytes_length_w E a_piece x_piece_data v_piece_length)) [false, true] [0] [0] hP hD hS hA rfl (by decide) (by decide) 1 (by decide) (fun _ => rfl) (fun hPc hDc hFc => va_runV (As := []) (rest := [.int (8192 * v_pieces)]) ⟨hx, hb, hml, hown, hts⟩ (c_Bytes_length l E F H.size a_piece x_piece_data v_piece_length (r_1, ()) hc12) (cwV 0 hts (x_gV tw_421 tw_422 tw_423 tw_67 tw_424) rfl rfl rfl (by decide +kernel) ⟨Nat.le_of_ble_eq_true rfl, Nat.le_of_ble_eq_true rfl⟩) (xPV 2 0 rfl rfl hPc hDc hFc hK hI hN hS) rfl rfl hl.1 rfl (lv_room (Nat.le_of_ble_eq_true rfl)) d_P_openLength_12 ⟨Nat.le_of_ble_eq_true rfl, Nat.le_of_ble_eq_true rfl⟩) (fun r9 u9 H locs hw hP hD hS => ?_)
  have hw1 : r_1 = r9 := hw.1.symm
  subst hw1
  replace hP : va_P E.1 vwCl (P_openLength_w E a_this a_piece x_image x_packer x_known x_knownStarts x_unpacker x_piece_data v_pieces v_piece_length v_plain v_closed v_knownPieces) H := hP
  replace hD : va_D A (P_openLength_w E a_this a_piece x_image x_packer x_known x_knownStarts x_unpacker x_piece_data v_pieces v_piece_length v_plain v_closed v_knownPieces) := hD
  refine lv_iadd hx hb d_P_openLength_15 ?_
  replace hm := Option.some.inj hm
  subst hm
  exact hret d_P_openLength_16 (u := ()) ⟨rfl, rfl⟩ hP hD hS
theorem d_P_addHead_0 : decode b_P_addHead 0 = .ok (.aload_n 0, 1) := by decide +kernel
theorem d_P_addHead_1 : decode b_P_addHead 1 = .ok (.getfield 19, 3) := by decide +kernel
theorem d_P_addHead_4 : decode b_P_addHead 4 = .ok (.iload_n 1, 1) := by decide +kernel
theorem d_P_addHead_5 : decode b_P_addHead 5 = .ok (.invokevirtual 66, 3) := by decide +kernel
theorem d_P_addHead_8 : decode b_P_addHead 8 = .ok (.aload_n 0, 1) := by decide +kernel
theorem d_P_addHead_9 : decode b_P_addHead 9 = .ok (.getfield 19, 3) := by decide +kernel
theorem d_P_addHead_12 : decode b_P_addHead 12 = .ok (.iload_n 1, 1) := by decide +kernel
theorem d_P_addHead_13 : decode b_P_addHead 13 = .ok (.bipush 8, 2) := by decide +kernel
theorem d_P_addHead_15 : decode b_P_addHead 15 = .ok (.ishr, 1) := by decide +kernel
theorem d_P_addHead_16 : decode b_P_addHead 16 = .ok (.invokevirtual 66, 3) := by decide +kernel
theorem d_P_addHead_19 : decode b_P_addHead 19 = .ok (.return_, 1) := by decide +kernel
abbrev P_addHead_w (E : xE) (a_this : Nat) (a_image : Nat) (a_image_data : Nat) (n_image_data : Nat) (x_piece : Value) (x_packer : Value) (x_known : Value) (x_knownStarts : Value) (x_unpacker : Value) (v_image_length : Int32) (c_image_data : Nat → Int32) (v_pieces : Int32) (v_plain : Int32) (v_closed : Int32) (v_knownPieces : Int32) : va_W := [(a_this, .inr (10, [x_piece, .ref a_image, x_packer, .int v_pieces, .int v_plain, .int v_closed, x_known, x_knownStarts, x_unpacker, .int v_knownPieces])), (a_image, .inr (2, [.ref a_image_data, .int v_image_length])), (a_image_data, .inl (E.2.2.1, n_image_data, .inl c_image_data))]
def P_addHead (F : Nat) (n_image_data : Nat) (v_image_length : Int32) (c_image_data : Nat → Int32) (x1 : Int32) : Option (Unit × Int32 × (Nat → Int32)) :=
  mR2 (Bytes_add F n_image_data v_image_length c_image_data x1) fun _ v_length_1 c_data_2 => mL (x1 >>> ((8 : Int32) &&& 31)) fun t_4 => mR2 (Bytes_add F n_image_data v_length_1 c_data_2 t_4) fun _ v_length_5 c_data_6 => some ((), v_length_5, c_data_6)
abbrev P_addHead_rm : Room := { frames := 1, cells := 0, slots := 0, locals := 21 }
set_option maxHeartbeats 4000000 in
set_option maxRecDepth 100000 in
theorem c_P_addHead (l : Launch) (E : xE) (F sz : Nat) (a_this : Nat) (a_image : Nat) (a_image_data : Nat) (n_image_data : Nat) (x_piece : Value) (x_packer : Value) (x_known : Value) (x_knownStarts : Value) (x_unpacker : Value) (v_image_length : Int32) (c_image_data : Nat → Int32) (v_pieces : Int32) (v_plain : Int32) (v_closed : Int32) (v_knownPieces : Int32) (x1 : Int32) (res : Unit × Int32 × (Nat → Int32)) (hm : P_addHead F n_image_data v_image_length c_image_data x1 = some res) : Met l y_P_addHead (Cond.code y_P_addHead b_P_addHead 2 none :: x_tb) P_addHead_rm (va_Pc [.ref a_this, .int x1] (xPre E (P_addHead_w E a_this a_image a_image_data n_image_data x_piece x_packer x_known x_knownStarts x_unpacker v_image_length c_image_data v_pieces v_plain v_closed v_knownPieces) sz)) (xQv E (fun (u : Int32 × (Nat → Int32)) => u = res.2) (fun (u : Int32 × (Nat → Int32)) => (P_addHead_w E a_this a_image a_image_data n_image_data x_piece x_packer x_known x_knownStarts x_unpacker u.1 u.2 v_pieces v_plain v_closed v_knownPieces)) (va_A (P_addHead_w E a_this a_image a_image_data n_image_data x_piece x_packer x_known x_knownStarts x_unpacker v_image_length c_image_data v_pieces v_plain v_closed v_knownPieces) sz)) 0 0 (va_A (P_addHead_w E a_this a_image a_image_data n_image_data x_piece x_packer x_known x_knownStarts x_unpacker v_image_length c_image_data v_pieces v_plain v_closed v_knownPieces) sz) := by
  refine xEnV (by decide) (Nat.le_of_ble_eq_true rfl) ?_
  intro p e s m args below meth c A ls Q hx hb hnm hts hown hml hK hA hI hN hret hP hD hS hl
  replace hown : s.vm.findClass R_P = some m.cls := hown
  replace hl : lv_has ls 2 [(0, .ref a_this), (1, .int x1)] := hl
  obtain ⟨H, eH⟩ : ∃ z, z = s.heap := ⟨_, rfl⟩
  obtain ⟨locs, eL⟩ : ∃ z : List Loc, z = [] := ⟨_, rfl⟩
  rw [show W p l e P_addHead_rm s m args below meth c s.heap [] 0 0 Q (F0 m 0 ls []) = W p l e P_addHead_rm s m args below meth c H locs 0 0 Q (F0 m 0 ls []) by rw [eH, eL]]
  replace hP : va_P E.1 vwCl (P_addHead_w E a_this a_image a_image_data n_image_data x_piece x_packer x_known x_knownStarts x_unpacker v_image_length c_image_data v_pieces v_plain v_closed v_knownPieces) H := by rw [eH]; exact hP
  replace hS : va_S A s.heap H locs := by rw [eH, eL]; exact hS
  clear eH eL
  rw [P_addHead] at hm
  refine lv_aload_n hx hb d_P_addHead_0 rfl (lv_at hl 0 rfl) ?_
  refine va_get (D := E.1) (ci := 10) (v := .ref a_image) (C := R_P) (T := F_P) (N := 10) hx hb hts i_P hown hK hP 0 rfl rfl 1 (by decide) (hts _ tw_375) (fun _ h9 => h9) rfl d_P_addHead_1 ?_
  refine lv_iload_n hx hb d_P_addHead_4 rfl (lv_at hl 1 rfl) ?_
  obtain ⟨r_3, v_length_1, c_data_2, hc5, hm⟩ := mR2_e hm
  refine xmv (wc := (Bytes_add_w E a_image a_image_data n_image_data v_image_length c_image_data)) [false, true, true] [0, 1] [0, 1] hP hD hS hA rfl (by decide) (by decide) 2 (by decide) (fun _ => rfl) (fun hPc hDc hFc => va_runV (As := [.int x1]) (rest := []) ⟨hx, hb, hml, hown, hts⟩ (c_Bytes_add l E F H.size a_image a_image_data n_image_data v_image_length c_image_data x1 (r_3, v_length_1, c_data_2) hc5) (cwV 1 hts (x_gV tw_425 tw_426 tw_427 tw_67 tw_428) rfl rfl rfl (by decide +kernel) ⟨Nat.le_of_ble_eq_true rfl, Nat.le_of_ble_eq_true rfl⟩) (xPV 2 0 rfl rfl hPc hDc hFc hK hI hN hS) rfl rfl hl.1 rfl (lv_room (Nat.le_of_ble_eq_true rfl)) d_P_addHead_5 ⟨Nat.le_of_ble_eq_true rfl, Nat.le_of_ble_eq_true rfl⟩) (fun u9 H locs hw hP hD hS => ?_)
  have hw2 : (v_length_1, c_data_2) = u9 := hw.symm
  subst hw2
  replace hP : va_P E.1 vwCl (P_addHead_w E a_this a_image a_image_data n_image_data x_piece x_packer x_known x_knownStarts x_unpacker v_length_1 c_data_2 v_pieces v_plain v_closed v_knownPieces) H := hP
  replace hD : va_D A (P_addHead_w E a_this a_image a_image_data n_image_data x_piece x_packer x_known x_knownStarts x_unpacker v_length_1 c_data_2 v_pieces v_plain v_closed v_knownPieces) := hD
  refine lv_aload_n hx hb d_P_addHead_8 rfl (lv_at hl 0 rfl) ?_
  refine va_get (D := E.1) (ci := 10) (v := .ref a_image) (C := R_P) (T := F_P) (N := 10) hx hb hts i_P hown hK hP 0 rfl rfl 1 (by decide) (hts _ tw_375) (fun _ h9 => h9) rfl d_P_addHead_9 ?_
  refine lv_iload_n hx hb d_P_addHead_12 rfl (lv_at hl 1 rfl) ?_
  refine lv_bipush (v := 8) hx hb d_P_addHead_13 (by decide) ?_
  refine lv_ishr hx hb d_P_addHead_15 ?_
  obtain ⟨t_4, et_4⟩ : ∃ z : Int32, z = x1 >>> ((8 : Int32) &&& 31) := ⟨_, rfl⟩
  rw [← et_4]
  replace hm := mL_e hm t_4 et_4
  obtain ⟨r_7, v_length_5, c_data_6, hc16, hm⟩ := mR2_e hm
  refine xmv (wc := (Bytes_add_w E a_image a_image_data n_image_data v_length_1 c_data_2)) [false, true, true] [0, 1] [0, 1] hP hD hS hA rfl (by decide) (by decide) 2 (by decide) (fun _ => rfl) (fun hPc hDc hFc => va_runV (As := [.int t_4]) (rest := []) ⟨hx, hb, hml, hown, hts⟩ (c_Bytes_add l E F H.size a_image a_image_data n_image_data v_length_1 c_data_2 t_4 (r_7, v_length_5, c_data_6) hc16) (cwV 1 hts (x_gV tw_425 tw_426 tw_427 tw_67 tw_428) rfl rfl rfl (by decide +kernel) ⟨Nat.le_of_ble_eq_true rfl, Nat.le_of_ble_eq_true rfl⟩) (xPV 2 0 rfl rfl hPc hDc hFc hK hI hN hS) rfl rfl hl.1 rfl (lv_room (Nat.le_of_ble_eq_true rfl)) d_P_addHead_16 ⟨Nat.le_of_ble_eq_true rfl, Nat.le_of_ble_eq_true rfl⟩) (fun u9 H locs hw hP hD hS => ?_)
  have hw2 : (v_length_5, c_data_6) = u9 := hw.symm
  subst hw2
  replace hP : va_P E.1 vwCl (P_addHead_w E a_this a_image a_image_data n_image_data x_piece x_packer x_known x_knownStarts x_unpacker v_length_5 c_data_6 v_pieces v_plain v_closed v_knownPieces) H := hP
  replace hD : va_D A (P_addHead_w E a_this a_image a_image_data n_image_data x_piece x_packer x_known x_knownStarts x_unpacker v_length_5 c_data_6 v_pieces v_plain v_closed v_knownPieces) := hD
  replace hm := Option.some.inj hm
  subst hm
  exact hret d_P_addHead_19 (u := (v_length_5, c_data_6)) rfl hP hD hS
theorem d_P_headAt_0 : decode b_P_headAt 0 = .ok (.aload_n 0, 1) := by decide +kernel
theorem d_P_headAt_1 : decode b_P_headAt 1 = .ok (.getfield 19, 3) := by decide +kernel
theorem d_P_headAt_4 : decode b_P_headAt 4 = .ok (.iload_n 1, 1) := by decide +kernel
theorem d_P_headAt_5 : decode b_P_headAt 5 = .ok (.invokevirtual 83, 3) := by decide +kernel
theorem d_P_headAt_8 : decode b_P_headAt 8 = .ok (.aload_n 0, 1) := by decide +kernel
theorem d_P_headAt_9 : decode b_P_headAt 9 = .ok (.getfield 19, 3) := by decide +kernel
theorem d_P_headAt_12 : decode b_P_headAt 12 = .ok (.iload_n 1, 1) := by decide +kernel
theorem d_P_headAt_13 : decode b_P_headAt 13 = .ok (.iconst 1, 1) := by decide +kernel
theorem d_P_headAt_14 : decode b_P_headAt 14 = .ok (.iadd, 1) := by decide +kernel
theorem d_P_headAt_15 : decode b_P_headAt 15 = .ok (.invokevirtual 83, 3) := by decide +kernel
theorem d_P_headAt_18 : decode b_P_headAt 18 = .ok (.bipush 8, 2) := by decide +kernel
theorem d_P_headAt_20 : decode b_P_headAt 20 = .ok (.ishl, 1) := by decide +kernel
theorem d_P_headAt_21 : decode b_P_headAt 21 = .ok (.ior, 1) := by decide +kernel
theorem d_P_headAt_22 : decode b_P_headAt 22 = .ok (.ireturn, 1) := by decide +kernel
abbrev P_headAt_w (E : xE) (a_this : Nat) (a_image : Nat) (a_image_data : Nat) (n_image_data : Nat) (x_piece : Value) (x_packer : Value) (x_known : Value) (x_knownStarts : Value) (x_unpacker : Value) (v_image_length : Int32) (c_image_data : Nat → Int32) (v_pieces : Int32) (v_plain : Int32) (v_closed : Int32) (v_knownPieces : Int32) : va_W := [(a_this, .inr (10, [x_piece, .ref a_image, x_packer, .int v_pieces, .int v_plain, .int v_closed, x_known, x_knownStarts, x_unpacker, .int v_knownPieces])), (a_image, .inr (2, [.ref a_image_data, .int v_image_length])), (a_image_data, .inl (E.2.2.1, n_image_data, .inl c_image_data))]
def P_headAt (F : Nat) (n_image_data : Nat) (v_image_length : Int32) (c_image_data : Nat → Int32) (x1 : Int32) : Option (Int32 × Unit) :=
  mR0 (Bytes_at F n_image_data v_image_length c_image_data x1) fun r_1 => mL (x1 + 1) fun t_2 => mR0 (Bytes_at F n_image_data v_image_length c_image_data t_2) fun r_3 => some (r_1 ||| (r_3 <<< ((8 : Int32) &&& 31)), ())
abbrev P_headAt_rm : Room := { frames := 1, cells := 0, slots := 0, locals := 21 }
set_option maxHeartbeats 4000000 in
set_option maxRecDepth 100000 in
theorem c_P_headAt (l : Launch) (E : xE) (F sz : Nat) (a_this : Nat) (a_image : Nat) (a_image_data : Nat) (n_image_data : Nat) (x_piece : Value) (x_packer : Value) (x_known : Value) (x_knownStarts : Value) (x_unpacker : Value) (v_image_length : Int32) (c_image_data : Nat → Int32) (v_pieces : Int32) (v_plain : Int32) (v_closed : Int32) (v_knownPieces : Int32) (x1 : Int32) (res : Int32 × Unit) (hm : P_headAt F n_image_data v_image_length c_image_data x1 = some res) : Met l y_P_headAt (Cond.code y_P_headAt b_P_headAt 2 (some .int) :: x_tb) P_headAt_rm (va_Pc [.ref a_this, .int x1] (xPre E (P_headAt_w E a_this a_image a_image_data n_image_data x_piece x_packer x_known x_knownStarts x_unpacker v_image_length c_image_data v_pieces v_plain v_closed v_knownPieces) sz)) (xQi E (fun (r : Int32) (u : Unit) => r = res.1 ∧ u = res.2) (fun (u : Unit) => (P_headAt_w E a_this a_image a_image_data n_image_data x_piece x_packer x_known x_knownStarts x_unpacker v_image_length c_image_data v_pieces v_plain v_closed v_knownPieces)) (va_A (P_headAt_w E a_this a_image a_image_data n_image_data x_piece x_packer x_known x_knownStarts x_unpacker v_image_length c_image_data v_pieces v_plain v_closed v_knownPieces) sz)) 0 0 (va_A (P_headAt_w E a_this a_image a_image_data n_image_data x_piece x_packer x_known x_knownStarts x_unpacker v_image_length c_image_data v_pieces v_plain v_closed v_knownPieces) sz) := by
  refine xEnI (by decide) (Nat.le_of_ble_eq_true rfl) ?_
  intro p e s m args below meth c A ls Q hx hb hnm hts hown hml hK hA hI hN hret hP hD hS hl
  replace hown : s.vm.findClass R_P = some m.cls := hown
  replace hl : lv_has ls 2 [(0, .ref a_this), (1, .int x1)] := hl
  obtain ⟨H, eH⟩ : ∃ z, z = s.heap := ⟨_, rfl⟩
  obtain ⟨locs, eL⟩ : ∃ z : List Loc, z = [] := ⟨_, rfl⟩
  rw [show W p l e P_headAt_rm s m args below meth c s.heap [] 0 0 Q (F0 m 0 ls []) = W p l e P_headAt_rm s m args below meth c H locs 0 0 Q (F0 m 0 ls []) by rw [eH, eL]]
  replace hP : va_P E.1 vwCl (P_headAt_w E a_this a_image a_image_data n_image_data x_piece x_packer x_known x_knownStarts x_unpacker v_image_length c_image_data v_pieces v_plain v_closed v_knownPieces) H := by rw [eH]; exact hP
  replace hS : va_S A s.heap H locs := by rw [eH, eL]; exact hS
  clear eH eL
  rw [P_headAt] at hm
  refine lv_aload_n hx hb d_P_headAt_0 rfl (lv_at hl 0 rfl) ?_
  refine va_get (D := E.1) (ci := 10) (v := .ref a_image) (C := R_P) (T := F_P) (N := 10) hx hb hts i_P hown hK hP 0 rfl rfl 1 (by decide) (hts _ tw_375) (fun _ h9 => h9) rfl d_P_headAt_1 ?_
  refine lv_iload_n hx hb d_P_headAt_4 rfl (lv_at hl 1 rfl) ?_
  obtain ⟨r_1, hc5, hm⟩ := mR0_e hm
  refine xmi (wc := (Bytes_at_w E a_image a_image_data n_image_data v_image_length c_image_data)) [false, true, true] [0, 1] [0, 1] hP hD hS hA rfl (by decide) (by decide) 2 (by decide) (fun _ => rfl) (fun hPc hDc hFc => va_runV (As := [.int x1]) (rest := []) ⟨hx, hb, hml, hown, hts⟩ (c_Bytes_at l E F H.size a_image a_image_data n_image_data v_image_length c_image_data x1 (r_1, ()) hc5) (cwV 1 hts (x_gV tw_612 tw_448 tw_449 tw_67 tw_450) rfl rfl rfl (by decide +kernel) ⟨Nat.le_of_ble_eq_true rfl, Nat.le_of_ble_eq_true rfl⟩) (xPV 2 0 rfl rfl hPc hDc hFc hK hI hN hS) rfl rfl hl.1 rfl (lv_room (Nat.le_of_ble_eq_true rfl)) d_P_headAt_5 ⟨Nat.le_of_ble_eq_true rfl, Nat.le_of_ble_eq_true rfl⟩) (fun r9 u9 H locs hw hP hD hS => ?_)
  have hw1 : r_1 = r9 := hw.1.symm
  subst hw1
  replace hP : va_P E.1 vwCl (P_headAt_w E a_this a_image a_image_data n_image_data x_piece x_packer x_known x_knownStarts x_unpacker v_image_length c_image_data v_pieces v_plain v_closed v_knownPieces) H := hP
  replace hD : va_D A (P_headAt_w E a_this a_image a_image_data n_image_data x_piece x_packer x_known x_knownStarts x_unpacker v_image_length c_image_data v_pieces v_plain v_closed v_knownPieces) := hD
  refine lv_aload_n hx hb d_P_headAt_8 rfl (lv_at hl 0 rfl) ?_
  refine va_get (D := E.1) (ci := 10) (v := .ref a_image) (C := R_P) (T := F_P) (N := 10) hx hb hts i_P hown hK hP 0 rfl rfl 1 (by decide) (hts _ tw_375) (fun _ h9 => h9) rfl d_P_headAt_9 ?_
  refine lv_iload_n hx hb d_P_headAt_12 rfl (lv_at hl 1 rfl) ?_
  refine lv_iconst (v := 1) hx hb d_P_headAt_13 (by decide) ?_
  refine lv_iadd hx hb d_P_headAt_14 ?_
  obtain ⟨t_2, et_2⟩ : ∃ z : Int32, z = x1 + 1 := ⟨_, rfl⟩
  rw [← et_2]
  replace hm := mL_e hm t_2 et_2
  obtain ⟨r_3, hc15, hm⟩ := mR0_e hm
  refine xmi (wc := (Bytes_at_w E a_image a_image_data n_image_data v_image_length c_image_data)) [false, true, true] [0, 1] [0, 1] hP hD hS hA rfl (by decide) (by decide) 2 (by decide) (fun _ => rfl) (fun hPc hDc hFc => va_runV (As := [.int t_2]) (rest := [.int r_1]) ⟨hx, hb, hml, hown, hts⟩ (c_Bytes_at l E F H.size a_image a_image_data n_image_data v_image_length c_image_data t_2 (r_3, ()) hc15) (cwV 1 hts (x_gV tw_612 tw_448 tw_449 tw_67 tw_450) rfl rfl rfl (by decide +kernel) ⟨Nat.le_of_ble_eq_true rfl, Nat.le_of_ble_eq_true rfl⟩) (xPV 2 0 rfl rfl hPc hDc hFc hK hI hN hS) rfl rfl hl.1 rfl (lv_room (Nat.le_of_ble_eq_true rfl)) d_P_headAt_15 ⟨Nat.le_of_ble_eq_true rfl, Nat.le_of_ble_eq_true rfl⟩) (fun r9 u9 H locs hw hP hD hS => ?_)
  have hw1 : r_3 = r9 := hw.1.symm
  subst hw1
  replace hP : va_P E.1 vwCl (P_headAt_w E a_this a_image a_image_data n_image_data x_piece x_packer x_known x_knownStarts x_unpacker v_image_length c_image_data v_pieces v_plain v_closed v_knownPieces) H := hP
  replace hD : va_D A (P_headAt_w E a_this a_image a_image_data n_image_data x_piece x_packer x_known x_knownStarts x_unpacker v_image_length c_image_data v_pieces v_plain v_closed v_knownPieces) := hD
  refine lv_bipush (v := 8) hx hb d_P_headAt_18 (by decide) ?_
  refine lv_ishl hx hb d_P_headAt_20 ?_
  refine lv_ior hx hb d_P_headAt_21 ?_
  replace hm := Option.some.inj hm
  subst hm
  exact hret d_P_headAt_22 (u := ()) ⟨rfl, rfl⟩ hP hD hS
theorem d_P_findPieces_0 : decode b_P_findPieces 0 = .ok (.iconst 0, 1) := by decide +kernel
theorem d_P_findPieces_1 : decode b_P_findPieces 1 = .ok (.istore_n 1, 1) := by decide +kernel
theorem d_P_findPieces_2 : decode b_P_findPieces 2 = .ok (.iconst 0, 1) := by decide +kernel
theorem d_P_findPieces_3 : decode b_P_findPieces 3 = .ok (.istore_n 2, 1) := by decide +kernel
theorem d_P_findPieces_4 : decode b_P_findPieces 4 = .ok (.iload_n 2, 1) := by decide +kernel
theorem d_P_findPieces_5 : decode b_P_findPieces 5 = .ok (.aload_n 0, 1) := by decide +kernel
theorem d_P_findPieces_6 : decode b_P_findPieces 6 = .ok (.getfield 19, 3) := by decide +kernel
theorem d_P_findPieces_9 : decode b_P_findPieces 9 = .ok (.invokevirtual 69, 3) := by decide +kernel
theorem d_P_findPieces_12 : decode b_P_findPieces 12 = .ok (.if_icmp .ge 66, 3) := by decide +kernel
theorem d_P_findPieces_15 : decode b_P_findPieces 15 = .ok (.aload_n 0, 1) := by decide +kernel
theorem d_P_findPieces_16 : decode b_P_findPieces 16 = .ok (.iload_n 2, 1) := by decide +kernel
theorem d_P_findPieces_17 : decode b_P_findPieces 17 = .ok (.invokevirtual 114, 3) := by decide +kernel
theorem d_P_findPieces_20 : decode b_P_findPieces 20 = .ok (.invokestatic 117, 3) := by decide +kernel
theorem d_P_findPieces_23 : decode b_P_findPieces 23 = .ok (.istore_n 3, 1) := by decide +kernel
theorem d_P_findPieces_24 : decode b_P_findPieces 24 = .ok (.iload_n 3, 1) := by decide +kernel
theorem d_P_findPieces_25 : decode b_P_findPieces 25 = .ok (.iconst 1, 1) := by decide +kernel
theorem d_P_findPieces_26 : decode b_P_findPieces 26 = .ok (.if_icmp .lt 25, 3) := by decide +kernel
theorem d_P_findPieces_29 : decode b_P_findPieces 29 = .ok (.iload_n 3, 1) := by decide +kernel
theorem d_P_findPieces_30 : decode b_P_findPieces 30 = .ok (.sipush 8192, 3) := by decide +kernel
theorem d_P_findPieces_33 : decode b_P_findPieces 33 = .ok (.if_icmp .gt 18, 3) := by decide +kernel
theorem d_P_findPieces_36 : decode b_P_findPieces 36 = .ok (.iload_n 2, 1) := by decide +kernel
theorem d_P_findPieces_37 : decode b_P_findPieces 37 = .ok (.iconst 2, 1) := by decide +kernel
theorem d_P_findPieces_38 : decode b_P_findPieces 38 = .ok (.iadd, 1) := by decide +kernel
theorem d_P_findPieces_39 : decode b_P_findPieces 39 = .ok (.iload_n 3, 1) := by decide +kernel
theorem d_P_findPieces_40 : decode b_P_findPieces 40 = .ok (.iadd, 1) := by decide +kernel
theorem d_P_findPieces_41 : decode b_P_findPieces 41 = .ok (.aload_n 0, 1) := by decide +kernel
theorem d_P_findPieces_42 : decode b_P_findPieces 42 = .ok (.getfield 19, 3) := by decide +kernel
theorem d_P_findPieces_45 : decode b_P_findPieces 45 = .ok (.invokevirtual 69, 3) := by decide +kernel
theorem d_P_findPieces_48 : decode b_P_findPieces 48 = .ok (.if_icmp .le 5, 3) := by decide +kernel
theorem d_P_findPieces_51 : decode b_P_findPieces 51 = .ok (.iconst (-1), 1) := by decide +kernel
theorem d_P_findPieces_52 : decode b_P_findPieces 52 = .ok (.ireturn, 1) := by decide +kernel
theorem d_P_findPieces_53 : decode b_P_findPieces 53 = .ok (.iload_n 1, 1) := by decide +kernel
theorem d_P_findPieces_54 : decode b_P_findPieces 54 = .ok (.bipush 8, 2) := by decide +kernel
theorem d_P_findPieces_56 : decode b_P_findPieces 56 = .ok (.if_icmp .ge 10, 3) := by decide +kernel
theorem d_P_findPieces_59 : decode b_P_findPieces 59 = .ok (.aload_n 0, 1) := by decide +kernel
theorem d_P_findPieces_60 : decode b_P_findPieces 60 = .ok (.getfield 35, 3) := by decide +kernel
theorem d_P_findPieces_63 : decode b_P_findPieces 63 = .ok (.iload_n 1, 1) := by decide +kernel
theorem d_P_findPieces_64 : decode b_P_findPieces 64 = .ok (.iload_n 2, 1) := by decide +kernel
theorem d_P_findPieces_65 : decode b_P_findPieces 65 = .ok (.iastore, 1) := by decide +kernel
theorem d_P_findPieces_66 : decode b_P_findPieces 66 = .ok (.iinc 1 1, 3) := by decide +kernel
theorem d_P_findPieces_69 : decode b_P_findPieces 69 = .ok (.iload_n 2, 1) := by decide +kernel
theorem d_P_findPieces_70 : decode b_P_findPieces 70 = .ok (.iconst 2, 1) := by decide +kernel
theorem d_P_findPieces_71 : decode b_P_findPieces 71 = .ok (.iload_n 3, 1) := by decide +kernel
theorem d_P_findPieces_72 : decode b_P_findPieces 72 = .ok (.iadd, 1) := by decide +kernel
theorem d_P_findPieces_73 : decode b_P_findPieces 73 = .ok (.iadd, 1) := by decide +kernel
theorem d_P_findPieces_74 : decode b_P_findPieces 74 = .ok (.istore_n 2, 1) := by decide +kernel
theorem d_P_findPieces_75 : decode b_P_findPieces 75 = .ok (.goto (-71), 3) := by decide +kernel
theorem d_P_findPieces_78 : decode b_P_findPieces 78 = .ok (.iload_n 1, 1) := by decide +kernel
theorem d_P_findPieces_79 : decode b_P_findPieces 79 = .ok (.ireturn, 1) := by decide +kernel
def P_findPieces_66 (F : Nat) (k_4 : (Nat → Int32) → Int32 → Int32 → Option (Int32 × (Nat → Int32))) (c_knownStarts : Nat → Int32) (x1 : Int32) (x2 : Int32) (x3 : Int32) : Option (Int32 × (Nat → Int32)) :=
  mL (x1 + 1) fun y1_5 => mL (x2 + (2 + x3)) fun y2_6 => k_4 c_knownStarts y1_5 y2_6
def P_findPieces_4 (F : Nat) (n_image_data : Nat) (v_image_length : Int32) (c_image_data : Nat → Int32) (k_4 : (Nat → Int32) → Int32 → Int32 → Option (Int32 × (Nat → Int32))) (c_knownStarts : Nat → Int32) (x1 : Int32) (x2 : Int32) : Option (Int32 × (Nat → Int32)) :=
  mR0 (Bytes_length F v_image_length) fun r_1 => mC (r_1 ≤ x2) (some (x1, c_knownStarts)) (mR0 (P_headAt F n_image_data v_image_length c_image_data x2) fun r_2 => mR0 (P_bytesTold F r_2) fun r_3 => mC (r_3 < 1) (some ((-1), c_knownStarts)) (mC (8192 < r_3) (some ((-1), c_knownStarts)) (mR0 (Bytes_length F v_image_length) fun r_4 => mC (((x2 + 2) + r_3) ≤ r_4) (mC (8 ≤ x1) ((P_findPieces_66 F k_4) c_knownStarts x1 x2 r_3) (mG x1 8 (mL (upd c_knownStarts x1.toNatClampNeg x2) fun c_7 => (P_findPieces_66 F k_4) c_7 x1 x2 r_3))) (some ((-1), c_knownStarts)))))
abbrev P_findPieces_w (E : xE) (a_this : Nat) (a_image : Nat) (a_image_data : Nat) (a_knownStarts : Nat) (n_image_data : Nat) (x_piece : Value) (x_packer : Value) (x_known : Value) (x_unpacker : Value) (v_image_length : Int32) (c_image_data : Nat → Int32) (c_knownStarts : Nat → Int32) (v_pieces : Int32) (v_plain : Int32) (v_closed : Int32) (v_knownPieces : Int32) : va_W := [(a_this, .inr (10, [x_piece, .ref a_image, x_packer, .int v_pieces, .int v_plain, .int v_closed, x_known, .ref a_knownStarts, x_unpacker, .int v_knownPieces])), (a_image, .inr (2, [.ref a_image_data, .int v_image_length])), (a_image_data, .inl (E.2.2.1, n_image_data, .inl c_image_data)), (a_knownStarts, .inl (E.2.1, 8, .inl c_knownStarts))]
def P_findPieces (F : Nat) (n_image_data : Nat) (v_image_length : Int32) (c_image_data : Nat → Int32) (c_knownStarts : Nat → Int32) : Option (Int32 × (Nat → Int32)) :=
  (mW3 (P_findPieces_4 F n_image_data v_image_length c_image_data) F) c_knownStarts 0 0
abbrev P_findPieces_rm : Room := { frames := 2, cells := 0, slots := 0, locals := 42 }
set_option maxHeartbeats 4000000 in
set_option maxRecDepth 100000 in
theorem c_P_findPieces (l : Launch) (E : xE) (F sz : Nat) (a_this : Nat) (a_image : Nat) (a_image_data : Nat) (a_knownStarts : Nat) (n_image_data : Nat) (x_piece : Value) (x_packer : Value) (x_known : Value) (x_unpacker : Value) (v_image_length : Int32) (c_image_data : Nat → Int32) (c_knownStarts : Nat → Int32) (v_pieces : Int32) (v_plain : Int32) (v_closed : Int32) (v_knownPieces : Int32) (res : Int32 × (Nat → Int32)) (hm : P_findPieces F n_image_data v_image_length c_image_data c_knownStarts = some res) : Met l y_P_findPieces (Cond.code y_P_findPieces b_P_findPieces 4 (some .int) :: x_tb) P_findPieces_rm (va_Pc [.ref a_this] (xPre E (P_findPieces_w E a_this a_image a_image_data a_knownStarts n_image_data x_piece x_packer x_known x_unpacker v_image_length c_image_data c_knownStarts v_pieces v_plain v_closed v_knownPieces) sz)) (xQi E (fun (r : Int32) (u : (Nat → Int32)) => r = res.1 ∧ u = res.2) (fun (u : (Nat → Int32)) => (P_findPieces_w E a_this a_image a_image_data a_knownStarts n_image_data x_piece x_packer x_known x_unpacker v_image_length c_image_data u v_pieces v_plain v_closed v_knownPieces)) (va_A (P_findPieces_w E a_this a_image a_image_data a_knownStarts n_image_data x_piece x_packer x_known x_unpacker v_image_length c_image_data c_knownStarts v_pieces v_plain v_closed v_knownPieces) sz)) 0 0 (va_A (P_findPieces_w E a_this a_image a_image_data a_knownStarts n_image_data x_piece x_packer x_known x_unpacker v_image_length c_image_data c_knownStarts v_pieces v_plain v_closed v_knownPieces) sz) := by
  refine xEnI (by decide) (Nat.le_of_ble_eq_true rfl) ?_
  intro p e s m args below meth c A ls Q hx hb hnm hts hown hml hK hA hI hN hret hP hD hS hl
  replace hown : s.vm.findClass R_P = some m.cls := hown
  replace hl : lv_has ls 4 [(0, .ref a_this)] := hl
  obtain ⟨H, eH⟩ : ∃ z, z = s.heap := ⟨_, rfl⟩
  obtain ⟨locs, eL⟩ : ∃ z : List Loc, z = [] := ⟨_, rfl⟩
  rw [show W p l e P_findPieces_rm s m args below meth c s.heap [] 0 0 Q (F0 m 0 ls []) = W p l e P_findPieces_rm s m args below meth c H locs 0 0 Q (F0 m 0 ls []) by rw [eH, eL]]
  replace hP : va_P E.1 vwCl (P_findPieces_w E a_this a_image a_image_data a_knownStarts n_image_data x_piece x_packer x_known x_unpacker v_image_length c_image_data c_knownStarts v_pieces v_plain v_closed v_knownPieces) H := by rw [eH]; exact hP
  replace hS : va_S A s.heap H locs := by rw [eH, eL]; exact hS
  clear eH eL
  rw [P_findPieces] at hm
  have h_4 : ∀ (n_4 : Nat) (c_knownStarts : Nat → Int32) (x1 : Int32) (x2 : Int32) (H : Heap) (locs : List Loc) (ls : Array Slot), (mW3 (P_findPieces_4 F n_image_data v_image_length c_image_data) n_4) c_knownStarts x1 x2 = some res → va_P E.1 vwCl (P_findPieces_w E a_this a_image a_image_data a_knownStarts n_image_data x_piece x_packer x_known x_unpacker v_image_length c_image_data c_knownStarts v_pieces v_plain v_closed v_knownPieces) H → va_D A (P_findPieces_w E a_this a_image a_image_data a_knownStarts n_image_data x_piece x_packer x_known x_unpacker v_image_length c_image_data c_knownStarts v_pieces v_plain v_closed v_knownPieces) → va_S A s.heap H locs → lv_has ls 4 [(0, .ref a_this), (1, .int x1), (2, .int x2)] → W p l e P_findPieces_rm s m args below meth c H locs 0 0 Q (F0 m 4 ls []) := by
    intro n_4
    induction n_4 with
    | zero => exact fun _ _ _ _ _ _ hm _ _ _ _ => (mW3_z hm).elim
    | succ n_4 ih_4 =>
      intro c_knownStarts x1 x2 H locs ls hm hP hD hS hl
      replace hm := mW3_s hm
      rw [P_findPieces_4] at hm
      refine lv_iload_n hx hb d_P_findPieces_4 rfl (lv_at hl 2 rfl) ?_
      refine lv_aload_n hx hb d_P_findPieces_5 rfl (lv_at hl 0 rfl) ?_
      refine va_get (D := E.1) (ci := 10) (v := .ref a_image) (C := R_P) (T := F_P) (N := 10) hx hb hts i_P hown hK hP 0 rfl rfl 1 (by decide) (hts _ tw_375) (fun _ h9 => h9) rfl d_P_findPieces_6 ?_
      obtain ⟨r_1, hc9, hm⟩ := mR0_e hm
      refine xmi (wc := (Bytes_length_w E a_image (.ref a_image_data) v_image_length)) [false, true, false, false] [0] [0] hP hD hS hA rfl (by decide) (by decide) 1 (by decide) (fun _ => rfl) (fun hPc hDc hFc => va_runV (As := []) (rest := [.int x2]) ⟨hx, hb, hml, hown, hts⟩ (c_Bytes_length l E F H.size a_image (.ref a_image_data) v_image_length (r_1, ()) hc9) (cwV 0 hts (x_gV tw_421 tw_422 tw_423 tw_67 tw_424) rfl rfl rfl (by decide +kernel) ⟨Nat.le_of_ble_eq_true rfl, Nat.le_of_ble_eq_true rfl⟩) (xPV 2 0 rfl rfl hPc hDc hFc hK hI hN hS) rfl rfl hl.1 rfl (lv_room (Nat.le_of_ble_eq_true rfl)) d_P_findPieces_9 ⟨Nat.le_of_ble_eq_true rfl, Nat.le_of_ble_eq_true rfl⟩) (fun r9 u9 H locs hw hP hD hS => ?_)
      have hw1 : r_1 = r9 := hw.1.symm
      subst hw1
      replace hP : va_P E.1 vwCl (P_findPieces_w E a_this a_image a_image_data a_knownStarts n_image_data x_piece x_packer x_known x_unpacker v_image_length c_image_data c_knownStarts v_pieces v_plain v_closed v_knownPieces) H := hP
      replace hD : va_D A (P_findPieces_w E a_this a_image a_image_data a_knownStarts n_image_data x_piece x_packer x_known x_unpacker v_image_length c_image_data c_knownStarts v_pieces v_plain v_closed v_knownPieces) := hD
      refine lv_icmp_ge (tgt := 78) hx hb d_P_findPieces_12 (by decide) (fun c12 => ?_) (fun c12 => ?_)
      · replace hm := mC_t hm c12
        refine lv_iload_n hx hb d_P_findPieces_78 rfl (lv_at hl 1 rfl) ?_
        replace hm := Option.some.inj hm
        subst hm
        exact hret d_P_findPieces_79 (u := c_knownStarts) ⟨rfl, rfl⟩ hP hD hS
      · replace hm := mC_f hm c12
        refine lv_aload_n hx hb d_P_findPieces_15 rfl (lv_at hl 0 rfl) ?_
        refine lv_iload_n hx hb d_P_findPieces_16 rfl (lv_at hl 2 rfl) ?_
        obtain ⟨r_2, hc17, hm⟩ := mR0_e hm
        refine xmi (wc := (P_headAt_w E a_this a_image a_image_data n_image_data x_piece x_packer x_known (.ref a_knownStarts) x_unpacker v_image_length c_image_data v_pieces v_plain v_closed v_knownPieces)) [true, true, true, false] [0, 1, 2] [0, 1, 2] hP hD hS hA rfl (by decide) (by decide) 3 (by decide) (fun _ => rfl) (fun hPc hDc hFc => va_runV (As := [.int x2]) (rest := []) ⟨hx, hb, hml, hown, hts⟩ (c_P_headAt l E F H.size a_this a_image a_image_data n_image_data x_piece x_packer x_known (.ref a_knownStarts) x_unpacker v_image_length c_image_data v_pieces v_plain v_closed v_knownPieces x2 (r_2, ()) hc17) (cwV 1 hts (x_gV tw_682 tw_684 tw_20 tw_66 tw_685) rfl rfl rfl (by decide +kernel) ⟨Nat.le_of_ble_eq_true rfl, Nat.le_of_ble_eq_true rfl⟩) (xPV 10 0 rfl rfl hPc hDc hFc hK hI hN hS) rfl rfl hl.1 rfl (lv_room (Nat.le_of_ble_eq_true rfl)) d_P_findPieces_17 ⟨Nat.le_of_ble_eq_true rfl, Nat.le_of_ble_eq_true rfl⟩) (fun r9 u9 H locs hw hP hD hS => ?_)
        have hw1 : r_2 = r9 := hw.1.symm
        subst hw1
        replace hP : va_P E.1 vwCl (P_findPieces_w E a_this a_image a_image_data a_knownStarts n_image_data x_piece x_packer x_known x_unpacker v_image_length c_image_data c_knownStarts v_pieces v_plain v_closed v_knownPieces) H := hP
        replace hD : va_D A (P_findPieces_w E a_this a_image a_image_data a_knownStarts n_image_data x_piece x_packer x_known x_unpacker v_image_length c_image_data c_knownStarts v_pieces v_plain v_closed v_knownPieces) := hD
        obtain ⟨r_3, hc20, hm⟩ := mR0_e hm
        refine xmi (wc := (P_bytesTold_w E)) [false, false, false, false] [] [] hP hD hS hA rfl (by decide) (by decide) 0 (by decide) (fun _ => rfl) (fun hPc hDc hFc => va_runS (As := [.int r_2]) (rest := []) ⟨hx, hb, hml, hown, hts⟩ (c_P_bytesTold l E F H.size r_2 (r_3, ()) hc20) (va_cwS 1 hts (x_gS tw_686 tw_687 tw_66 tw_688) rfl rfl rfl (by decide +kernel) ⟨Nat.le_of_ble_eq_true rfl, Nat.le_of_ble_eq_true rfl⟩) (xPS hPc hDc hFc hK hI hN hS) rfl rfl hl.1 rfl (lv_room (Nat.le_of_ble_eq_true rfl)) d_P_findPieces_20 ⟨Nat.le_of_ble_eq_true rfl, Nat.le_of_ble_eq_true rfl⟩) (fun r9 u9 H locs hw hP hD hS => ?_)
        have hw1 : r_3 = r9 := hw.1.symm
        subst hw1
        replace hP : va_P E.1 vwCl (P_findPieces_w E a_this a_image a_image_data a_knownStarts n_image_data x_piece x_packer x_known x_unpacker v_image_length c_image_data c_knownStarts v_pieces v_plain v_closed v_knownPieces) H := hP
        replace hD : va_D A (P_findPieces_w E a_this a_image a_image_data a_knownStarts n_image_data x_piece x_packer x_known x_unpacker v_image_length c_image_data c_knownStarts v_pieces v_plain v_closed v_knownPieces) := hD
        refine lv_istore_n (lv' := [(3, .int r_3), (0, .ref a_this), (1, .int x1), (2, .int x2)]) hx hb d_P_findPieces_23 rfl hl (by decide) rfl (fun ls hl => ?_)
        refine lv_iload_n hx hb d_P_findPieces_24 rfl (lv_at hl 0 rfl) ?_
        refine lv_iconst (v := 1) hx hb d_P_findPieces_25 (by decide) ?_
        refine lv_icmp_lt (tgt := 51) hx hb d_P_findPieces_26 (by decide) (fun c26 => ?_) (fun c26 => ?_)
        · replace hm := mC_t hm c26
          refine lv_iconst (v := (-1)) hx hb d_P_findPieces_51 (by decide) ?_
          replace hm := Option.some.inj hm
          subst hm
          exact hret d_P_findPieces_52 (u := c_knownStarts) ⟨rfl, rfl⟩ hP hD hS
        · replace hm := mC_f hm c26
          refine lv_iload_n hx hb d_P_findPieces_29 rfl (lv_at hl 0 rfl) ?_
          refine lv_sipush (v := 8192) hx hb d_P_findPieces_30 (by decide) ?_
          refine lv_icmp_gt (tgt := 51) hx hb d_P_findPieces_33 (by decide) (fun c33 => ?_) (fun c33 => ?_)
          · replace hm := mC_t hm c33
            refine lv_iconst (v := (-1)) hx hb d_P_findPieces_51 (by decide) ?_
            replace hm := Option.some.inj hm
            subst hm
            exact hret d_P_findPieces_52 (u := c_knownStarts) ⟨rfl, rfl⟩ hP hD hS
          · replace hm := mC_f hm c33
            refine lv_iload_n hx hb d_P_findPieces_36 rfl (lv_at hl 3 rfl) ?_
            refine lv_iconst (v := 2) hx hb d_P_findPieces_37 (by decide) ?_
            refine lv_iadd hx hb d_P_findPieces_38 ?_
            refine lv_iload_n hx hb d_P_findPieces_39 rfl (lv_at hl 0 rfl) ?_
            refine lv_iadd hx hb d_P_findPieces_40 ?_
            refine lv_aload_n hx hb d_P_findPieces_41 rfl (lv_at hl 1 rfl) ?_
            refine va_get (D := E.1) (ci := 10) (v := .ref a_image) (C := R_P) (T := F_P) (N := 10) hx hb hts i_P hown hK hP 0 rfl rfl 1 (by decide) (hts _ tw_375) (fun _ h9 => h9) rfl d_P_findPieces_42 ?_
            obtain ⟨r_4, hc45, hm⟩ := mR0_e hm
            refine xmi (wc := (Bytes_length_w E a_image (.ref a_image_data) v_image_length)) [false, true, false, false] [0] [0] hP hD hS hA rfl (by decide) (by decide) 1 (by decide) (fun _ => rfl) (fun hPc hDc hFc => va_runV (As := []) (rest := [.int ((x2 + 2) + r_3)]) ⟨hx, hb, hml, hown, hts⟩ (c_Bytes_length l E F H.size a_image (.ref a_image_data) v_image_length (r_4, ()) hc45) (cwV 0 hts (x_gV tw_421 tw_422 tw_423 tw_67 tw_424) rfl rfl rfl (by decide +kernel) ⟨Nat.le_of_ble_eq_true rfl, Nat.le_of_ble_eq_true rfl⟩) (xPV 2 0 rfl rfl hPc hDc hFc hK hI hN hS) rfl rfl hl.1 rfl (lv_room (Nat.le_of_ble_eq_true rfl)) d_P_findPieces_45 ⟨Nat.le_of_ble_eq_true rfl, Nat.le_of_ble_eq_true rfl⟩) (fun r9 u9 H locs hw hP hD hS => ?_)
            have hw1 : r_4 = r9 := hw.1.symm
            subst hw1
            replace hP : va_P E.1 vwCl (P_findPieces_w E a_this a_image a_image_data a_knownStarts n_image_data x_piece x_packer x_known x_unpacker v_image_length c_image_data c_knownStarts v_pieces v_plain v_closed v_knownPieces) H := hP
            replace hD : va_D A (P_findPieces_w E a_this a_image a_image_data a_knownStarts n_image_data x_piece x_packer x_known x_unpacker v_image_length c_image_data c_knownStarts v_pieces v_plain v_closed v_knownPieces) := hD
            refine lv_icmp_le (tgt := 53) hx hb d_P_findPieces_48 (by decide) (fun c48 => ?_) (fun c48 => ?_)
            · replace hm := mC_t hm c48
              have h_66 : ∀ (c_knownStarts : Nat → Int32) (x1 : Int32) (x2 : Int32) (x3 : Int32) (H : Heap) (locs : List Loc) (ls : Array Slot), (P_findPieces_66 F (mW3 (P_findPieces_4 F n_image_data v_image_length c_image_data) n_4)) c_knownStarts x1 x2 x3 = some res → va_P E.1 vwCl (P_findPieces_w E a_this a_image a_image_data a_knownStarts n_image_data x_piece x_packer x_known x_unpacker v_image_length c_image_data c_knownStarts v_pieces v_plain v_closed v_knownPieces) H → va_D A (P_findPieces_w E a_this a_image a_image_data a_knownStarts n_image_data x_piece x_packer x_known x_unpacker v_image_length c_image_data c_knownStarts v_pieces v_plain v_closed v_knownPieces) → va_S A s.heap H locs → lv_has ls 4 [(0, .ref a_this), (1, .int x1), (2, .int x2), (3, .int x3)] → W p l e P_findPieces_rm s m args below meth c H locs 0 0 Q (F0 m 66 ls []) := by
                intro c_knownStarts x1 x2 x3 H locs ls hm hP hD hS hl
                rw [P_findPieces_66] at hm
                obtain ⟨y1_5, ey1_5⟩ : ∃ y : Int32, y = x1 + 1 := ⟨_, rfl⟩
                replace hm := mL_e hm y1_5 ey1_5
                refine lv_iinc (v := y1_5) (lv' := [(1, .int y1_5), (0, .ref a_this), (2, .int x2), (3, .int x3)]) hx hb d_P_findPieces_66 hl (k := 1) rfl (by rw [ey1_5]; rfl) (by decide) rfl (fun ls hl => ?_)
                refine lv_iload_n hx hb d_P_findPieces_69 rfl (lv_at hl 2 rfl) ?_
                refine lv_iconst (v := 2) hx hb d_P_findPieces_70 (by decide) ?_
                refine lv_iload_n hx hb d_P_findPieces_71 rfl (lv_at hl 3 rfl) ?_
                refine lv_iadd hx hb d_P_findPieces_72 ?_
                refine lv_iadd hx hb d_P_findPieces_73 ?_
                refine lv_topi (fun y2_6 ey2_6 => ?_)
                replace hm := mL_e hm y2_6 ey2_6
                refine lv_istore_n (lv' := [(2, .int y2_6), (1, .int y1_5), (0, .ref a_this), (3, .int x3)]) hx hb d_P_findPieces_74 rfl hl (by decide) rfl (fun ls hl => ?_)
                refine lv_goto (tgt := 4) hx hb d_P_findPieces_75 (by decide) ?_
                exact ih_4 _ _ _ H locs ls hm hP hD hS (lv_sub hl [2, 1, 0] rfl)
              refine lv_iload_n hx hb d_P_findPieces_53 rfl (lv_at hl 2 rfl) ?_
              refine lv_bipush (v := 8) hx hb d_P_findPieces_54 (by decide) ?_
              refine lv_icmp_ge (tgt := 66) hx hb d_P_findPieces_56 (by decide) (fun c56 => ?_) (fun c56 => ?_)
              · replace hm := mC_t hm c56
                exact h_66 _ _ _ _ H locs ls hm hP hD hS (lv_sub hl [1, 2, 3, 0] rfl)
              · replace hm := mC_f hm c56
                refine lv_aload_n hx hb d_P_findPieces_59 rfl (lv_at hl 1 rfl) ?_
                refine va_get (D := E.1) (ci := 10) (v := .ref a_knownStarts) (C := R_P) (T := F_P) (N := 10) hx hb hts i_P hown hK hP 0 rfl rfl 7 (by decide) (hts _ tw_381) (fun _ h9 => h9) rfl d_P_findPieces_60 ?_
                refine lv_iload_n hx hb d_P_findPieces_63 rfl (lv_at hl 2 rfl) ?_
                refine lv_iload_n hx hb d_P_findPieces_64 rfl (lv_at hl 3 rfl) ?_
                obtain ⟨hi65, hm⟩ := mG_e hm
                obtain ⟨c_7, ec_7⟩ : ∃ z : Nat → Int32, z = upd c_knownStarts x1.toNatClampNeg x2 := ⟨_, rfl⟩
                replace hm := mL_e hm c_7 ec_7
                refine va_iast hx hb hK hP hD hS 3 0 rfl rfl hi65 d_P_findPieces_65 (fun H locs hP hD hS => ?_)
                rw [← ec_7] at hP hD
                replace hP : va_P E.1 vwCl (P_findPieces_w E a_this a_image a_image_data a_knownStarts n_image_data x_piece x_packer x_known x_unpacker v_image_length c_image_data c_7 v_pieces v_plain v_closed v_knownPieces) H := hP
                replace hD : va_D A (P_findPieces_w E a_this a_image a_image_data a_knownStarts n_image_data x_piece x_packer x_known x_unpacker v_image_length c_image_data c_7 v_pieces v_plain v_closed v_knownPieces) := hD
                exact h_66 _ _ _ _ H locs ls hm hP hD hS (lv_sub hl [1, 2, 3, 0] rfl)
            · replace hm := mC_f hm c48
              refine lv_iconst (v := (-1)) hx hb d_P_findPieces_51 (by decide) ?_
              replace hm := Option.some.inj hm
              subst hm
              exact hret d_P_findPieces_52 (u := c_knownStarts) ⟨rfl, rfl⟩ hP hD hS
  refine lv_iconst (v := 0) hx hb d_P_findPieces_0 (by decide) ?_
  refine lv_istore_n (lv' := [(1, .int 0), (0, .ref a_this)]) hx hb d_P_findPieces_1 rfl hl (by decide) rfl (fun ls hl => ?_)
  refine lv_iconst (v := 0) hx hb d_P_findPieces_2 (by decide) ?_
  refine lv_istore_n (lv' := [(2, .int 0), (1, .int 0), (0, .ref a_this)]) hx hb d_P_findPieces_3 rfl hl (by decide) rfl (fun ls hl => ?_)
  exact h_4 F _ _ _ H locs ls hm hP hD hS (lv_sub hl [2, 1, 0] rfl)
