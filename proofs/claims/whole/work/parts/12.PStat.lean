theorem d_P_bytesTold_0 : decode b_P_bytesTold 0 = .ok (.iload_n 0, 1) := by decide +kernel
theorem d_P_bytesTold_1 : decode b_P_bytesTold 1 = .ok (.sipush 32767, 3) := by decide +kernel
theorem d_P_bytesTold_4 : decode b_P_bytesTold 4 = .ok (.iand, 1) := by decide +kernel
theorem d_P_bytesTold_5 : decode b_P_bytesTold 5 = .ok (.ireturn, 1) := by decide +kernel
abbrev P_bytesTold_w (E : xE) : va_W := []
def P_bytesTold (F : Nat) (x0 : Int32) : Option (Int32 × Unit) :=
  some (x0 &&& 32767, ())
abbrev P_bytesTold_rm : Room := { frames := 0, cells := 0, slots := 0, locals := 0 }
set_option maxHeartbeats 4000000 in
set_option maxRecDepth 100000 in
theorem c_P_bytesTold (l : Launch) (E : xE) (F sz : Nat) (x0 : Int32) (res : Int32 × Unit) (hm : P_bytesTold F x0 = some res) : Met l y_P_bytesTold (Cond.code y_P_bytesTold b_P_bytesTold 1 (some .int) :: x_tb) P_bytesTold_rm (va_Pc [.int x0] (xPre E (P_bytesTold_w E) sz)) (xQi E (fun (r : Int32) (u : Unit) => r = res.1 ∧ u = res.2) (fun (u : Unit) => (P_bytesTold_w E)) (va_A (P_bytesTold_w E) sz)) 0 0 (va_A (P_bytesTold_w E) sz) := by
  refine xEnI (by decide) (Nat.le_of_ble_eq_true rfl) ?_
  intro p e s m args below meth c A ls Q hx hb hnm hts hown hml hK hA hI hN hret hP hD hS hl
  replace hown : s.vm.findClass R_P = some m.cls := hown
  replace hl : lv_has ls 1 [(0, .int x0)] := hl
  obtain ⟨H, eH⟩ : ∃ z, z = s.heap := ⟨_, rfl⟩
  obtain ⟨locs, eL⟩ : ∃ z : List Loc, z = [] := ⟨_, rfl⟩
  rw [show W p l e P_bytesTold_rm s m args below meth c s.heap [] 0 0 Q (F0 m 0 ls []) = W p l e P_bytesTold_rm s m args below meth c H locs 0 0 Q (F0 m 0 ls []) by rw [eH, eL]]
  replace hP : va_P E.1 vwCl (P_bytesTold_w E) H := by rw [eH]; exact hP
  replace hS : va_S A s.heap H locs := by rw [eH, eL]; exact hS
  clear eH eL
  rw [P_bytesTold] at hm
  refine lv_iload_n hx hb d_P_bytesTold_0 rfl (lv_at hl 0 rfl) ?_
  refine lv_sipush (v := 32767) hx hb d_P_bytesTold_1 (by decide) ?_
  refine lv_iand hx hb d_P_bytesTold_4 ?_
  replace hm := Option.some.inj hm
  subst hm
  exact hret d_P_bytesTold_5 (u := ()) ⟨rfl, rfl⟩ hP hD hS
theorem d_P_checkOf_0 : decode b_P_checkOf 0 = .ok (.iconst 1, 1) := by decide +kernel
theorem d_P_checkOf_1 : decode b_P_checkOf 1 = .ok (.istore_n 2, 1) := by decide +kernel
theorem d_P_checkOf_2 : decode b_P_checkOf 2 = .ok (.iconst 0, 1) := by decide +kernel
theorem d_P_checkOf_3 : decode b_P_checkOf 3 = .ok (.istore_n 3, 1) := by decide +kernel
theorem d_P_checkOf_4 : decode b_P_checkOf 4 = .ok (.iload_n 1, 1) := by decide +kernel
theorem d_P_checkOf_5 : decode b_P_checkOf 5 = .ok (.istore 4, 2) := by decide +kernel
theorem d_P_checkOf_7 : decode b_P_checkOf 7 = .ok (.iload 4, 2) := by decide +kernel
theorem d_P_checkOf_9 : decode b_P_checkOf 9 = .ok (.aload_n 0, 1) := by decide +kernel
theorem d_P_checkOf_10 : decode b_P_checkOf 10 = .ok (.invokevirtual 69, 3) := by decide +kernel
theorem d_P_checkOf_13 : decode b_P_checkOf 13 = .ok (.if_icmp .ge 28, 3) := by decide +kernel
theorem d_P_checkOf_16 : decode b_P_checkOf 16 = .ok (.iload_n 2, 1) := by decide +kernel
theorem d_P_checkOf_17 : decode b_P_checkOf 17 = .ok (.aload_n 0, 1) := by decide +kernel
theorem d_P_checkOf_18 : decode b_P_checkOf 18 = .ok (.iload 4, 2) := by decide +kernel
theorem d_P_checkOf_20 : decode b_P_checkOf 20 = .ok (.invokevirtual 83, 3) := by decide +kernel
theorem d_P_checkOf_23 : decode b_P_checkOf 23 = .ok (.iadd, 1) := by decide +kernel
theorem d_P_checkOf_24 : decode b_P_checkOf 24 = .ok (.ldc 124, 2) := by decide +kernel
theorem d_P_checkOf_26 : decode b_P_checkOf 26 = .ok (.irem, 1) := by decide +kernel
theorem d_P_checkOf_27 : decode b_P_checkOf 27 = .ok (.istore_n 2, 1) := by decide +kernel
theorem d_P_checkOf_28 : decode b_P_checkOf 28 = .ok (.iload_n 3, 1) := by decide +kernel
theorem d_P_checkOf_29 : decode b_P_checkOf 29 = .ok (.iload_n 2, 1) := by decide +kernel
theorem d_P_checkOf_30 : decode b_P_checkOf 30 = .ok (.iadd, 1) := by decide +kernel
theorem d_P_checkOf_31 : decode b_P_checkOf 31 = .ok (.ldc 124, 2) := by decide +kernel
theorem d_P_checkOf_33 : decode b_P_checkOf 33 = .ok (.irem, 1) := by decide +kernel
theorem d_P_checkOf_34 : decode b_P_checkOf 34 = .ok (.istore_n 3, 1) := by decide +kernel
theorem d_P_checkOf_35 : decode b_P_checkOf 35 = .ok (.iinc 4 1, 3) := by decide +kernel
theorem d_P_checkOf_38 : decode b_P_checkOf 38 = .ok (.goto (-31), 3) := by decide +kernel
theorem d_P_checkOf_41 : decode b_P_checkOf 41 = .ok (.iload_n 3, 1) := by decide +kernel
theorem d_P_checkOf_42 : decode b_P_checkOf 42 = .ok (.bipush 16, 2) := by decide +kernel
theorem d_P_checkOf_44 : decode b_P_checkOf 44 = .ok (.ishl, 1) := by decide +kernel
theorem d_P_checkOf_45 : decode b_P_checkOf 45 = .ok (.iload_n 2, 1) := by decide +kernel
theorem d_P_checkOf_46 : decode b_P_checkOf 46 = .ok (.ior, 1) := by decide +kernel
theorem d_P_checkOf_47 : decode b_P_checkOf 47 = .ok (.ireturn, 1) := by decide +kernel
def P_checkOf_7 (F : Nat) (n_p0_data : Nat) (v_p0_length : Int32) (c_p0_data : Nat → Int32) (k_7 : Int32 → Int32 → Int32 → Option (Int32 × Unit)) (x2 : Int32) (x3 : Int32) (x4 : Int32) : Option (Int32 × Unit) :=
  mR0 (Bytes_length F v_p0_length) fun r_1 => mC (r_1 ≤ x4) (some ((x3 <<< ((16 : Int32) &&& 31)) ||| x2, ())) (mR0 (Bytes_at F n_p0_data v_p0_length c_p0_data x4) fun r_2 => mL (x2 + r_2) fun t_3 => mL (t_3 - t_3 / 65521 * 65521) fun y2_4 => mL (x3 + y2_4) fun t_5 => mL (t_5 - t_5 / 65521 * 65521) fun y3_6 => mL (x4 + 1) fun y4_7 => k_7 y2_4 y3_6 y4_7)
abbrev P_checkOf_w (E : xE) (a_p0 : Nat) (a_p0_data : Nat) (n_p0_data : Nat) (v_p0_length : Int32) (c_p0_data : Nat → Int32) : va_W := [(a_p0, .inr (2, [.ref a_p0_data, .int v_p0_length])), (a_p0_data, .inl (E.2.2.1, n_p0_data, .inl c_p0_data))]
def P_checkOf (F : Nat) (n_p0_data : Nat) (v_p0_length : Int32) (c_p0_data : Nat → Int32) (x1 : Int32) : Option (Int32 × Unit) :=
  (mW3 (P_checkOf_7 F n_p0_data v_p0_length c_p0_data) F) 1 0 x1
abbrev P_checkOf_rm : Room := { frames := 1, cells := 0, slots := 0, locals := 21 }
set_option maxHeartbeats 4000000 in
set_option maxRecDepth 100000 in
theorem c_P_checkOf (l : Launch) (E : xE) (F sz : Nat) (a_p0 : Nat) (a_p0_data : Nat) (n_p0_data : Nat) (v_p0_length : Int32) (c_p0_data : Nat → Int32) (x1 : Int32) (res : Int32 × Unit) (hm : P_checkOf F n_p0_data v_p0_length c_p0_data x1 = some res) : Met l y_P_checkOf (Cond.code y_P_checkOf b_P_checkOf 5 (some .int) :: x_tb) P_checkOf_rm (va_Pc [.ref a_p0, .int x1] (xPre E (P_checkOf_w E a_p0 a_p0_data n_p0_data v_p0_length c_p0_data) sz)) (xQi E (fun (r : Int32) (u : Unit) => r = res.1 ∧ u = res.2) (fun (u : Unit) => (P_checkOf_w E a_p0 a_p0_data n_p0_data v_p0_length c_p0_data)) (va_A (P_checkOf_w E a_p0 a_p0_data n_p0_data v_p0_length c_p0_data) sz)) 0 0 (va_A (P_checkOf_w E a_p0 a_p0_data n_p0_data v_p0_length c_p0_data) sz) := by
  refine xEnI (by decide) (Nat.le_of_ble_eq_true rfl) ?_
  intro p e s m args below meth c A ls Q hx hb hnm hts hown hml hK hA hI hN hret hP hD hS hl
  replace hown : s.vm.findClass R_P = some m.cls := hown
  replace hl : lv_has ls 5 [(0, .ref a_p0), (1, .int x1)] := hl
  obtain ⟨H, eH⟩ : ∃ z, z = s.heap := ⟨_, rfl⟩
  obtain ⟨locs, eL⟩ : ∃ z : List Loc, z = [] := ⟨_, rfl⟩
  rw [show W p l e P_checkOf_rm s m args below meth c s.heap [] 0 0 Q (F0 m 0 ls []) = W p l e P_checkOf_rm s m args below meth c H locs 0 0 Q (F0 m 0 ls []) by rw [eH, eL]]
  replace hP : va_P E.1 vwCl (P_checkOf_w E a_p0 a_p0_data n_p0_data v_p0_length c_p0_data) H := by rw [eH]; exact hP
  replace hS : va_S A s.heap H locs := by rw [eH, eL]; exact hS
  clear eH eL
  rw [P_checkOf] at hm
  have h_7 : ∀ (n_7 : Nat) (x2 : Int32) (x3 : Int32) (x4 : Int32) (H : Heap) (locs : List Loc) (ls : Array Slot), (mW3 (P_checkOf_7 F n_p0_data v_p0_length c_p0_data) n_7) x2 x3 x4 = some res → va_P E.1 vwCl (P_checkOf_w E a_p0 a_p0_data n_p0_data v_p0_length c_p0_data) H → va_D A (P_checkOf_w E a_p0 a_p0_data n_p0_data v_p0_length c_p0_data) → va_S A s.heap H locs → lv_has ls 5 [(0, .ref a_p0), (2, .int x2), (3, .int x3), (4, .int x4)] → W p l e P_checkOf_rm s m args below meth c H locs 0 0 Q (F0 m 7 ls []) := by
    intro n_7
    induction n_7 with
    | zero => exact fun _ _ _ _ _ _ hm _ _ _ _ => (mW3_z hm).elim
    | succ n_7 ih_7 =>
      intro x2 x3 x4 H locs ls hm hP hD hS hl
      replace hm := mW3_s hm
      rw [P_checkOf_7] at hm
      refine lv_iload hx hb d_P_checkOf_7 (lv_at hl 3 rfl) ?_
      refine lv_aload_n hx hb d_P_checkOf_9 rfl (lv_at hl 0 rfl) ?_
      obtain ⟨r_1, hc10, hm⟩ := mR0_e hm
      refine xmi (wc := (Bytes_length_w E a_p0 (.ref a_p0_data) v_p0_length)) [true, false] [0] [0] hP hD hS hA rfl (by decide) (by decide) 1 (by decide) (fun _ => rfl) (fun hPc hDc hFc => va_runV (As := []) (rest := [.int x4]) ⟨hx, hb, hml, hown, hts⟩ (c_Bytes_length l E F H.size a_p0 (.ref a_p0_data) v_p0_length (r_1, ()) hc10) (cwV 0 hts (x_gV tw_421 tw_422 tw_423 tw_67 tw_424) rfl rfl rfl (by decide +kernel) ⟨Nat.le_of_ble_eq_true rfl, Nat.le_of_ble_eq_true rfl⟩) (xPV 2 0 rfl rfl hPc hDc hFc hK hI hN hS) rfl rfl hl.1 rfl (lv_room (Nat.le_of_ble_eq_true rfl)) d_P_checkOf_10 ⟨Nat.le_of_ble_eq_true rfl, Nat.le_of_ble_eq_true rfl⟩) (fun r9 u9 H locs hw hP hD hS => ?_)
      have hw1 : r_1 = r9 := hw.1.symm
      subst hw1
      replace hP : va_P E.1 vwCl (P_checkOf_w E a_p0 a_p0_data n_p0_data v_p0_length c_p0_data) H := hP
      replace hD : va_D A (P_checkOf_w E a_p0 a_p0_data n_p0_data v_p0_length c_p0_data) := hD
      refine lv_icmp_ge (tgt := 41) hx hb d_P_checkOf_13 (by decide) (fun c13 => ?_) (fun c13 => ?_)
      · replace hm := mC_t hm c13
        refine lv_iload_n hx hb d_P_checkOf_41 rfl (lv_at hl 2 rfl) ?_
        refine lv_bipush (v := 16) hx hb d_P_checkOf_42 (by decide) ?_
        refine lv_ishl hx hb d_P_checkOf_44 ?_
        refine lv_iload_n hx hb d_P_checkOf_45 rfl (lv_at hl 1 rfl) ?_
        refine lv_ior hx hb d_P_checkOf_46 ?_
        replace hm := Option.some.inj hm
        subst hm
        exact hret d_P_checkOf_47 (u := ()) ⟨rfl, rfl⟩ hP hD hS
      · replace hm := mC_f hm c13
        refine lv_iload_n hx hb d_P_checkOf_16 rfl (lv_at hl 1 rfl) ?_
        refine lv_aload_n hx hb d_P_checkOf_17 rfl (lv_at hl 0 rfl) ?_
        refine lv_iload hx hb d_P_checkOf_18 (lv_at hl 3 rfl) ?_
        obtain ⟨r_2, hc20, hm⟩ := mR0_e hm
        refine xmi (wc := (Bytes_at_w E a_p0 a_p0_data n_p0_data v_p0_length c_p0_data)) [true, true] [0, 1] [0, 1] hP hD hS hA rfl (by decide) (by decide) 2 (by decide) (fun _ => rfl) (fun hPc hDc hFc => va_runV (As := [.int x4]) (rest := [.int x2]) ⟨hx, hb, hml, hown, hts⟩ (c_Bytes_at l E F H.size a_p0 a_p0_data n_p0_data v_p0_length c_p0_data x4 (r_2, ()) hc20) (cwV 1 hts (x_gV tw_612 tw_448 tw_449 tw_67 tw_450) rfl rfl rfl (by decide +kernel) ⟨Nat.le_of_ble_eq_true rfl, Nat.le_of_ble_eq_true rfl⟩) (xPV 2 0 rfl rfl hPc hDc hFc hK hI hN hS) rfl rfl hl.1 rfl (lv_room (Nat.le_of_ble_eq_true rfl)) d_P_checkOf_20 ⟨Nat.le_of_ble_eq_true rfl, Nat.le_of_ble_eq_true rfl⟩) (fun r9 u9 H locs hw hP hD hS => ?_)
        have hw1 : r_2 = r9 := hw.1.symm
        subst hw1
        replace hP : va_P E.1 vwCl (P_checkOf_w E a_p0 a_p0_data n_p0_data v_p0_length c_p0_data) H := hP
        replace hD : va_D A (P_checkOf_w E a_p0 a_p0_data n_p0_data v_p0_length c_p0_data) := hD
        refine lv_iadd hx hb d_P_checkOf_23 ?_
        refine lv_ldc (v := 65521) hx hb hown (hts _ tw_613) d_P_checkOf_24 ?_
        obtain ⟨t_3, et_3⟩ : ∃ z : Int32, z = x2 + r_2 := ⟨_, rfl⟩
        rw [← et_3]
        replace hm := mL_e hm t_3 et_3
        refine lv_irem hx hb d_P_checkOf_26 (by decide) ?_
        refine lv_topi (fun y2_4 ey2_4 => ?_)
        replace hm := mL_e hm y2_4 ey2_4
        refine lv_istore_n (lv' := [(2, .int y2_4), (0, .ref a_p0), (3, .int x3), (4, .int x4)]) hx hb d_P_checkOf_27 rfl hl (by decide) rfl (fun ls hl => ?_)
        refine lv_iload_n hx hb d_P_checkOf_28 rfl (lv_at hl 2 rfl) ?_
        refine lv_iload_n hx hb d_P_checkOf_29 rfl (lv_at hl 0 rfl) ?_
        refine lv_iadd hx hb d_P_checkOf_30 ?_
        refine lv_ldc (v := 65521) hx hb hown (hts _ tw_613) d_P_checkOf_31 ?_
        obtain ⟨t_5, et_5⟩ : ∃ z : Int32, z = x3 + y2_4 := ⟨_, rfl⟩
        rw [← et_5]
        replace hm := mL_e hm t_5 et_5
        refine lv_irem hx hb d_P_checkOf_33 (by decide) ?_
        refine lv_topi (fun y3_6 ey3_6 => ?_)
        replace hm := mL_e hm y3_6 ey3_6
        refine lv_istore_n (lv' := [(3, .int y3_6), (2, .int y2_4), (0, .ref a_p0), (4, .int x4)]) hx hb d_P_checkOf_34 rfl hl (by decide) rfl (fun ls hl => ?_)
        obtain ⟨y4_7, ey4_7⟩ : ∃ y : Int32, y = x4 + 1 := ⟨_, rfl⟩
        replace hm := mL_e hm y4_7 ey4_7
        refine lv_iinc (v := y4_7) (lv' := [(4, .int y4_7), (3, .int y3_6), (2, .int y2_4), (0, .ref a_p0)]) hx hb d_P_checkOf_35 hl (k := 3) rfl (by rw [ey4_7]; rfl) (by decide) rfl (fun ls hl => ?_)
        refine lv_goto (tgt := 7) hx hb d_P_checkOf_38 (by decide) ?_
        exact ih_7 _ _ _ H locs ls hm hP hD hS (lv_sub hl [3, 2, 1, 0] rfl)
  refine lv_iconst (v := 1) hx hb d_P_checkOf_0 (by decide) ?_
  refine lv_istore_n (lv' := [(2, .int 1), (0, .ref a_p0), (1, .int x1)]) hx hb d_P_checkOf_1 rfl hl (by decide) rfl (fun ls hl => ?_)
  refine lv_iconst (v := 0) hx hb d_P_checkOf_2 (by decide) ?_
  refine lv_istore_n (lv' := [(3, .int 0), (2, .int 1), (0, .ref a_p0), (1, .int x1)]) hx hb d_P_checkOf_3 rfl hl (by decide) rfl (fun ls hl => ?_)
  refine lv_iload_n hx hb d_P_checkOf_4 rfl (lv_at hl 3 rfl) ?_
  refine lv_istore (lv' := [(4, .int x1), (3, .int 0), (2, .int 1), (0, .ref a_p0), (1, .int x1)]) hx hb d_P_checkOf_5 hl (by decide) rfl (fun ls hl => ?_)
  exact h_7 F _ _ _ H locs ls hm hP hD hS (lv_sub hl [3, 2, 1, 0] rfl)
theorem d_P_fixedLength_0 : decode b_P_fixedLength 0 = .ok (.iload_n 0, 1) := by decide +kernel
theorem d_P_fixedLength_1 : decode b_P_fixedLength 1 = .ok (.sipush 144, 3) := by decide +kernel
theorem d_P_fixedLength_4 : decode b_P_fixedLength 4 = .ok (.if_icmp .ge 8, 3) := by decide +kernel
theorem d_P_fixedLength_7 : decode b_P_fixedLength 7 = .ok (.bipush 8, 2) := by decide +kernel
theorem d_P_fixedLength_9 : decode b_P_fixedLength 9 = .ok (.goto 29, 3) := by decide +kernel
theorem d_P_fixedLength_12 : decode b_P_fixedLength 12 = .ok (.iload_n 0, 1) := by decide +kernel
theorem d_P_fixedLength_13 : decode b_P_fixedLength 13 = .ok (.sipush 256, 3) := by decide +kernel
theorem d_P_fixedLength_16 : decode b_P_fixedLength 16 = .ok (.if_icmp .ge 8, 3) := by decide +kernel
theorem d_P_fixedLength_19 : decode b_P_fixedLength 19 = .ok (.bipush 9, 2) := by decide +kernel
theorem d_P_fixedLength_21 : decode b_P_fixedLength 21 = .ok (.goto 17, 3) := by decide +kernel
theorem d_P_fixedLength_24 : decode b_P_fixedLength 24 = .ok (.iload_n 0, 1) := by decide +kernel
theorem d_P_fixedLength_25 : decode b_P_fixedLength 25 = .ok (.sipush 280, 3) := by decide +kernel
theorem d_P_fixedLength_28 : decode b_P_fixedLength 28 = .ok (.if_icmp .ge 8, 3) := by decide +kernel
theorem d_P_fixedLength_31 : decode b_P_fixedLength 31 = .ok (.bipush 7, 2) := by decide +kernel
theorem d_P_fixedLength_33 : decode b_P_fixedLength 33 = .ok (.goto 5, 3) := by decide +kernel
theorem d_P_fixedLength_36 : decode b_P_fixedLength 36 = .ok (.bipush 8, 2) := by decide +kernel
theorem d_P_fixedLength_38 : decode b_P_fixedLength 38 = .ok (.ireturn, 1) := by decide +kernel
abbrev P_fixedLength_w (E : xE) : va_W := []
def P_fixedLength (F : Nat) (x0 : Int32) : Option (Int32 × Unit) :=
  mC (144 ≤ x0) (mC (256 ≤ x0) (mC (280 ≤ x0) (some (8, ())) (some (7, ()))) (some (9, ()))) (some (8, ()))
abbrev P_fixedLength_rm : Room := { frames := 0, cells := 0, slots := 0, locals := 0 }
set_option maxHeartbeats 4000000 in
set_option maxRecDepth 100000 in
theorem c_P_fixedLength (l : Launch) (E : xE) (F sz : Nat) (x0 : Int32) (res : Int32 × Unit) (hm : P_fixedLength F x0 = some res) : Met l y_P_fixedLength (Cond.code y_P_fixedLength b_P_fixedLength 1 (some .int) :: x_tb) P_fixedLength_rm (va_Pc [.int x0] (xPre E (P_fixedLength_w E) sz)) (xQi E (fun (r : Int32) (u : Unit) => r = res.1 ∧ u = res.2) (fun (u : Unit) => (P_fixedLength_w E)) (va_A (P_fixedLength_w E) sz)) 0 0 (va_A (P_fixedLength_w E) sz) := by
  refine xEnI (by decide) (Nat.le_of_ble_eq_true rfl) ?_
  intro p e s m args below meth c A ls Q hx hb hnm hts hown hml hK hA hI hN hret hP hD hS hl
  replace hown : s.vm.findClass R_P = some m.cls := hown
  replace hl : lv_has ls 1 [(0, .int x0)] := hl
  obtain ⟨H, eH⟩ : ∃ z, z = s.heap := ⟨_, rfl⟩
  obtain ⟨locs, eL⟩ : ∃ z : List Loc, z = [] := ⟨_, rfl⟩
  rw [show W p l e P_fixedLength_rm s m args below meth c s.heap [] 0 0 Q (F0 m 0 ls []) = W p l e P_fixedLength_rm s m args below meth c H locs 0 0 Q (F0 m 0 ls []) by rw [eH, eL]]
  replace hP : va_P E.1 vwCl (P_fixedLength_w E) H := by rw [eH]; exact hP
  replace hS : va_S A s.heap H locs := by rw [eH, eL]; exact hS
  clear eH eL
  rw [P_fixedLength] at hm
  refine lv_iload_n hx hb d_P_fixedLength_0 rfl (lv_at hl 0 rfl) ?_
  refine lv_sipush (v := 144) hx hb d_P_fixedLength_1 (by decide) ?_
  refine lv_icmp_ge (tgt := 12) hx hb d_P_fixedLength_4 (by decide) (fun c4 => ?_) (fun c4 => ?_)
  · replace hm := mC_t hm c4
    refine lv_iload_n hx hb d_P_fixedLength_12 rfl (lv_at hl 0 rfl) ?_
    refine lv_sipush (v := 256) hx hb d_P_fixedLength_13 (by decide) ?_
    refine lv_icmp_ge (tgt := 24) hx hb d_P_fixedLength_16 (by decide) (fun c16 => ?_) (fun c16 => ?_)
    · replace hm := mC_t hm c16
      refine lv_iload_n hx hb d_P_fixedLength_24 rfl (lv_at hl 0 rfl) ?_
      refine lv_sipush (v := 280) hx hb d_P_fixedLength_25 (by decide) ?_
      refine lv_icmp_ge (tgt := 36) hx hb d_P_fixedLength_28 (by decide) (fun c28 => ?_) (fun c28 => ?_)
      · replace hm := mC_t hm c28
        refine lv_bipush (v := 8) hx hb d_P_fixedLength_36 (by decide) ?_
        replace hm := Option.some.inj hm
        subst hm
        exact hret d_P_fixedLength_38 (u := ()) ⟨rfl, rfl⟩ hP hD hS
      · replace hm := mC_f hm c28
        refine lv_bipush (v := 7) hx hb d_P_fixedLength_31 (by decide) ?_
        refine lv_goto (tgt := 38) hx hb d_P_fixedLength_33 (by decide) ?_
        replace hm := Option.some.inj hm
        subst hm
        exact hret d_P_fixedLength_38 (u := ()) ⟨rfl, rfl⟩ hP hD hS
    · replace hm := mC_f hm c16
      refine lv_bipush (v := 9) hx hb d_P_fixedLength_19 (by decide) ?_
      refine lv_goto (tgt := 38) hx hb d_P_fixedLength_21 (by decide) ?_
      replace hm := Option.some.inj hm
      subst hm
      exact hret d_P_fixedLength_38 (u := ()) ⟨rfl, rfl⟩ hP hD hS
  · replace hm := mC_f hm c4
    refine lv_bipush (v := 8) hx hb d_P_fixedLength_7 (by decide) ?_
    refine lv_goto (tgt := 38) hx hb d_P_fixedLength_9 (by decide) ?_
    replace hm := Option.some.inj hm
    subst hm
    exact hret d_P_fixedLength_38 (u := ()) ⟨rfl, rfl⟩ hP hD hS
theorem d_P_lengthSymbol_0 : decode b_P_lengthSymbol 0 = .ok (.iload_n 0, 1) := by decide +kernel
theorem d_P_lengthSymbol_1 : decode b_P_lengthSymbol 1 = .ok (.sipush 258, 3) := by decide +kernel
theorem d_P_lengthSymbol_4 : decode b_P_lengthSymbol 4 = .ok (.if_icmp .lt 7, 3) := by decide +kernel
theorem d_P_lengthSymbol_7 : decode b_P_lengthSymbol 7 = .ok (.sipush 285, 3) := by decide +kernel
theorem d_P_lengthSymbol_10 : decode b_P_lengthSymbol 10 = .ok (.ireturn, 1) := by decide +kernel
theorem d_P_lengthSymbol_11 : decode b_P_lengthSymbol 11 = .ok (.iload_n 0, 1) := by decide +kernel
theorem d_P_lengthSymbol_12 : decode b_P_lengthSymbol 12 = .ok (.iconst 3, 1) := by decide +kernel
theorem d_P_lengthSymbol_13 : decode b_P_lengthSymbol 13 = .ok (.isub, 1) := by decide +kernel
theorem d_P_lengthSymbol_14 : decode b_P_lengthSymbol 14 = .ok (.istore_n 1, 1) := by decide +kernel
theorem d_P_lengthSymbol_15 : decode b_P_lengthSymbol 15 = .ok (.iconst 0, 1) := by decide +kernel
theorem d_P_lengthSymbol_16 : decode b_P_lengthSymbol 16 = .ok (.istore_n 2, 1) := by decide +kernel
theorem d_P_lengthSymbol_17 : decode b_P_lengthSymbol 17 = .ok (.iload_n 2, 1) := by decide +kernel
theorem d_P_lengthSymbol_18 : decode b_P_lengthSymbol 18 = .ok (.iconst 5, 1) := by decide +kernel
theorem d_P_lengthSymbol_19 : decode b_P_lengthSymbol 19 = .ok (.if_icmp .ge 17, 3) := by decide +kernel
theorem d_P_lengthSymbol_22 : decode b_P_lengthSymbol 22 = .ok (.iload_n 1, 1) := by decide +kernel
theorem d_P_lengthSymbol_23 : decode b_P_lengthSymbol 23 = .ok (.iload_n 2, 1) := by decide +kernel
theorem d_P_lengthSymbol_24 : decode b_P_lengthSymbol 24 = .ok (.ishr, 1) := by decide +kernel
theorem d_P_lengthSymbol_25 : decode b_P_lengthSymbol 25 = .ok (.bipush 7, 2) := by decide +kernel
theorem d_P_lengthSymbol_27 : decode b_P_lengthSymbol 27 = .ok (.if_icmp .le 9, 3) := by decide +kernel
theorem d_P_lengthSymbol_30 : decode b_P_lengthSymbol 30 = .ok (.iinc 2 1, 3) := by decide +kernel
theorem d_P_lengthSymbol_33 : decode b_P_lengthSymbol 33 = .ok (.goto (-16), 3) := by decide +kernel
theorem d_P_lengthSymbol_36 : decode b_P_lengthSymbol 36 = .ok (.sipush 257, 3) := by decide +kernel
theorem d_P_lengthSymbol_39 : decode b_P_lengthSymbol 39 = .ok (.iconst 4, 1) := by decide +kernel
theorem d_P_lengthSymbol_40 : decode b_P_lengthSymbol 40 = .ok (.iload_n 2, 1) := by decide +kernel
theorem d_P_lengthSymbol_41 : decode b_P_lengthSymbol 41 = .ok (.imul, 1) := by decide +kernel
theorem d_P_lengthSymbol_42 : decode b_P_lengthSymbol 42 = .ok (.iadd, 1) := by decide +kernel
theorem d_P_lengthSymbol_43 : decode b_P_lengthSymbol 43 = .ok (.iload_n 1, 1) := by decide +kernel
theorem d_P_lengthSymbol_44 : decode b_P_lengthSymbol 44 = .ok (.iload_n 2, 1) := by decide +kernel
theorem d_P_lengthSymbol_45 : decode b_P_lengthSymbol 45 = .ok (.ishr, 1) := by decide +kernel
theorem d_P_lengthSymbol_46 : decode b_P_lengthSymbol 46 = .ok (.iadd, 1) := by decide +kernel
theorem d_P_lengthSymbol_47 : decode b_P_lengthSymbol 47 = .ok (.ireturn, 1) := by decide +kernel
def P_lengthSymbol_36 (F : Nat) (x1 : Int32) (x2 : Int32) : Option (Int32 × Unit) :=
  some ((257 + (4 * x2)) + (x1 >>> (x2 &&& 31)), ())
def P_lengthSymbol_17 (F : Nat) (k_36 : Int32 → Int32 → Option (Int32 × Unit)) (k_17 : Int32 → Int32 → Option (Int32 × Unit)) (x1 : Int32) (x2 : Int32) : Option (Int32 × Unit) :=
  mC (5 ≤ x2) (k_36 x1 x2) (mC ((x1 >>> (x2 &&& 31)) ≤ 7) (k_36 x1 x2) (mL (x2 + 1) fun y2_1 => k_17 x1 y2_1))
abbrev P_lengthSymbol_w (E : xE) : va_W := []
def P_lengthSymbol (F : Nat) (x0 : Int32) : Option (Int32 × Unit) :=
  mC (x0 < 258) (mL (x0 - 3) fun y1_2 => (mW2 (P_lengthSymbol_17 F (P_lengthSymbol_36 F)) F) y1_2 0) (some (285, ()))
abbrev P_lengthSymbol_rm : Room := { frames := 0, cells := 0, slots := 0, locals := 0 }
set_option maxHeartbeats 4000000 in
set_option maxRecDepth 100000 in
theorem c_P_lengthSymbol (l : Launch) (E : xE) (F sz : Nat) (x0 : Int32) (res : Int32 × Unit) (hm : P_lengthSymbol F x0 = some res) : Met l y_P_lengthSymbol (Cond.code y_P_lengthSymbol b_P_lengthSymbol 3 (some .int) :: x_tb) P_lengthSymbol_rm (va_Pc [.int x0] (xPre E (P_lengthSymbol_w E) sz)) (xQi E (fun (r : Int32) (u : Unit) => r = res.1 ∧ u = res.2) (fun (u : Unit) => (P_lengthSymbol_w E)) (va_A (P_lengthSymbol_w E) sz)) 0 0 (va_A (P_lengthSymbol_w E) sz) := by
  refine xEnI (by decide) (Nat.le_of_ble_eq_true rfl) ?_
  intro p e s m args below meth c A ls Q hx hb hnm hts hown hml hK hA hI hN hret hP hD hS hl
  replace hown : s.vm.findClass R_P = some m.cls := hown
  replace hl : lv_has ls 3 [(0, .int x0)] := hl
  obtain ⟨H, eH⟩ : ∃ z, z = s.heap := ⟨_, rfl⟩
  obtain ⟨locs, eL⟩ : ∃ z : List Loc, z = [] := ⟨_, rfl⟩
  rw [show W p l e P_lengthSymbol_rm s m args below meth c s.heap [] 0 0 Q (F0 m 0 ls []) = W p l e P_lengthSymbol_rm s m args below meth c H locs 0 0 Q (F0 m 0 ls []) by rw [eH, eL]]
  replace hP : va_P E.1 vwCl (P_lengthSymbol_w E) H := by rw [eH]; exact hP
  replace hS : va_S A s.heap H locs := by rw [eH, eL]; exact hS
  clear eH eL
  rw [P_lengthSymbol] at hm
  refine lv_iload_n hx hb d_P_lengthSymbol_0 rfl (lv_at hl 0 rfl) ?_
  refine lv_sipush (v := 258) hx hb d_P_lengthSymbol_1 (by decide) ?_
  refine lv_icmp_lt (tgt := 11) hx hb d_P_lengthSymbol_4 (by decide) (fun c4 => ?_) (fun c4 => ?_)
  · replace hm := mC_t hm c4
    have h_36 : ∀ (x1 : Int32) (x2 : Int32) (H : Heap) (locs : List Loc) (ls : Array Slot), (P_lengthSymbol_36 F) x1 x2 = some res → va_P E.1 vwCl (P_lengthSymbol_w E) H → va_D A (P_lengthSymbol_w E) → va_S A s.heap H locs → lv_has ls 3 [(1, .int x1), (2, .int x2)] → W p l e P_lengthSymbol_rm s m args below meth c H locs 0 0 Q (F0 m 36 ls []) := by
      intro x1 x2 H locs ls hm hP hD hS hl
      rw [P_lengthSymbol_36] at hm
      refine lv_sipush (v := 257) hx hb d_P_lengthSymbol_36 (by decide) ?_
      refine lv_iconst (v := 4) hx hb d_P_lengthSymbol_39 (by decide) ?_
      refine lv_iload_n hx hb d_P_lengthSymbol_40 rfl (lv_at hl 1 rfl) ?_
      refine lv_imul hx hb d_P_lengthSymbol_41 ?_
      refine lv_iadd hx hb d_P_lengthSymbol_42 ?_
      refine lv_iload_n hx hb d_P_lengthSymbol_43 rfl (lv_at hl 0 rfl) ?_
      refine lv_iload_n hx hb d_P_lengthSymbol_44 rfl (lv_at hl 1 rfl) ?_
      refine lv_ishr hx hb d_P_lengthSymbol_45 ?_
      refine lv_iadd hx hb d_P_lengthSymbol_46 ?_
      replace hm := Option.some.inj hm
      subst hm
      exact hret d_P_lengthSymbol_47 (u := ()) ⟨rfl, rfl⟩ hP hD hS
    have h_17 : ∀ (n_17 : Nat) (x1 : Int32) (x2 : Int32) (H : Heap) (locs : List Loc) (ls : Array Slot), (mW2 (P_lengthSymbol_17 F (P_lengthSymbol_36 F)) n_17) x1 x2 = some res → va_P E.1 vwCl (P_lengthSymbol_w E) H → va_D A (P_lengthSymbol_w E) → va_S A s.heap H locs → lv_has ls 3 [(1, .int x1), (2, .int x2)] → W p l e P_lengthSymbol_rm s m args below meth c H locs 0 0 Q (F0 m 17 ls []) := by
      intro n_17
      induction n_17 with
      | zero => exact fun _ _ _ _ _ hm _ _ _ _ => (mW2_z hm).elim
      | succ n_17 ih_17 =>
        intro x1 x2 H locs ls hm hP hD hS hl
        replace hm := mW2_s hm
        rw [P_lengthSymbol_17] at hm
        refine lv_iload_n hx hb d_P_lengthSymbol_17 rfl (lv_at hl 1 rfl) ?_
        refine lv_iconst (v := 5) hx hb d_P_lengthSymbol_18 (by decide) ?_
        refine lv_icmp_ge (tgt := 36) hx hb d_P_lengthSymbol_19 (by decide) (fun c19 => ?_) (fun c19 => ?_)
        · replace hm := mC_t hm c19
          exact h_36 _ _ H locs ls hm hP hD hS hl
        · replace hm := mC_f hm c19
          refine lv_iload_n hx hb d_P_lengthSymbol_22 rfl (lv_at hl 0 rfl) ?_
          refine lv_iload_n hx hb d_P_lengthSymbol_23 rfl (lv_at hl 1 rfl) ?_
          refine lv_ishr hx hb d_P_lengthSymbol_24 ?_
          refine lv_bipush (v := 7) hx hb d_P_lengthSymbol_25 (by decide) ?_
          refine lv_icmp_le (tgt := 36) hx hb d_P_lengthSymbol_27 (by decide) (fun c27 => ?_) (fun c27 => ?_)
          · replace hm := mC_t hm c27
            exact h_36 _ _ H locs ls hm hP hD hS hl
          · replace hm := mC_f hm c27
            obtain ⟨y2_1, ey2_1⟩ : ∃ y : Int32, y = x2 + 1 := ⟨_, rfl⟩
            replace hm := mL_e hm y2_1 ey2_1
            refine lv_iinc (v := y2_1) (lv' := [(2, .int y2_1), (1, .int x1)]) hx hb d_P_lengthSymbol_30 hl (k := 1) rfl (by rw [ey2_1]; rfl) (by decide) rfl (fun ls hl => ?_)
            refine lv_goto (tgt := 17) hx hb d_P_lengthSymbol_33 (by decide) ?_
            exact ih_17 _ _ H locs ls hm hP hD hS (lv_sub hl [1, 0] rfl)
    refine lv_iload_n hx hb d_P_lengthSymbol_11 rfl (lv_at hl 0 rfl) ?_
    refine lv_iconst (v := 3) hx hb d_P_lengthSymbol_12 (by decide) ?_
    refine lv_isub hx hb d_P_lengthSymbol_13 ?_
    refine lv_topi (fun y1_2 ey1_2 => ?_)
    replace hm := mL_e hm y1_2 ey1_2
    refine lv_istore_n (lv' := [(1, .int y1_2), (0, .int x0)]) hx hb d_P_lengthSymbol_14 rfl hl (by decide) rfl (fun ls hl => ?_)
    refine lv_iconst (v := 0) hx hb d_P_lengthSymbol_15 (by decide) ?_
    refine lv_istore_n (lv' := [(2, .int 0), (1, .int y1_2), (0, .int x0)]) hx hb d_P_lengthSymbol_16 rfl hl (by decide) rfl (fun ls hl => ?_)
    exact h_17 F _ _ H locs ls hm hP hD hS (lv_sub hl [1, 0] rfl)
  · replace hm := mC_f hm c4
    refine lv_sipush (v := 285) hx hb d_P_lengthSymbol_7 (by decide) ?_
    replace hm := Option.some.inj hm
    subst hm
    exact hret d_P_lengthSymbol_10 (u := ()) ⟨rfl, rfl⟩ hP hD hS
theorem d_P_lengthExtra_0 : decode b_P_lengthExtra 0 = .ok (.iload_n 0, 1) := by decide +kernel
theorem d_P_lengthExtra_1 : decode b_P_lengthExtra 1 = .ok (.sipush 265, 3) := by decide +kernel
theorem d_P_lengthExtra_4 : decode b_P_lengthExtra 4 = .ok (.if_icmp .lt 10, 3) := by decide +kernel
theorem d_P_lengthExtra_7 : decode b_P_lengthExtra 7 = .ok (.iload_n 0, 1) := by decide +kernel
theorem d_P_lengthExtra_8 : decode b_P_lengthExtra 8 = .ok (.sipush 285, 3) := by decide +kernel
theorem d_P_lengthExtra_11 : decode b_P_lengthExtra 11 = .ok (.if_icmp .ne 7, 3) := by decide +kernel
theorem d_P_lengthExtra_14 : decode b_P_lengthExtra 14 = .ok (.iconst 0, 1) := by decide +kernel
theorem d_P_lengthExtra_15 : decode b_P_lengthExtra 15 = .ok (.goto 10, 3) := by decide +kernel
theorem d_P_lengthExtra_18 : decode b_P_lengthExtra 18 = .ok (.iload_n 0, 1) := by decide +kernel
theorem d_P_lengthExtra_19 : decode b_P_lengthExtra 19 = .ok (.sipush 261, 3) := by decide +kernel
theorem d_P_lengthExtra_22 : decode b_P_lengthExtra 22 = .ok (.isub, 1) := by decide +kernel
theorem d_P_lengthExtra_23 : decode b_P_lengthExtra 23 = .ok (.iconst 4, 1) := by decide +kernel
theorem d_P_lengthExtra_24 : decode b_P_lengthExtra 24 = .ok (.idiv, 1) := by decide +kernel
theorem d_P_lengthExtra_25 : decode b_P_lengthExtra 25 = .ok (.ireturn, 1) := by decide +kernel
abbrev P_lengthExtra_w (E : xE) : va_W := []
def P_lengthExtra (F : Nat) (x0 : Int32) : Option (Int32 × Unit) :=
  mC (x0 < 265) (some (0, ())) (mC (x0 = 285) (some (0, ())) (some ((x0 - 261) / 4, ())))
abbrev P_lengthExtra_rm : Room := { frames := 0, cells := 0, slots := 0, locals := 0 }
set_option maxHeartbeats 4000000 in
set_option maxRecDepth 100000 in
theorem c_P_lengthExtra (l : Launch) (E : xE) (F sz : Nat) (x0 : Int32) (res : Int32 × Unit) (hm : P_lengthExtra F x0 = some res) : Met l y_P_lengthExtra (Cond.code y_P_lengthExtra b_P_lengthExtra 1 (some .int) :: x_tb) P_lengthExtra_rm (va_Pc [.int x0] (xPre E (P_lengthExtra_w E) sz)) (xQi E (fun (r : Int32) (u : Unit) => r = res.1 ∧ u = res.2) (fun (u : Unit) => (P_lengthExtra_w E)) (va_A (P_lengthExtra_w E) sz)) 0 0 (va_A (P_lengthExtra_w E) sz) := by
  refine xEnI (by decide) (Nat.le_of_ble_eq_true rfl) ?_
  intro p e s m args below meth c A ls Q hx hb hnm hts hown hml hK hA hI hN hret hP hD hS hl
  replace hown : s.vm.findClass R_P = some m.cls := hown
  replace hl : lv_has ls 1 [(0, .int x0)] := hl
  obtain ⟨H, eH⟩ : ∃ z, z = s.heap := ⟨_, rfl⟩
  obtain ⟨locs, eL⟩ : ∃ z : List Loc, z = [] := ⟨_, rfl⟩
  rw [show W p l e P_lengthExtra_rm s m args below meth c s.heap [] 0 0 Q (F0 m 0 ls []) = W p l e P_lengthExtra_rm s m args below meth c H locs 0 0 Q (F0 m 0 ls []) by rw [eH, eL]]
  replace hP : va_P E.1 vwCl (P_lengthExtra_w E) H := by rw [eH]; exact hP
  replace hS : va_S A s.heap H locs := by rw [eH, eL]; exact hS
  clear eH eL
  rw [P_lengthExtra] at hm
  refine lv_iload_n hx hb d_P_lengthExtra_0 rfl (lv_at hl 0 rfl) ?_
  refine lv_sipush (v := 265) hx hb d_P_lengthExtra_1 (by decide) ?_
  refine lv_icmp_lt (tgt := 14) hx hb d_P_lengthExtra_4 (by decide) (fun c4 => ?_) (fun c4 => ?_)
  · replace hm := mC_t hm c4
    refine lv_iconst (v := 0) hx hb d_P_lengthExtra_14 (by decide) ?_
    refine lv_goto (tgt := 25) hx hb d_P_lengthExtra_15 (by decide) ?_
    replace hm := Option.some.inj hm
    subst hm
    exact hret d_P_lengthExtra_25 (u := ()) ⟨rfl, rfl⟩ hP hD hS
  · replace hm := mC_f hm c4
    refine lv_iload_n hx hb d_P_lengthExtra_7 rfl (lv_at hl 0 rfl) ?_
    refine lv_sipush (v := 285) hx hb d_P_lengthExtra_8 (by decide) ?_
    refine lv_icmp_ne (tgt := 18) hx hb d_P_lengthExtra_11 (by decide) (fun c11 => ?_) (fun c11 => ?_)
    · replace hm := mC_f hm c11
      refine lv_iload_n hx hb d_P_lengthExtra_18 rfl (lv_at hl 0 rfl) ?_
      refine lv_sipush (v := 261) hx hb d_P_lengthExtra_19 (by decide) ?_
      refine lv_isub hx hb d_P_lengthExtra_22 ?_
      refine lv_iconst (v := 4) hx hb d_P_lengthExtra_23 (by decide) ?_
      refine lv_idiv hx hb d_P_lengthExtra_24 (by decide) ?_
      replace hm := Option.some.inj hm
      subst hm
      exact hret d_P_lengthExtra_25 (u := ()) ⟨rfl, rfl⟩ hP hD hS
    · replace hm := mC_t hm c11
      refine lv_iconst (v := 0) hx hb d_P_lengthExtra_14 (by decide) ?_
      refine lv_goto (tgt := 25) hx hb d_P_lengthExtra_15 (by decide) ?_
      replace hm := Option.some.inj hm
      subst hm
      exact hret d_P_lengthExtra_25 (u := ()) ⟨rfl, rfl⟩ hP hD hS
theorem d_P_lengthBase_0 : decode b_P_lengthBase 0 = .ok (.iload_n 0, 1) := by decide +kernel
theorem d_P_lengthBase_1 : decode b_P_lengthBase 1 = .ok (.sipush 285, 3) := by decide +kernel
theorem d_P_lengthBase_4 : decode b_P_lengthBase 4 = .ok (.if_icmp .ne 7, 3) := by decide +kernel
theorem d_P_lengthBase_7 : decode b_P_lengthBase 7 = .ok (.sipush 258, 3) := by decide +kernel
theorem d_P_lengthBase_10 : decode b_P_lengthBase 10 = .ok (.ireturn, 1) := by decide +kernel
theorem d_P_lengthBase_11 : decode b_P_lengthBase 11 = .ok (.iload_n 0, 1) := by decide +kernel
theorem d_P_lengthBase_12 : decode b_P_lengthBase 12 = .ok (.sipush 265, 3) := by decide +kernel
theorem d_P_lengthBase_15 : decode b_P_lengthBase 15 = .ok (.if_icmp .ge 11, 3) := by decide +kernel
theorem d_P_lengthBase_18 : decode b_P_lengthBase 18 = .ok (.iload_n 0, 1) := by decide +kernel
theorem d_P_lengthBase_19 : decode b_P_lengthBase 19 = .ok (.sipush 254, 3) := by decide +kernel
theorem d_P_lengthBase_22 : decode b_P_lengthBase 22 = .ok (.isub, 1) := by decide +kernel
theorem d_P_lengthBase_23 : decode b_P_lengthBase 23 = .ok (.goto 19, 3) := by decide +kernel
theorem d_P_lengthBase_26 : decode b_P_lengthBase 26 = .ok (.iconst 3, 1) := by decide +kernel
theorem d_P_lengthBase_27 : decode b_P_lengthBase 27 = .ok (.iconst 4, 1) := by decide +kernel
theorem d_P_lengthBase_28 : decode b_P_lengthBase 28 = .ok (.iload_n 0, 1) := by decide +kernel
theorem d_P_lengthBase_29 : decode b_P_lengthBase 29 = .ok (.sipush 261, 3) := by decide +kernel
theorem d_P_lengthBase_32 : decode b_P_lengthBase 32 = .ok (.isub, 1) := by decide +kernel
theorem d_P_lengthBase_33 : decode b_P_lengthBase 33 = .ok (.iconst 4, 1) := by decide +kernel
theorem d_P_lengthBase_34 : decode b_P_lengthBase 34 = .ok (.irem, 1) := by decide +kernel
theorem d_P_lengthBase_35 : decode b_P_lengthBase 35 = .ok (.iadd, 1) := by decide +kernel
theorem d_P_lengthBase_36 : decode b_P_lengthBase 36 = .ok (.iload_n 0, 1) := by decide +kernel
theorem d_P_lengthBase_37 : decode b_P_lengthBase 37 = .ok (.invokestatic 125, 3) := by decide +kernel
theorem d_P_lengthBase_40 : decode b_P_lengthBase 40 = .ok (.ishl, 1) := by decide +kernel
theorem d_P_lengthBase_41 : decode b_P_lengthBase 41 = .ok (.iadd, 1) := by decide +kernel
theorem d_P_lengthBase_42 : decode b_P_lengthBase 42 = .ok (.ireturn, 1) := by decide +kernel
abbrev P_lengthBase_w (E : xE) : va_W := []
def P_lengthBase (F : Nat) (x0 : Int32) : Option (Int32 × Unit) :=
  mC (x0 = 285) (some (258, ())) (mC (265 ≤ x0) (mL (x0 - 261) fun t_1 => mR0 (P_lengthExtra F x0) fun r_2 => some (3 + ((4 + (t_1 - t_1 / 4 * 4)) <<< (r_2 &&& 31)), ())) (some (x0 - 254, ())))
abbrev P_lengthBase_rm : Room := { frames := 1, cells := 0, slots := 0, locals := 20 }
set_option maxHeartbeats 4000000 in
set_option maxRecDepth 100000 in
theorem c_P_lengthBase (l : Launch) (E : xE) (F sz : Nat) (x0 : Int32) (res : Int32 × Unit) (hm : P_lengthBase F x0 = some res) : Met l y_P_lengthBase (Cond.code y_P_lengthBase b_P_lengthBase 1 (some .int) :: x_tb) P_lengthBase_rm (va_Pc [.int x0] (xPre E (P_lengthBase_w E) sz)) (xQi E (fun (r : Int32) (u : Unit) => r = res.1 ∧ u = res.2) (fun (u : Unit) => (P_lengthBase_w E)) (va_A (P_lengthBase_w E) sz)) 0 0 (va_A (P_lengthBase_w E) sz) := by
  refine xEnI (by decide) (Nat.le_of_ble_eq_true rfl) ?_
  intro p e s m args below meth c A ls Q hx hb hnm hts hown hml hK hA hI hN hret hP hD hS hl
  replace hown : s.vm.findClass R_P = some m.cls := hown
  replace hl : lv_has ls 1 [(0, .int x0)] := hl
  obtain ⟨H, eH⟩ : ∃ z, z = s.heap := ⟨_, rfl⟩
  obtain ⟨locs, eL⟩ : ∃ z : List Loc, z = [] := ⟨_, rfl⟩
  rw [show W p l e P_lengthBase_rm s m args below meth c s.heap [] 0 0 Q (F0 m 0 ls []) = W p l e P_lengthBase_rm s m args below meth c H locs 0 0 Q (F0 m 0 ls []) by rw [eH, eL]]
  replace hP : va_P E.1 vwCl (P_lengthBase_w E) H := by rw [eH]; exact hP
  replace hS : va_S A s.heap H locs := by rw [eH, eL]; exact hS
  clear eH eL
  rw [P_lengthBase] at hm
  refine lv_iload_n hx hb d_P_lengthBase_0 rfl (lv_at hl 0 rfl) ?_
  refine lv_sipush (v := 285) hx hb d_P_lengthBase_1 (by decide) ?_
  refine lv_icmp_ne (tgt := 11) hx hb d_P_lengthBase_4 (by decide) (fun c4 => ?_) (fun c4 => ?_)
  · replace hm := mC_f hm c4
    refine lv_iload_n hx hb d_P_lengthBase_11 rfl (lv_at hl 0 rfl) ?_
    refine lv_sipush (v := 265) hx hb d_P_lengthBase_12 (by decide) ?_
    refine lv_icmp_ge (tgt := 26) hx hb d_P_lengthBase_15 (by decide) (fun c15 => ?_) (fun c15 => ?_)
    · replace hm := mC_t hm c15
      refine lv_iconst (v := 3) hx hb d_P_lengthBase_26 (by decide) ?_
      refine lv_iconst (v := 4) hx hb d_P_lengthBase_27 (by decide) ?_
      refine lv_iload_n hx hb d_P_lengthBase_28 rfl (lv_at hl 0 rfl) ?_
      refine lv_sipush (v := 261) hx hb d_P_lengthBase_29 (by decide) ?_
      refine lv_isub hx hb d_P_lengthBase_32 ?_
      refine lv_iconst (v := 4) hx hb d_P_lengthBase_33 (by decide) ?_
      obtain ⟨t_1, et_1⟩ : ∃ z : Int32, z = x0 - 261 := ⟨_, rfl⟩
      rw [← et_1]
      replace hm := mL_e hm t_1 et_1
      refine lv_irem hx hb d_P_lengthBase_34 (by decide) ?_
      refine lv_iadd hx hb d_P_lengthBase_35 ?_
      refine lv_iload_n hx hb d_P_lengthBase_36 rfl (lv_at hl 0 rfl) ?_
      obtain ⟨r_2, hc37, hm⟩ := mR0_e hm
      refine xmi (wc := (P_lengthExtra_w E)) [] [] [] hP hD hS hA rfl (by decide) (by decide) 0 (by decide) (fun _ => rfl) (fun hPc hDc hFc => va_runS (As := [.int x0]) (rest := [.int (4 + (t_1 - t_1 / 4 * 4)), .int 3]) ⟨hx, hb, hml, hown, hts⟩ (c_P_lengthExtra l E F H.size x0 (r_2, ()) hc37) (va_cwS 1 hts (x_gS tw_598 tw_491 tw_66 tw_492) rfl rfl rfl (by decide +kernel) ⟨Nat.le_of_ble_eq_true rfl, Nat.le_of_ble_eq_true rfl⟩) (xPS hPc hDc hFc hK hI hN hS) rfl rfl hl.1 rfl (lv_room (Nat.le_of_ble_eq_true rfl)) d_P_lengthBase_37 ⟨Nat.le_of_ble_eq_true rfl, Nat.le_of_ble_eq_true rfl⟩) (fun r9 u9 H locs hw hP hD hS => ?_)
      have hw1 : r_2 = r9 := hw.1.symm
      subst hw1
      replace hP : va_P E.1 vwCl (P_lengthBase_w E) H := hP
      replace hD : va_D A (P_lengthBase_w E) := hD
      refine lv_ishl hx hb d_P_lengthBase_40 ?_
      refine lv_iadd hx hb d_P_lengthBase_41 ?_
      replace hm := Option.some.inj hm
      subst hm
      exact hret d_P_lengthBase_42 (u := ()) ⟨rfl, rfl⟩ hP hD hS
    · replace hm := mC_f hm c15
      refine lv_iload_n hx hb d_P_lengthBase_18 rfl (lv_at hl 0 rfl) ?_
      refine lv_sipush (v := 254) hx hb d_P_lengthBase_19 (by decide) ?_
      refine lv_isub hx hb d_P_lengthBase_22 ?_
      refine lv_goto (tgt := 42) hx hb d_P_lengthBase_23 (by decide) ?_
      replace hm := Option.some.inj hm
      subst hm
      exact hret d_P_lengthBase_42 (u := ()) ⟨rfl, rfl⟩ hP hD hS
  · replace hm := mC_t hm c4
    refine lv_sipush (v := 258) hx hb d_P_lengthBase_7 (by decide) ?_
    replace hm := Option.some.inj hm
    subst hm
    exact hret d_P_lengthBase_10 (u := ()) ⟨rfl, rfl⟩ hP hD hS
theorem d_P_distanceSymbol_0 : decode b_P_distanceSymbol 0 = .ok (.iload_n 0, 1) := by decide +kernel
theorem d_P_distanceSymbol_1 : decode b_P_distanceSymbol 1 = .ok (.iconst 1, 1) := by decide +kernel
theorem d_P_distanceSymbol_2 : decode b_P_distanceSymbol 2 = .ok (.isub, 1) := by decide +kernel
theorem d_P_distanceSymbol_3 : decode b_P_distanceSymbol 3 = .ok (.istore_n 1, 1) := by decide +kernel
theorem d_P_distanceSymbol_4 : decode b_P_distanceSymbol 4 = .ok (.iconst 0, 1) := by decide +kernel
theorem d_P_distanceSymbol_5 : decode b_P_distanceSymbol 5 = .ok (.istore_n 2, 1) := by decide +kernel
theorem d_P_distanceSymbol_6 : decode b_P_distanceSymbol 6 = .ok (.iload_n 2, 1) := by decide +kernel
theorem d_P_distanceSymbol_7 : decode b_P_distanceSymbol 7 = .ok (.bipush 13, 2) := by decide +kernel
theorem d_P_distanceSymbol_9 : decode b_P_distanceSymbol 9 = .ok (.if_icmp .ge 16, 3) := by decide +kernel
theorem d_P_distanceSymbol_12 : decode b_P_distanceSymbol 12 = .ok (.iload_n 1, 1) := by decide +kernel
theorem d_P_distanceSymbol_13 : decode b_P_distanceSymbol 13 = .ok (.iload_n 2, 1) := by decide +kernel
theorem d_P_distanceSymbol_14 : decode b_P_distanceSymbol 14 = .ok (.ishr, 1) := by decide +kernel
theorem d_P_distanceSymbol_15 : decode b_P_distanceSymbol 15 = .ok (.iconst 3, 1) := by decide +kernel
theorem d_P_distanceSymbol_16 : decode b_P_distanceSymbol 16 = .ok (.if_icmp .le 9, 3) := by decide +kernel
theorem d_P_distanceSymbol_19 : decode b_P_distanceSymbol 19 = .ok (.iinc 2 1, 3) := by decide +kernel
theorem d_P_distanceSymbol_22 : decode b_P_distanceSymbol 22 = .ok (.goto (-16), 3) := by decide +kernel
theorem d_P_distanceSymbol_25 : decode b_P_distanceSymbol 25 = .ok (.iconst 2, 1) := by decide +kernel
theorem d_P_distanceSymbol_26 : decode b_P_distanceSymbol 26 = .ok (.iload_n 2, 1) := by decide +kernel
theorem d_P_distanceSymbol_27 : decode b_P_distanceSymbol 27 = .ok (.imul, 1) := by decide +kernel
theorem d_P_distanceSymbol_28 : decode b_P_distanceSymbol 28 = .ok (.iload_n 1, 1) := by decide +kernel
theorem d_P_distanceSymbol_29 : decode b_P_distanceSymbol 29 = .ok (.iload_n 2, 1) := by decide +kernel
theorem d_P_distanceSymbol_30 : decode b_P_distanceSymbol 30 = .ok (.ishr, 1) := by decide +kernel
theorem d_P_distanceSymbol_31 : decode b_P_distanceSymbol 31 = .ok (.iadd, 1) := by decide +kernel
theorem d_P_distanceSymbol_32 : decode b_P_distanceSymbol 32 = .ok (.ireturn, 1) := by decide +kernel
def P_distanceSymbol_25 (F : Nat) (x1 : Int32) (x2 : Int32) : Option (Int32 × Unit) :=
  some ((2 * x2) + (x1 >>> (x2 &&& 31)), ())
def P_distanceSymbol_6 (F : Nat) (k_25 : Int32 → Int32 → Option (Int32 × Unit)) (k_6 : Int32 → Int32 → Option (Int32 × Unit)) (x1 : Int32) (x2 : Int32) : Option (Int32 × Unit) :=
  mC (13 ≤ x2) (k_25 x1 x2) (mC ((x1 >>> (x2 &&& 31)) ≤ 3) (k_25 x1 x2) (mL (x2 + 1) fun y2_1 => k_6 x1 y2_1))
abbrev P_distanceSymbol_w (E : xE) : va_W := []
def P_distanceSymbol (F : Nat) (x0 : Int32) : Option (Int32 × Unit) :=
  mL (x0 - 1) fun y1_2 => (mW2 (P_distanceSymbol_6 F (P_distanceSymbol_25 F)) F) y1_2 0
abbrev P_distanceSymbol_rm : Room := { frames := 0, cells := 0, slots := 0, locals := 0 }
set_option maxHeartbeats 4000000 in
set_option maxRecDepth 100000 in
theorem c_P_distanceSymbol (l : Launch) (E : xE) (F sz : Nat) (x0 : Int32) (res : Int32 × Unit) (hm : P_distanceSymbol F x0 = some res) : Met l y_P_distanceSymbol (Cond.code y_P_distanceSymbol b_P_distanceSymbol 3 (some .int) :: x_tb) P_distanceSymbol_rm (va_Pc [.int x0] (xPre E (P_distanceSymbol_w E) sz)) (xQi E (fun (r : Int32) (u : Unit) => r = res.1 ∧ u = res.2) (fun (u : Unit) => (P_distanceSymbol_w E)) (va_A (P_distanceSymbol_w E) sz)) 0 0 (va_A (P_distanceSymbol_w E) sz) := by
  refine xEnI (by decide) (Nat.le_of_ble_eq_true rfl) ?_
  intro p e s m args below meth c A ls Q hx hb hnm hts hown hml hK hA hI hN hret hP hD hS hl
  replace hown : s.vm.findClass R_P = some m.cls := hown
  replace hl : lv_has ls 3 [(0, .int x0)] := hl
  obtain ⟨H, eH⟩ : ∃ z, z = s.heap := ⟨_, rfl⟩
  obtain ⟨locs, eL⟩ : ∃ z : List Loc, z = [] := ⟨_, rfl⟩
  rw [show W p l e P_distanceSymbol_rm s m args below meth c s.heap [] 0 0 Q (F0 m 0 ls []) = W p l e P_distanceSymbol_rm s m args below meth c H locs 0 0 Q (F0 m 0 ls []) by rw [eH, eL]]
  replace hP : va_P E.1 vwCl (P_distanceSymbol_w E) H := by rw [eH]; exact hP
  replace hS : va_S A s.heap H locs := by rw [eH, eL]; exact hS
  clear eH eL
  rw [P_distanceSymbol] at hm
  have h_25 : ∀ (x1 : Int32) (x2 : Int32) (H : Heap) (locs : List Loc) (ls : Array Slot), (P_distanceSymbol_25 F) x1 x2 = some res → va_P E.1 vwCl (P_distanceSymbol_w E) H → va_D A (P_distanceSymbol_w E) → va_S A s.heap H locs → lv_has ls 3 [(1, .int x1), (2, .int x2)] → W p l e P_distanceSymbol_rm s m args below meth c H locs 0 0 Q (F0 m 25 ls []) := by
    intro x1 x2 H locs ls hm hP hD hS hl
    rw [P_distanceSymbol_25] at hm
    refine lv_iconst (v := 2) hx hb d_P_distanceSymbol_25 (by decide) ?_
    refine lv_iload_n hx hb d_P_distanceSymbol_26 rfl (lv_at hl 1 rfl) ?_
    refine lv_imul hx hb d_P_distanceSymbol_27 ?_
    refine lv_iload_n hx hb d_P_distanceSymbol_28 rfl (lv_at hl 0 rfl) ?_
    refine lv_iload_n hx hb d_P_distanceSymbol_29 rfl (lv_at hl 1 rfl) ?_
    refine lv_ishr hx hb d_P_distanceSymbol_30 ?_
    refine lv_iadd hx hb d_P_distanceSymbol_31 ?_
    replace hm := Option.some.inj hm
    subst hm
    exact hret d_P_distanceSymbol_32 (u := ()) ⟨rfl, rfl⟩ hP hD hS
  have h_6 : ∀ (n_6 : Nat) (x1 : Int32) (x2 : Int32) (H : Heap) (locs : List Loc) (ls : Array Slot), (mW2 (P_distanceSymbol_6 F (P_distanceSymbol_25 F)) n_6) x1 x2 = some res → va_P E.1 vwCl (P_distanceSymbol_w E) H → va_D A (P_distanceSymbol_w E) → va_S A s.heap H locs → lv_has ls 3 [(1, .int x1), (2, .int x2)] → W p l e P_distanceSymbol_rm s m args below meth c H locs 0 0 Q (F0 m 6 ls []) := by
    intro n_6
    induction n_6 with
    | zero => exact fun _ _ _ _ _ hm _ _ _ _ => (mW2_z hm).elim
    | succ n_6 ih_6 =>
      intro x1 x2 H locs ls hm hP hD hS hl
      replace hm := mW2_s hm
      rw [P_distanceSymbol_6] at hm
      refine lv_iload_n hx hb d_P_distanceSymbol_6 rfl (lv_at hl 1 rfl) ?_
      refine lv_bipush (v := 13) hx hb d_P_distanceSymbol_7 (by decide) ?_
      refine lv_icmp_ge (tgt := 25) hx hb d_P_distanceSymbol_9 (by decide) (fun c9 => ?_) (fun c9 => ?_)
      · replace hm := mC_t hm c9
        exact h_25 _ _ H locs ls hm hP hD hS hl
      · replace hm := mC_f hm c9
        refine lv_iload_n hx hb d_P_distanceSymbol_12 rfl (lv_at hl 0 rfl) ?_
        refine lv_iload_n hx hb d_P_distanceSymbol_13 rfl (lv_at hl 1 rfl) ?_
        refine lv_ishr hx hb d_P_distanceSymbol_14 ?_
        refine lv_iconst (v := 3) hx hb d_P_distanceSymbol_15 (by decide) ?_
        refine lv_icmp_le (tgt := 25) hx hb d_P_distanceSymbol_16 (by decide) (fun c16 => ?_) (fun c16 => ?_)
        · replace hm := mC_t hm c16
          exact h_25 _ _ H locs ls hm hP hD hS hl
        · replace hm := mC_f hm c16
          obtain ⟨y2_1, ey2_1⟩ : ∃ y : Int32, y = x2 + 1 := ⟨_, rfl⟩
          replace hm := mL_e hm y2_1 ey2_1
          refine lv_iinc (v := y2_1) (lv' := [(2, .int y2_1), (1, .int x1)]) hx hb d_P_distanceSymbol_19 hl (k := 1) rfl (by rw [ey2_1]; rfl) (by decide) rfl (fun ls hl => ?_)
          refine lv_goto (tgt := 6) hx hb d_P_distanceSymbol_22 (by decide) ?_
          exact ih_6 _ _ H locs ls hm hP hD hS (lv_sub hl [1, 0] rfl)
  refine lv_iload_n hx hb d_P_distanceSymbol_0 rfl (lv_at hl 0 rfl) ?_
  refine lv_iconst (v := 1) hx hb d_P_distanceSymbol_1 (by decide) ?_
  refine lv_isub hx hb d_P_distanceSymbol_2 ?_
  refine lv_topi (fun y1_2 ey1_2 => ?_)
  replace hm := mL_e hm y1_2 ey1_2
  refine lv_istore_n (lv' := [(1, .int y1_2), (0, .int x0)]) hx hb d_P_distanceSymbol_3 rfl hl (by decide) rfl (fun ls hl => ?_)
  refine lv_iconst (v := 0) hx hb d_P_distanceSymbol_4 (by decide) ?_
  refine lv_istore_n (lv' := [(2, .int 0), (1, .int y1_2), (0, .int x0)]) hx hb d_P_distanceSymbol_5 rfl hl (by decide) rfl (fun ls hl => ?_)
  exact h_6 F _ _ H locs ls hm hP hD hS (lv_sub hl [1, 0] rfl)
theorem d_P_distanceExtra_0 : decode b_P_distanceExtra 0 = .ok (.iload_n 0, 1) := by decide +kernel
theorem d_P_distanceExtra_1 : decode b_P_distanceExtra 1 = .ok (.iconst 4, 1) := by decide +kernel
theorem d_P_distanceExtra_2 : decode b_P_distanceExtra 2 = .ok (.if_icmp .ge 7, 3) := by decide +kernel
theorem d_P_distanceExtra_5 : decode b_P_distanceExtra 5 = .ok (.iconst 0, 1) := by decide +kernel
theorem d_P_distanceExtra_6 : decode b_P_distanceExtra 6 = .ok (.goto 8, 3) := by decide +kernel
theorem d_P_distanceExtra_9 : decode b_P_distanceExtra 9 = .ok (.iload_n 0, 1) := by decide +kernel
theorem d_P_distanceExtra_10 : decode b_P_distanceExtra 10 = .ok (.iconst 2, 1) := by decide +kernel
theorem d_P_distanceExtra_11 : decode b_P_distanceExtra 11 = .ok (.idiv, 1) := by decide +kernel
theorem d_P_distanceExtra_12 : decode b_P_distanceExtra 12 = .ok (.iconst 1, 1) := by decide +kernel
theorem d_P_distanceExtra_13 : decode b_P_distanceExtra 13 = .ok (.isub, 1) := by decide +kernel
theorem d_P_distanceExtra_14 : decode b_P_distanceExtra 14 = .ok (.ireturn, 1) := by decide +kernel
abbrev P_distanceExtra_w (E : xE) : va_W := []
def P_distanceExtra (F : Nat) (x0 : Int32) : Option (Int32 × Unit) :=
  mC (4 ≤ x0) (some ((x0 / 2) - 1, ())) (some (0, ()))
abbrev P_distanceExtra_rm : Room := { frames := 0, cells := 0, slots := 0, locals := 0 }
set_option maxHeartbeats 4000000 in
set_option maxRecDepth 100000 in
theorem c_P_distanceExtra (l : Launch) (E : xE) (F sz : Nat) (x0 : Int32) (res : Int32 × Unit) (hm : P_distanceExtra F x0 = some res) : Met l y_P_distanceExtra (Cond.code y_P_distanceExtra b_P_distanceExtra 1 (some .int) :: x_tb) P_distanceExtra_rm (va_Pc [.int x0] (xPre E (P_distanceExtra_w E) sz)) (xQi E (fun (r : Int32) (u : Unit) => r = res.1 ∧ u = res.2) (fun (u : Unit) => (P_distanceExtra_w E)) (va_A (P_distanceExtra_w E) sz)) 0 0 (va_A (P_distanceExtra_w E) sz) := by
  refine xEnI (by decide) (Nat.le_of_ble_eq_true rfl) ?_
  intro p e s m args below meth c A ls Q hx hb hnm hts hown hml hK hA hI hN hret hP hD hS hl
  replace hown : s.vm.findClass R_P = some m.cls := hown
  replace hl : lv_has ls 1 [(0, .int x0)] := hl
  obtain ⟨H, eH⟩ : ∃ z, z = s.heap := ⟨_, rfl⟩
  obtain ⟨locs, eL⟩ : ∃ z : List Loc, z = [] := ⟨_, rfl⟩
  rw [show W p l e P_distanceExtra_rm s m args below meth c s.heap [] 0 0 Q (F0 m 0 ls []) = W p l e P_distanceExtra_rm s m args below meth c H locs 0 0 Q (F0 m 0 ls []) by rw [eH, eL]]
  replace hP : va_P E.1 vwCl (P_distanceExtra_w E) H := by rw [eH]; exact hP
  replace hS : va_S A s.heap H locs := by rw [eH, eL]; exact hS
  clear eH eL
  rw [P_distanceExtra] at hm
  refine lv_iload_n hx hb d_P_distanceExtra_0 rfl (lv_at hl 0 rfl) ?_
  refine lv_iconst (v := 4) hx hb d_P_distanceExtra_1 (by decide) ?_
  refine lv_icmp_ge (tgt := 9) hx hb d_P_distanceExtra_2 (by decide) (fun c2 => ?_) (fun c2 => ?_)
  · replace hm := mC_t hm c2
    refine lv_iload_n hx hb d_P_distanceExtra_9 rfl (lv_at hl 0 rfl) ?_
    refine lv_iconst (v := 2) hx hb d_P_distanceExtra_10 (by decide) ?_
    refine lv_idiv hx hb d_P_distanceExtra_11 (by decide) ?_
    refine lv_iconst (v := 1) hx hb d_P_distanceExtra_12 (by decide) ?_
    refine lv_isub hx hb d_P_distanceExtra_13 ?_
    replace hm := Option.some.inj hm
    subst hm
    exact hret d_P_distanceExtra_14 (u := ()) ⟨rfl, rfl⟩ hP hD hS
  · replace hm := mC_f hm c2
    refine lv_iconst (v := 0) hx hb d_P_distanceExtra_5 (by decide) ?_
    refine lv_goto (tgt := 14) hx hb d_P_distanceExtra_6 (by decide) ?_
    replace hm := Option.some.inj hm
    subst hm
    exact hret d_P_distanceExtra_14 (u := ()) ⟨rfl, rfl⟩ hP hD hS
theorem d_P_distanceBase_0 : decode b_P_distanceBase 0 = .ok (.iload_n 0, 1) := by decide +kernel
theorem d_P_distanceBase_1 : decode b_P_distanceBase 1 = .ok (.iconst 4, 1) := by decide +kernel
theorem d_P_distanceBase_2 : decode b_P_distanceBase 2 = .ok (.if_icmp .ge 9, 3) := by decide +kernel
theorem d_P_distanceBase_5 : decode b_P_distanceBase 5 = .ok (.iload_n 0, 1) := by decide +kernel
theorem d_P_distanceBase_6 : decode b_P_distanceBase 6 = .ok (.iconst 1, 1) := by decide +kernel
theorem d_P_distanceBase_7 : decode b_P_distanceBase 7 = .ok (.iadd, 1) := by decide +kernel
theorem d_P_distanceBase_8 : decode b_P_distanceBase 8 = .ok (.goto 15, 3) := by decide +kernel
theorem d_P_distanceBase_11 : decode b_P_distanceBase 11 = .ok (.iconst 1, 1) := by decide +kernel
theorem d_P_distanceBase_12 : decode b_P_distanceBase 12 = .ok (.iconst 2, 1) := by decide +kernel
theorem d_P_distanceBase_13 : decode b_P_distanceBase 13 = .ok (.iload_n 0, 1) := by decide +kernel
theorem d_P_distanceBase_14 : decode b_P_distanceBase 14 = .ok (.iconst 2, 1) := by decide +kernel
theorem d_P_distanceBase_15 : decode b_P_distanceBase 15 = .ok (.irem, 1) := by decide +kernel
theorem d_P_distanceBase_16 : decode b_P_distanceBase 16 = .ok (.iadd, 1) := by decide +kernel
theorem d_P_distanceBase_17 : decode b_P_distanceBase 17 = .ok (.iload_n 0, 1) := by decide +kernel
theorem d_P_distanceBase_18 : decode b_P_distanceBase 18 = .ok (.invokestatic 128, 3) := by decide +kernel
theorem d_P_distanceBase_21 : decode b_P_distanceBase 21 = .ok (.ishl, 1) := by decide +kernel
theorem d_P_distanceBase_22 : decode b_P_distanceBase 22 = .ok (.iadd, 1) := by decide +kernel
theorem d_P_distanceBase_23 : decode b_P_distanceBase 23 = .ok (.ireturn, 1) := by decide +kernel
abbrev P_distanceBase_w (E : xE) : va_W := []
def P_distanceBase (F : Nat) (x0 : Int32) : Option (Int32 × Unit) :=
  mC (4 ≤ x0) (mR0 (P_distanceExtra F x0) fun r_1 => some (1 + ((2 + (x0 - x0 / 2 * 2)) <<< (r_1 &&& 31)), ())) (some (x0 + 1, ()))
abbrev P_distanceBase_rm : Room := { frames := 1, cells := 0, slots := 0, locals := 20 }
set_option maxHeartbeats 4000000 in
set_option maxRecDepth 100000 in
theorem c_P_distanceBase (l : Launch) (E : xE) (F sz : Nat) (x0 : Int32) (res : Int32 × Unit) (hm : P_distanceBase F x0 = some res) : Met l y_P_distanceBase (Cond.code y_P_distanceBase b_P_distanceBase 1 (some .int) :: x_tb) P_distanceBase_rm (va_Pc [.int x0] (xPre E (P_distanceBase_w E) sz)) (xQi E (fun (r : Int32) (u : Unit) => r = res.1 ∧ u = res.2) (fun (u : Unit) => (P_distanceBase_w E)) (va_A (P_distanceBase_w E) sz)) 0 0 (va_A (P_distanceBase_w E) sz) := by
  refine xEnI (by decide) (Nat.le_of_ble_eq_true rfl) ?_
  intro p e s m args below meth c A ls Q hx hb hnm hts hown hml hK hA hI hN hret hP hD hS hl
  replace hown : s.vm.findClass R_P = some m.cls := hown
  replace hl : lv_has ls 1 [(0, .int x0)] := hl
  obtain ⟨H, eH⟩ : ∃ z, z = s.heap := ⟨_, rfl⟩
  obtain ⟨locs, eL⟩ : ∃ z : List Loc, z = [] := ⟨_, rfl⟩
  rw [show W p l e P_distanceBase_rm s m args below meth c s.heap [] 0 0 Q (F0 m 0 ls []) = W p l e P_distanceBase_rm s m args below meth c H locs 0 0 Q (F0 m 0 ls []) by rw [eH, eL]]
  replace hP : va_P E.1 vwCl (P_distanceBase_w E) H := by rw [eH]; exact hP
  replace hS : va_S A s.heap H locs := by rw [eH, eL]; exact hS
  clear eH eL
  rw [P_distanceBase] at hm
  refine lv_iload_n hx hb d_P_distanceBase_0 rfl (lv_at hl 0 rfl) ?_
  refine lv_iconst (v := 4) hx hb d_P_distanceBase_1 (by decide) ?_
  refine lv_icmp_ge (tgt := 11) hx hb d_P_distanceBase_2 (by decide) (fun c2 => ?_) (fun c2 => ?_)
  · replace hm := mC_t hm c2
    refine lv_iconst (v := 1) hx hb d_P_distanceBase_11 (by decide) ?_
    refine lv_iconst (v := 2) hx hb d_P_distanceBase_12 (by decide) ?_
    refine lv_iload_n hx hb d_P_distanceBase_13 rfl (lv_at hl 0 rfl) ?_
    refine lv_iconst (v := 2) hx hb d_P_distanceBase_14 (by decide) ?_
    refine lv_irem hx hb d_P_distanceBase_15 (by decide) ?_
    refine lv_iadd hx hb d_P_distanceBase_16 ?_
    refine lv_iload_n hx hb d_P_distanceBase_17 rfl (lv_at hl 0 rfl) ?_
    obtain ⟨r_1, hc18, hm⟩ := mR0_e hm
    refine xmi (wc := (P_distanceExtra_w E)) [] [] [] hP hD hS hA rfl (by decide) (by decide) 0 (by decide) (fun _ => rfl) (fun hPc hDc hFc => va_runS (As := [.int x0]) (rest := [.int (2 + (x0 - x0 / 2 * 2)), .int 1]) ⟨hx, hb, hml, hown, hts⟩ (c_P_distanceExtra l E F H.size x0 (r_1, ()) hc18) (va_cwS 1 hts (x_gS tw_602 tw_494 tw_66 tw_495) rfl rfl rfl (by decide +kernel) ⟨Nat.le_of_ble_eq_true rfl, Nat.le_of_ble_eq_true rfl⟩) (xPS hPc hDc hFc hK hI hN hS) rfl rfl hl.1 rfl (lv_room (Nat.le_of_ble_eq_true rfl)) d_P_distanceBase_18 ⟨Nat.le_of_ble_eq_true rfl, Nat.le_of_ble_eq_true rfl⟩) (fun r9 u9 H locs hw hP hD hS => ?_)
    have hw1 : r_1 = r9 := hw.1.symm
    subst hw1
    replace hP : va_P E.1 vwCl (P_distanceBase_w E) H := hP
    replace hD : va_D A (P_distanceBase_w E) := hD
    refine lv_ishl hx hb d_P_distanceBase_21 ?_
    refine lv_iadd hx hb d_P_distanceBase_22 ?_
    replace hm := Option.some.inj hm
    subst hm
    exact hret d_P_distanceBase_23 (u := ()) ⟨rfl, rfl⟩ hP hD hS
  · replace hm := mC_f hm c2
    refine lv_iload_n hx hb d_P_distanceBase_5 rfl (lv_at hl 0 rfl) ?_
    refine lv_iconst (v := 1) hx hb d_P_distanceBase_6 (by decide) ?_
    refine lv_iadd hx hb d_P_distanceBase_7 ?_
    refine lv_goto (tgt := 23) hx hb d_P_distanceBase_8 (by decide) ?_
    replace hm := Option.some.inj hm
    subst hm
    exact hret d_P_distanceBase_23 (u := ()) ⟨rfl, rfl⟩ hP hD hS
theorem d_P_repeatExtra_0 : decode b_P_repeatExtra 0 = .ok (.iload_n 0, 1) := by decide +kernel
theorem d_P_repeatExtra_1 : decode b_P_repeatExtra 1 = .ok (.bipush 16, 2) := by decide +kernel
theorem d_P_repeatExtra_3 : decode b_P_repeatExtra 3 = .ok (.if_icmp .ne 7, 3) := by decide +kernel
theorem d_P_repeatExtra_6 : decode b_P_repeatExtra 6 = .ok (.iconst 2, 1) := by decide +kernel
theorem d_P_repeatExtra_7 : decode b_P_repeatExtra 7 = .ok (.goto 25, 3) := by decide +kernel
theorem d_P_repeatExtra_10 : decode b_P_repeatExtra 10 = .ok (.iload_n 0, 1) := by decide +kernel
theorem d_P_repeatExtra_11 : decode b_P_repeatExtra 11 = .ok (.bipush 17, 2) := by decide +kernel
theorem d_P_repeatExtra_13 : decode b_P_repeatExtra 13 = .ok (.if_icmp .ne 7, 3) := by decide +kernel
theorem d_P_repeatExtra_16 : decode b_P_repeatExtra 16 = .ok (.iconst 3, 1) := by decide +kernel
theorem d_P_repeatExtra_17 : decode b_P_repeatExtra 17 = .ok (.goto 15, 3) := by decide +kernel
theorem d_P_repeatExtra_20 : decode b_P_repeatExtra 20 = .ok (.iload_n 0, 1) := by decide +kernel
theorem d_P_repeatExtra_21 : decode b_P_repeatExtra 21 = .ok (.bipush 18, 2) := by decide +kernel
theorem d_P_repeatExtra_23 : decode b_P_repeatExtra 23 = .ok (.if_icmp .ne 8, 3) := by decide +kernel
theorem d_P_repeatExtra_26 : decode b_P_repeatExtra 26 = .ok (.bipush 7, 2) := by decide +kernel
theorem d_P_repeatExtra_28 : decode b_P_repeatExtra 28 = .ok (.goto 4, 3) := by decide +kernel
theorem d_P_repeatExtra_31 : decode b_P_repeatExtra 31 = .ok (.iconst 0, 1) := by decide +kernel
theorem d_P_repeatExtra_32 : decode b_P_repeatExtra 32 = .ok (.ireturn, 1) := by decide +kernel
abbrev P_repeatExtra_w (E : xE) : va_W := []
def P_repeatExtra (F : Nat) (x0 : Int32) : Option (Int32 × Unit) :=
  mC (x0 = 16) (some (2, ())) (mC (x0 = 17) (some (3, ())) (mC (x0 = 18) (some (7, ())) (some (0, ()))))
abbrev P_repeatExtra_rm : Room := { frames := 0, cells := 0, slots := 0, locals := 0 }
set_option maxHeartbeats 4000000 in
set_option maxRecDepth 100000 in
theorem c_P_repeatExtra (l : Launch) (E : xE) (F sz : Nat) (x0 : Int32) (res : Int32 × Unit) (hm : P_repeatExtra F x0 = some res) : Met l y_P_repeatExtra (Cond.code y_P_repeatExtra b_P_repeatExtra 1 (some .int) :: x_tb) P_repeatExtra_rm (va_Pc [.int x0] (xPre E (P_repeatExtra_w E) sz)) (xQi E (fun (r : Int32) (u : Unit) => r = res.1 ∧ u = res.2) (fun (u : Unit) => (P_repeatExtra_w E)) (va_A (P_repeatExtra_w E) sz)) 0 0 (va_A (P_repeatExtra_w E) sz) := by
  refine xEnI (by decide) (Nat.le_of_ble_eq_true rfl) ?_
  intro p e s m args below meth c A ls Q hx hb hnm hts hown hml hK hA hI hN hret hP hD hS hl
  replace hown : s.vm.findClass R_P = some m.cls := hown
  replace hl : lv_has ls 1 [(0, .int x0)] := hl
  obtain ⟨H, eH⟩ : ∃ z, z = s.heap := ⟨_, rfl⟩
  obtain ⟨locs, eL⟩ : ∃ z : List Loc, z = [] := ⟨_, rfl⟩
  rw [show W p l e P_repeatExtra_rm s m args below meth c s.heap [] 0 0 Q (F0 m 0 ls []) = W p l e P_repeatExtra_rm s m args below meth c H locs 0 0 Q (F0 m 0 ls []) by rw [eH, eL]]
  replace hP : va_P E.1 vwCl (P_repeatExtra_w E) H := by rw [eH]; exact hP
  replace hS : va_S A s.heap H locs := by rw [eH, eL]; exact hS
  clear eH eL
  rw [P_repeatExtra] at hm
  refine lv_iload_n hx hb d_P_repeatExtra_0 rfl (lv_at hl 0 rfl) ?_
  refine lv_bipush (v := 16) hx hb d_P_repeatExtra_1 (by decide) ?_
  refine lv_icmp_ne (tgt := 10) hx hb d_P_repeatExtra_3 (by decide) (fun c3 => ?_) (fun c3 => ?_)
  · replace hm := mC_f hm c3
    refine lv_iload_n hx hb d_P_repeatExtra_10 rfl (lv_at hl 0 rfl) ?_
    refine lv_bipush (v := 17) hx hb d_P_repeatExtra_11 (by decide) ?_
    refine lv_icmp_ne (tgt := 20) hx hb d_P_repeatExtra_13 (by decide) (fun c13 => ?_) (fun c13 => ?_)
    · replace hm := mC_f hm c13
      refine lv_iload_n hx hb d_P_repeatExtra_20 rfl (lv_at hl 0 rfl) ?_
      refine lv_bipush (v := 18) hx hb d_P_repeatExtra_21 (by decide) ?_
      refine lv_icmp_ne (tgt := 31) hx hb d_P_repeatExtra_23 (by decide) (fun c23 => ?_) (fun c23 => ?_)
      · replace hm := mC_f hm c23
        refine lv_iconst (v := 0) hx hb d_P_repeatExtra_31 (by decide) ?_
        replace hm := Option.some.inj hm
        subst hm
        exact hret d_P_repeatExtra_32 (u := ()) ⟨rfl, rfl⟩ hP hD hS
      · replace hm := mC_t hm c23
        refine lv_bipush (v := 7) hx hb d_P_repeatExtra_26 (by decide) ?_
        refine lv_goto (tgt := 32) hx hb d_P_repeatExtra_28 (by decide) ?_
        replace hm := Option.some.inj hm
        subst hm
        exact hret d_P_repeatExtra_32 (u := ()) ⟨rfl, rfl⟩ hP hD hS
    · replace hm := mC_t hm c13
      refine lv_iconst (v := 3) hx hb d_P_repeatExtra_16 (by decide) ?_
      refine lv_goto (tgt := 32) hx hb d_P_repeatExtra_17 (by decide) ?_
      replace hm := Option.some.inj hm
      subst hm
      exact hret d_P_repeatExtra_32 (u := ()) ⟨rfl, rfl⟩ hP hD hS
  · replace hm := mC_t hm c3
    refine lv_iconst (v := 2) hx hb d_P_repeatExtra_6 (by decide) ?_
    refine lv_goto (tgt := 32) hx hb d_P_repeatExtra_7 (by decide) ?_
    replace hm := Option.some.inj hm
    subst hm
    exact hret d_P_repeatExtra_32 (u := ()) ⟨rfl, rfl⟩ hP hD hS
theorem d_P_repeatBase_0 : decode b_P_repeatBase 0 = .ok (.iload_n 0, 1) := by decide +kernel
theorem d_P_repeatBase_1 : decode b_P_repeatBase 1 = .ok (.bipush 18, 2) := by decide +kernel
theorem d_P_repeatBase_3 : decode b_P_repeatBase 3 = .ok (.if_icmp .ne 8, 3) := by decide +kernel
theorem d_P_repeatBase_6 : decode b_P_repeatBase 6 = .ok (.bipush 11, 2) := by decide +kernel
theorem d_P_repeatBase_8 : decode b_P_repeatBase 8 = .ok (.goto 14, 3) := by decide +kernel
theorem d_P_repeatBase_11 : decode b_P_repeatBase 11 = .ok (.iload_n 0, 1) := by decide +kernel
theorem d_P_repeatBase_12 : decode b_P_repeatBase 12 = .ok (.bipush 16, 2) := by decide +kernel
theorem d_P_repeatBase_14 : decode b_P_repeatBase 14 = .ok (.if_icmp .lt 7, 3) := by decide +kernel
theorem d_P_repeatBase_17 : decode b_P_repeatBase 17 = .ok (.iconst 3, 1) := by decide +kernel
theorem d_P_repeatBase_18 : decode b_P_repeatBase 18 = .ok (.goto 4, 3) := by decide +kernel
theorem d_P_repeatBase_21 : decode b_P_repeatBase 21 = .ok (.iconst 1, 1) := by decide +kernel
theorem d_P_repeatBase_22 : decode b_P_repeatBase 22 = .ok (.ireturn, 1) := by decide +kernel
abbrev P_repeatBase_w (E : xE) : va_W := []
def P_repeatBase (F : Nat) (x0 : Int32) : Option (Int32 × Unit) :=
  mC (x0 = 18) (some (11, ())) (mC (x0 < 16) (some (1, ())) (some (3, ())))
abbrev P_repeatBase_rm : Room := { frames := 0, cells := 0, slots := 0, locals := 0 }
set_option maxHeartbeats 4000000 in
set_option maxRecDepth 100000 in
theorem c_P_repeatBase (l : Launch) (E : xE) (F sz : Nat) (x0 : Int32) (res : Int32 × Unit) (hm : P_repeatBase F x0 = some res) : Met l y_P_repeatBase (Cond.code y_P_repeatBase b_P_repeatBase 1 (some .int) :: x_tb) P_repeatBase_rm (va_Pc [.int x0] (xPre E (P_repeatBase_w E) sz)) (xQi E (fun (r : Int32) (u : Unit) => r = res.1 ∧ u = res.2) (fun (u : Unit) => (P_repeatBase_w E)) (va_A (P_repeatBase_w E) sz)) 0 0 (va_A (P_repeatBase_w E) sz) := by
  refine xEnI (by decide) (Nat.le_of_ble_eq_true rfl) ?_
  intro p e s m args below meth c A ls Q hx hb hnm hts hown hml hK hA hI hN hret hP hD hS hl
  replace hown : s.vm.findClass R_P = some m.cls := hown
  replace hl : lv_has ls 1 [(0, .int x0)] := hl
  obtain ⟨H, eH⟩ : ∃ z, z = s.heap := ⟨_, rfl⟩
  obtain ⟨locs, eL⟩ : ∃ z : List Loc, z = [] := ⟨_, rfl⟩
  rw [show W p l e P_repeatBase_rm s m args below meth c s.heap [] 0 0 Q (F0 m 0 ls []) = W p l e P_repeatBase_rm s m args below meth c H locs 0 0 Q (F0 m 0 ls []) by rw [eH, eL]]
  replace hP : va_P E.1 vwCl (P_repeatBase_w E) H := by rw [eH]; exact hP
  replace hS : va_S A s.heap H locs := by rw [eH, eL]; exact hS
  clear eH eL
  rw [P_repeatBase] at hm
  refine lv_iload_n hx hb d_P_repeatBase_0 rfl (lv_at hl 0 rfl) ?_
  refine lv_bipush (v := 18) hx hb d_P_repeatBase_1 (by decide) ?_
  refine lv_icmp_ne (tgt := 11) hx hb d_P_repeatBase_3 (by decide) (fun c3 => ?_) (fun c3 => ?_)
  · replace hm := mC_f hm c3
    refine lv_iload_n hx hb d_P_repeatBase_11 rfl (lv_at hl 0 rfl) ?_
    refine lv_bipush (v := 16) hx hb d_P_repeatBase_12 (by decide) ?_
    refine lv_icmp_lt (tgt := 21) hx hb d_P_repeatBase_14 (by decide) (fun c14 => ?_) (fun c14 => ?_)
    · replace hm := mC_t hm c14
      refine lv_iconst (v := 1) hx hb d_P_repeatBase_21 (by decide) ?_
      replace hm := Option.some.inj hm
      subst hm
      exact hret d_P_repeatBase_22 (u := ()) ⟨rfl, rfl⟩ hP hD hS
    · replace hm := mC_f hm c14
      refine lv_iconst (v := 3) hx hb d_P_repeatBase_17 (by decide) ?_
      refine lv_goto (tgt := 22) hx hb d_P_repeatBase_18 (by decide) ?_
      replace hm := Option.some.inj hm
      subst hm
      exact hret d_P_repeatBase_22 (u := ()) ⟨rfl, rfl⟩ hP hD hS
  · replace hm := mC_t hm c3
    refine lv_bipush (v := 11) hx hb d_P_repeatBase_6 (by decide) ?_
    refine lv_goto (tgt := 22) hx hb d_P_repeatBase_8 (by decide) ?_
    replace hm := Option.some.inj hm
    subst hm
    exact hret d_P_repeatBase_22 (u := ()) ⟨rfl, rfl⟩ hP hD hS
