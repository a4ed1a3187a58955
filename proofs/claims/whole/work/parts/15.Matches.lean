theorem d_Matches_chain_0 : decode b_Matches_chain 0 = .ok (.aload_n 0, 1) := by decide +kernel
theorem d_Matches_chain_1 : decode b_Matches_chain 1 = .ok (.getfield 15, 3) := by decide +kernel
theorem d_Matches_chain_4 : decode b_Matches_chain 4 = .ok (.iconst 0, 1) := by decide +kernel
theorem d_Matches_chain_5 : decode b_Matches_chain 5 = .ok (.invokestatic 22, 3) := by decide +kernel
theorem d_Matches_chain_8 : decode b_Matches_chain 8 = .ok (.iconst 0, 1) := by decide +kernel
theorem d_Matches_chain_9 : decode b_Matches_chain 9 = .ok (.istore_n 1, 1) := by decide +kernel
theorem d_Matches_chain_10 : decode b_Matches_chain 10 = .ok (.iload_n 1, 1) := by decide +kernel
theorem d_Matches_chain_11 : decode b_Matches_chain 11 = .ok (.aload_n 0, 1) := by decide +kernel
theorem d_Matches_chain_12 : decode b_Matches_chain 12 = .ok (.getfield 9, 3) := by decide +kernel
theorem d_Matches_chain_15 : decode b_Matches_chain 15 = .ok (.invokevirtual 28, 3) := by decide +kernel
theorem d_Matches_chain_18 : decode b_Matches_chain 18 = .ok (.if_icmp .ge 84, 3) := by decide +kernel
theorem d_Matches_chain_21 : decode b_Matches_chain 21 = .ok (.iload_n 1, 1) := by decide +kernel
theorem d_Matches_chain_22 : decode b_Matches_chain 22 = .ok (.aload_n 0, 1) := by decide +kernel
theorem d_Matches_chain_23 : decode b_Matches_chain 23 = .ok (.getfield 19, 3) := by decide +kernel
theorem d_Matches_chain_26 : decode b_Matches_chain 26 = .ok (.arraylength, 1) := by decide +kernel
theorem d_Matches_chain_27 : decode b_Matches_chain 27 = .ok (.if_icmp .ge 75, 3) := by decide +kernel
theorem d_Matches_chain_30 : decode b_Matches_chain 30 = .ok (.aload_n 0, 1) := by decide +kernel
theorem d_Matches_chain_31 : decode b_Matches_chain 31 = .ok (.getfield 9, 3) := by decide +kernel
theorem d_Matches_chain_34 : decode b_Matches_chain 34 = .ok (.iload_n 1, 1) := by decide +kernel
theorem d_Matches_chain_35 : decode b_Matches_chain 35 = .ok (.invokevirtual 34, 3) := by decide +kernel
theorem d_Matches_chain_38 : decode b_Matches_chain 38 = .ok (.aload_n 0, 1) := by decide +kernel
theorem d_Matches_chain_39 : decode b_Matches_chain 39 = .ok (.getfield 9, 3) := by decide +kernel
theorem d_Matches_chain_42 : decode b_Matches_chain 42 = .ok (.iload_n 1, 1) := by decide +kernel
theorem d_Matches_chain_43 : decode b_Matches_chain 43 = .ok (.iconst 1, 1) := by decide +kernel
theorem d_Matches_chain_44 : decode b_Matches_chain 44 = .ok (.iadd, 1) := by decide +kernel
theorem d_Matches_chain_45 : decode b_Matches_chain 45 = .ok (.invokevirtual 34, 3) := by decide +kernel
theorem d_Matches_chain_48 : decode b_Matches_chain 48 = .ok (.bipush 8, 2) := by decide +kernel
theorem d_Matches_chain_50 : decode b_Matches_chain 50 = .ok (.ishl, 1) := by decide +kernel
theorem d_Matches_chain_51 : decode b_Matches_chain 51 = .ok (.ior, 1) := by decide +kernel
theorem d_Matches_chain_52 : decode b_Matches_chain 52 = .ok (.aload_n 0, 1) := by decide +kernel
theorem d_Matches_chain_53 : decode b_Matches_chain 53 = .ok (.getfield 9, 3) := by decide +kernel
theorem d_Matches_chain_56 : decode b_Matches_chain 56 = .ok (.iload_n 1, 1) := by decide +kernel
theorem d_Matches_chain_57 : decode b_Matches_chain 57 = .ok (.iconst 2, 1) := by decide +kernel
theorem d_Matches_chain_58 : decode b_Matches_chain 58 = .ok (.iadd, 1) := by decide +kernel
theorem d_Matches_chain_59 : decode b_Matches_chain 59 = .ok (.invokevirtual 34, 3) := by decide +kernel
theorem d_Matches_chain_62 : decode b_Matches_chain 62 = .ok (.bipush 16, 2) := by decide +kernel
theorem d_Matches_chain_64 : decode b_Matches_chain 64 = .ok (.ishl, 1) := by decide +kernel
theorem d_Matches_chain_65 : decode b_Matches_chain 65 = .ok (.ior, 1) := by decide +kernel
theorem d_Matches_chain_66 : decode b_Matches_chain 66 = .ok (.istore_n 2, 1) := by decide +kernel
theorem d_Matches_chain_67 : decode b_Matches_chain 67 = .ok (.iload_n 2, 1) := by decide +kernel
theorem d_Matches_chain_68 : decode b_Matches_chain 68 = .ok (.ldc 38, 2) := by decide +kernel
theorem d_Matches_chain_70 : decode b_Matches_chain 70 = .ok (.imul, 1) := by decide +kernel
theorem d_Matches_chain_71 : decode b_Matches_chain 71 = .ok (.bipush 20, 2) := by decide +kernel
theorem d_Matches_chain_73 : decode b_Matches_chain 73 = .ok (.iushr, 1) := by decide +kernel
theorem d_Matches_chain_74 : decode b_Matches_chain 74 = .ok (.istore_n 3, 1) := by decide +kernel
theorem d_Matches_chain_75 : decode b_Matches_chain 75 = .ok (.aload_n 0, 1) := by decide +kernel
theorem d_Matches_chain_76 : decode b_Matches_chain 76 = .ok (.getfield 19, 3) := by decide +kernel
theorem d_Matches_chain_79 : decode b_Matches_chain 79 = .ok (.iload_n 1, 1) := by decide +kernel
theorem d_Matches_chain_80 : decode b_Matches_chain 80 = .ok (.aload_n 0, 1) := by decide +kernel
theorem d_Matches_chain_81 : decode b_Matches_chain 81 = .ok (.getfield 15, 3) := by decide +kernel
theorem d_Matches_chain_84 : decode b_Matches_chain 84 = .ok (.iload_n 3, 1) := by decide +kernel
theorem d_Matches_chain_85 : decode b_Matches_chain 85 = .ok (.iaload, 1) := by decide +kernel
theorem d_Matches_chain_86 : decode b_Matches_chain 86 = .ok (.iastore, 1) := by decide +kernel
theorem d_Matches_chain_87 : decode b_Matches_chain 87 = .ok (.aload_n 0, 1) := by decide +kernel
theorem d_Matches_chain_88 : decode b_Matches_chain 88 = .ok (.getfield 15, 3) := by decide +kernel
theorem d_Matches_chain_91 : decode b_Matches_chain 91 = .ok (.iload_n 3, 1) := by decide +kernel
theorem d_Matches_chain_92 : decode b_Matches_chain 92 = .ok (.iload_n 1, 1) := by decide +kernel
theorem d_Matches_chain_93 : decode b_Matches_chain 93 = .ok (.iconst 1, 1) := by decide +kernel
theorem d_Matches_chain_94 : decode b_Matches_chain 94 = .ok (.iadd, 1) := by decide +kernel
theorem d_Matches_chain_95 : decode b_Matches_chain 95 = .ok (.iastore, 1) := by decide +kernel
theorem d_Matches_chain_96 : decode b_Matches_chain 96 = .ok (.iinc 1 1, 3) := by decide +kernel
theorem d_Matches_chain_99 : decode b_Matches_chain 99 = .ok (.goto (-89), 3) := by decide +kernel
theorem d_Matches_chain_102 : decode b_Matches_chain 102 = .ok (.return_, 1) := by decide +kernel
def Matches_chain_10 (F : Nat) (n_row_data : Nat) (v_row_length : Int32) (c_row_data : Nat → Int32) (k_10 : (Nat → Int32) → (Nat → Int32) → Int32 → Option (Unit × (Nat → Int32) × (Nat → Int32))) (c_latest : Nat → Int32) (c_before : Nat → Int32) (x1 : Int32) : Option (Unit × (Nat → Int32) × (Nat → Int32)) :=
  mR0 (Bytes_length F v_row_length) fun r_1 => mC (r_1 ≤ x1) (some ((), c_latest, c_before)) (mC (8192 ≤ x1) (some ((), c_latest, c_before)) (mR0 (Bytes_at F n_row_data v_row_length c_row_data x1) fun r_2 => mL (x1 + 1) fun t_3 => mR0 (Bytes_at F n_row_data v_row_length c_row_data t_3) fun r_4 => mL (x1 + 2) fun t_5 => mR0 (Bytes_at F n_row_data v_row_length c_row_data t_5) fun r_6 => mL ((r_2 ||| (r_4 <<< ((8 : Int32) &&& 31))) ||| (r_6 <<< ((16 : Int32) &&& 31))) fun y2_7 => mL (((y2_7 * (-1640531535)).toUInt32 >>> ((20 : Int32).toUInt32 &&& Int32.toUInt32 31)).toInt32) fun y3_8 => mG y3_8 4096 (mL (c_latest y3_8.toNatClampNeg) fun v_9 => mG x1 8192 (mL (upd c_before x1.toNatClampNeg v_9) fun c_10 => mL (x1 + 1) fun v_11 => mG y3_8 4096 (mL (upd c_latest y3_8.toNatClampNeg v_11) fun c_12 => mL (x1 + 1) fun y1_13 => k_10 c_12 c_10 y1_13)))))
abbrev Matches_chain_w (E : xE) (a_this : Nat) (a_latest : Nat) (a_row : Nat) (a_before : Nat) (a_row_data : Nat) (n_row_data : Nat) (v_row_length : Int32) (c_row_data : Nat → Int32) (c_latest : Nat → Int32) (c_before : Nat → Int32) : va_W := [(a_this, .inr (6, [.ref a_row, .ref a_latest, .ref a_before])), (a_latest, .inl (E.2.1, 4096, .inl c_latest)), (a_row, .inr (2, [.ref a_row_data, .int v_row_length])), (a_before, .inl (E.2.1, 8192, .inl c_before)), (a_row_data, .inl (E.2.2.1, n_row_data, .inl c_row_data))]
def Matches_chain (F : Nat) (n_row_data : Nat) (v_row_length : Int32) (c_row_data : Nat → Int32) (c_latest : Nat → Int32) (c_before : Nat → Int32) : Option (Unit × (Nat → Int32) × (Nat → Int32)) :=
  mR1 (Arr_fill F 4096 c_latest 0) fun _ c_p0_14 => (mW3 (Matches_chain_10 F n_row_data v_row_length c_row_data) F) c_p0_14 c_before 0
abbrev Matches_chain_rm : Room := { frames := 1, cells := 0, slots := 0, locals := 23 }
set_option maxHeartbeats 4000000 in
set_option maxRecDepth 100000 in
theorem c_Matches_chain (l : Launch) (E : xE) (F sz : Nat) (a_this : Nat) (a_latest : Nat) (a_row : Nat) (a_before : Nat) (a_row_data : Nat) (n_row_data : Nat) (v_row_length : Int32) (c_row_data : Nat → Int32) (c_latest : Nat → Int32) (c_before : Nat → Int32) (res : Unit × (Nat → Int32) × (Nat → Int32)) (hm : Matches_chain F n_row_data v_row_length c_row_data c_latest c_before = some res) : Met l y_Matches_chain (Cond.code y_Matches_chain b_Matches_chain 4 none :: x_tb) Matches_chain_rm (va_Pc [.ref a_this] (xPre E (Matches_chain_w E a_this a_latest a_row a_before a_row_data n_row_data v_row_length c_row_data c_latest c_before) sz)) (xQv E (fun (u : (Nat → Int32) × (Nat → Int32)) => u = res.2) (fun (u : (Nat → Int32) × (Nat → Int32)) => (Matches_chain_w E a_this a_latest a_row a_before a_row_data n_row_data v_row_length c_row_data u.1 u.2)) (va_A (Matches_chain_w E a_this a_latest a_row a_before a_row_data n_row_data v_row_length c_row_data c_latest c_before) sz)) 0 0 (va_A (Matches_chain_w E a_this a_latest a_row a_before a_row_data n_row_data v_row_length c_row_data c_latest c_before) sz) := by
  refine xEnV (by decide) (Nat.le_of_ble_eq_true rfl) ?_
  intro p e s m args below meth c A ls Q hx hb hnm hts hown hml hK hA hI hN hret hP hD hS hl
  replace hown : s.vm.findClass R_Matches = some m.cls := hown
  replace hl : lv_has ls 4 [(0, .ref a_this)] := hl
  obtain ⟨H, eH⟩ : ∃ z, z = s.heap := ⟨_, rfl⟩
  obtain ⟨locs, eL⟩ : ∃ z : List Loc, z = [] := ⟨_, rfl⟩
  rw [show W p l e Matches_chain_rm s m args below meth c s.heap [] 0 0 Q (F0 m 0 ls []) = W p l e Matches_chain_rm s m args below meth c H locs 0 0 Q (F0 m 0 ls []) by rw [eH, eL]]
  replace hP : va_P E.1 vwCl (Matches_chain_w E a_this a_latest a_row a_before a_row_data n_row_data v_row_length c_row_data c_latest c_before) H := by rw [eH]; exact hP
  replace hS : va_S A s.heap H locs := by rw [eH, eL]; exact hS
  clear eH eL
  rw [Matches_chain] at hm
  have h_10 : ∀ (n_10 : Nat) (c_latest : Nat → Int32) (c_before : Nat → Int32) (x1 : Int32) (H : Heap) (locs : List Loc) (ls : Array Slot), (mW3 (Matches_chain_10 F n_row_data v_row_length c_row_data) n_10) c_latest c_before x1 = some res → va_P E.1 vwCl (Matches_chain_w E a_this a_latest a_row a_before a_row_data n_row_data v_row_length c_row_data c_latest c_before) H → va_D A (Matches_chain_w E a_this a_latest a_row a_before a_row_data n_row_data v_row_length c_row_data c_latest c_before) → va_S A s.heap H locs → lv_has ls 4 [(0, .ref a_this), (1, .int x1)] → W p l e Matches_chain_rm s m args below meth c H locs 0 0 Q (F0 m 10 ls []) := by
    intro n_10
    induction n_10 with
    | zero => exact fun _ _ _ _ _ _ hm _ _ _ _ => (mW3_z hm).elim
    | succ n_10 ih_10 =>
      intro c_latest c_before x1 H locs ls hm hP hD hS hl
      replace hm := mW3_s hm
      rw [Matches_chain_10] at hm
      refine lv_iload_n hx hb d_Matches_chain_10 rfl (lv_at hl 1 rfl) ?_
      refine lv_aload_n hx hb d_Matches_chain_11 rfl (lv_at hl 0 rfl) ?_
      refine va_get (D := E.1) (ci := 6) (v := .ref a_row) (C := R_Matches) (T := F_Matches) (N := 3) hx hb hts i_Matches hown hK hP 0 rfl rfl 0 (by decide) (hts _ tw_139) (fun _ h9 => h9) rfl d_Matches_chain_12 ?_
      obtain ⟨r_1, hc15, hm⟩ := mR0_e hm
      refine xmi (wc := (Bytes_length_w E a_row (.ref a_row_data) v_row_length)) [false, false, true, false, false] [0] [0] hP hD hS hA rfl (by decide) (by decide) 1 (by decide) (fun _ => rfl) (fun hPc hDc hFc => va_runV (As := []) (rest := [.int x1]) ⟨hx, hb, hml, hown, hts⟩ (c_Bytes_length l E F H.size a_row (.ref a_row_data) v_row_length (r_1, ()) hc15) (cwV 0 hts (x_gV tw_446 tw_422 tw_423 tw_67 tw_424) rfl rfl rfl (by decide +kernel) ⟨Nat.le_of_ble_eq_true rfl, Nat.le_of_ble_eq_true rfl⟩) (xPV 2 0 rfl rfl hPc hDc hFc hK hI hN hS) rfl rfl hl.1 rfl (lv_room (Nat.le_of_ble_eq_true rfl)) d_Matches_chain_15 ⟨Nat.le_of_ble_eq_true rfl, Nat.le_of_ble_eq_true rfl⟩) (fun r9 u9 H locs hw hP hD hS => ?_)
      have hw1 : r_1 = r9 := hw.1.symm
      subst hw1
      replace hP : va_P E.1 vwCl (Matches_chain_w E a_this a_latest a_row a_before a_row_data n_row_data v_row_length c_row_data c_latest c_before) H := hP
      replace hD : va_D A (Matches_chain_w E a_this a_latest a_row a_before a_row_data n_row_data v_row_length c_row_data c_latest c_before) := hD
      refine lv_icmp_ge (tgt := 102) hx hb d_Matches_chain_18 (by decide) (fun c18 => ?_) (fun c18 => ?_)
      · replace hm := mC_t hm c18
        replace hm := Option.some.inj hm
        subst hm
        exact hret d_Matches_chain_102 (u := (c_latest, c_before)) rfl hP hD hS
      · replace hm := mC_f hm c18
        refine lv_iload_n hx hb d_Matches_chain_21 rfl (lv_at hl 1 rfl) ?_
        refine lv_aload_n hx hb d_Matches_chain_22 rfl (lv_at hl 0 rfl) ?_
        refine va_get (D := E.1) (ci := 6) (v := .ref a_before) (C := R_Matches) (T := F_Matches) (N := 3) hx hb hts i_Matches hown hK hP 0 rfl rfl 2 (by decide) (hts _ tw_141) (fun _ h9 => h9) rfl d_Matches_chain_23 ?_
        refine va_alen (v := 8192) hx hb hK hP 3 0 rfl rfl rfl d_Matches_chain_26 ?_
        refine lv_icmp_ge (tgt := 102) hx hb d_Matches_chain_27 (by decide) (fun c27 => ?_) (fun c27 => ?_)
        · replace hm := mC_t hm c27
          replace hm := Option.some.inj hm
          subst hm
          exact hret d_Matches_chain_102 (u := (c_latest, c_before)) rfl hP hD hS
        · replace hm := mC_f hm c27
          refine lv_aload_n hx hb d_Matches_chain_30 rfl (lv_at hl 0 rfl) ?_
          refine va_get (D := E.1) (ci := 6) (v := .ref a_row) (C := R_Matches) (T := F_Matches) (N := 3) hx hb hts i_Matches hown hK hP 0 rfl rfl 0 (by decide) (hts _ tw_139) (fun _ h9 => h9) rfl d_Matches_chain_31 ?_
          refine lv_iload_n hx hb d_Matches_chain_34 rfl (lv_at hl 1 rfl) ?_
          obtain ⟨r_2, hc35, hm⟩ := mR0_e hm
          refine xmi (wc := (Bytes_at_w E a_row a_row_data n_row_data v_row_length c_row_data)) [false, false, true, false, true] [0, 1] [0, 1] hP hD hS hA rfl (by decide) (by decide) 2 (by decide) (fun _ => rfl) (fun hPc hDc hFc => va_runV (As := [.int x1]) (rest := []) ⟨hx, hb, hml, hown, hts⟩ (c_Bytes_at l E F H.size a_row a_row_data n_row_data v_row_length c_row_data x1 (r_2, ()) hc35) (cwV 1 hts (x_gV tw_447 tw_448 tw_449 tw_67 tw_450) rfl rfl rfl (by decide +kernel) ⟨Nat.le_of_ble_eq_true rfl, Nat.le_of_ble_eq_true rfl⟩) (xPV 2 0 rfl rfl hPc hDc hFc hK hI hN hS) rfl rfl hl.1 rfl (lv_room (Nat.le_of_ble_eq_true rfl)) d_Matches_chain_35 ⟨Nat.le_of_ble_eq_true rfl, Nat.le_of_ble_eq_true rfl⟩) (fun r9 u9 H locs hw hP hD hS => ?_)
          have hw1 : r_2 = r9 := hw.1.symm
          subst hw1
          replace hP : va_P E.1 vwCl (Matches_chain_w E a_this a_latest a_row a_before a_row_data n_row_data v_row_length c_row_data c_latest c_before) H := hP
          replace hD : va_D A (Matches_chain_w E a_this a_latest a_row a_before a_row_data n_row_data v_row_length c_row_data c_latest c_before) := hD
          refine lv_aload_n hx hb d_Matches_chain_38 rfl (lv_at hl 0 rfl) ?_
          refine va_get (D := E.1) (ci := 6) (v := .ref a_row) (C := R_Matches) (T := F_Matches) (N := 3) hx hb hts i_Matches hown hK hP 0 rfl rfl 0 (by decide) (hts _ tw_139) (fun _ h9 => h9) rfl d_Matches_chain_39 ?_
          refine lv_iload_n hx hb d_Matches_chain_42 rfl (lv_at hl 1 rfl) ?_
          refine lv_iconst (v := 1) hx hb d_Matches_chain_43 (by decide) ?_
          refine lv_iadd hx hb d_Matches_chain_44 ?_
          obtain ⟨t_3, et_3⟩ : ∃ z : Int32, z = x1 + 1 := ⟨_, rfl⟩
          rw [← et_3]
          replace hm := mL_e hm t_3 et_3
          obtain ⟨r_4, hc45, hm⟩ := mR0_e hm
          refine xmi (wc := (Bytes_at_w E a_row a_row_data n_row_data v_row_length c_row_data)) [false, false, true, false, true] [0, 1] [0, 1] hP hD hS hA rfl (by decide) (by decide) 2 (by decide) (fun _ => rfl) (fun hPc hDc hFc => va_runV (As := [.int t_3]) (rest := [.int r_2]) ⟨hx, hb, hml, hown, hts⟩ (c_Bytes_at l E F H.size a_row a_row_data n_row_data v_row_length c_row_data t_3 (r_4, ()) hc45) (cwV 1 hts (x_gV tw_447 tw_448 tw_449 tw_67 tw_450) rfl rfl rfl (by decide +kernel) ⟨Nat.le_of_ble_eq_true rfl, Nat.le_of_ble_eq_true rfl⟩) (xPV 2 0 rfl rfl hPc hDc hFc hK hI hN hS) rfl rfl hl.1 rfl (lv_room (Nat.le_of_ble_eq_true rfl)) d_Matches_chain_45 ⟨Nat.le_of_ble_eq_true rfl, Nat.le_of_ble_eq_true rfl⟩) (fun r9 u9 H locs hw hP hD hS => ?_)
          have hw1 : r_4 = r9 := hw.1.symm
          subst hw1
          replace hP : va_P E.1 vwCl (Matches_chain_w E a_this a_latest a_row a_before a_row_data n_row_data v_row_length c_row_data c_latest c_before) H := hP
          replace hD : va_D A (Matches_chain_w E a_this a_latest a_row a_before a_row_data n_row_data v_row_length c_row_data c_latest c_before) := hD
          refine lv_bipush (v := 8) hx hb d_Matches_chain_48 (by decide) ?_
          refine lv_ishl hx hb d_Matches_chain_50 ?_
          refine lv_ior hx hb d_Matches_chain_51 ?_
          refine lv_aload_n hx hb d_Matches_chain_52 rfl (lv_at hl 0 rfl) ?_
          refine va_get (D := E.1) (ci := 6) (v := .ref a_row) (C := R_Matches) (T := F_Matches) (N := 3) hx hb hts i_Matches hown hK hP 0 rfl rfl 0 (by decide) (hts _ tw_139) (fun _ h9 => h9) rfl d_Matches_chain_53 ?_
          refine lv_iload_n hx hb d_Matches_chain_56 rfl (lv_at hl 1 rfl) ?_
          refine lv_iconst (v := 2) hx hb d_Matches_chain_57 (by decide) ?_
          refine lv_iadd hx hb d_Matches_chain_58 ?_
          obtain ⟨t_5, et_5⟩ : ∃ z : Int32, z = x1 + 2 := ⟨_, rfl⟩
          rw [← et_5]
          replace hm := mL_e hm t_5 et_5
          obtain ⟨r_6, hc59, hm⟩ := mR0_e hm
          refine xmi (wc := (Bytes_at_w E a_row a_row_data n_row_data v_row_length c_row_data)) [false, false, true, false, true] [0, 1] [0, 1] hP hD hS hA rfl (by decide) (by decide) 2 (by decide) (fun _ => rfl) (fun hPc hDc hFc => va_runV (As := [.int t_5]) (rest := [.int (r_2 ||| (r_4 <<< ((8 : Int32) &&& 31)))]) ⟨hx, hb, hml, hown, hts⟩ (c_Bytes_at l E F H.size a_row a_row_data n_row_data v_row_length c_row_data t_5 (r_6, ()) hc59) (cwV 1 hts (x_gV tw_447 tw_448 tw_449 tw_67 tw_450) rfl rfl rfl (by decide +kernel) ⟨Nat.le_of_ble_eq_true rfl, Nat.le_of_ble_eq_true rfl⟩) (xPV 2 0 rfl rfl hPc hDc hFc hK hI hN hS) rfl rfl hl.1 rfl (lv_room (Nat.le_of_ble_eq_true rfl)) d_Matches_chain_59 ⟨Nat.le_of_ble_eq_true rfl, Nat.le_of_ble_eq_true rfl⟩) (fun r9 u9 H locs hw hP hD hS => ?_)
          have hw1 : r_6 = r9 := hw.1.symm
          subst hw1
          replace hP : va_P E.1 vwCl (Matches_chain_w E a_this a_latest a_row a_before a_row_data n_row_data v_row_length c_row_data c_latest c_before) H := hP
          replace hD : va_D A (Matches_chain_w E a_this a_latest a_row a_before a_row_data n_row_data v_row_length c_row_data c_latest c_before) := hD
          refine lv_bipush (v := 16) hx hb d_Matches_chain_62 (by decide) ?_
          refine lv_ishl hx hb d_Matches_chain_64 ?_
          refine lv_ior hx hb d_Matches_chain_65 ?_
          refine lv_topi (fun y2_7 ey2_7 => ?_)
          replace hm := mL_e hm y2_7 ey2_7
          refine lv_istore_n (lv' := [(2, .int y2_7), (0, .ref a_this), (1, .int x1)]) hx hb d_Matches_chain_66 rfl hl (by decide) rfl (fun ls hl => ?_)
          refine lv_iload_n hx hb d_Matches_chain_67 rfl (lv_at hl 0 rfl) ?_
          refine lv_ldc (v := (-1640531535)) hx hb hown (hts _ tw_451) d_Matches_chain_68 ?_
          refine lv_imul hx hb d_Matches_chain_70 ?_
          refine lv_bipush (v := 20) hx hb d_Matches_chain_71 (by decide) ?_
          refine lv_iushr hx hb d_Matches_chain_73 rfl ?_
          refine lv_topi (fun y3_8 ey3_8 => ?_)
          replace hm := mL_e hm y3_8 ey3_8
          refine lv_istore_n (lv' := [(3, .int y3_8), (2, .int y2_7), (0, .ref a_this), (1, .int x1)]) hx hb d_Matches_chain_74 rfl hl (by decide) rfl (fun ls hl => ?_)
          refine lv_aload_n hx hb d_Matches_chain_75 rfl (lv_at hl 2 rfl) ?_
          refine va_get (D := E.1) (ci := 6) (v := .ref a_before) (C := R_Matches) (T := F_Matches) (N := 3) hx hb hts i_Matches hown hK hP 0 rfl rfl 2 (by decide) (hts _ tw_141) (fun _ h9 => h9) rfl d_Matches_chain_76 ?_
          refine lv_iload_n hx hb d_Matches_chain_79 rfl (lv_at hl 3 rfl) ?_
          refine lv_aload_n hx hb d_Matches_chain_80 rfl (lv_at hl 2 rfl) ?_
          refine va_get (D := E.1) (ci := 6) (v := .ref a_latest) (C := R_Matches) (T := F_Matches) (N := 3) hx hb hts i_Matches hown hK hP 0 rfl rfl 1 (by decide) (hts _ tw_140) (fun _ h9 => h9) rfl d_Matches_chain_81 ?_
          refine lv_iload_n hx hb d_Matches_chain_84 rfl (lv_at hl 0 rfl) ?_
          obtain ⟨hi85, hm⟩ := mG_e hm
          refine va_iald hx hb hK hP 1 0 rfl rfl hi85 d_Matches_chain_85 ?_
          refine lv_topi (fun v_9 ev_9 => ?_)
          replace hm := mL_e hm v_9 ev_9
          obtain ⟨hi86, hm⟩ := mG_e hm
          obtain ⟨c_10, ec_10⟩ : ∃ z : Nat → Int32, z = upd c_before x1.toNatClampNeg v_9 := ⟨_, rfl⟩
          replace hm := mL_e hm c_10 ec_10
          refine va_iast hx hb hK hP hD hS 3 0 rfl rfl hi86 d_Matches_chain_86 (fun H locs hP hD hS => ?_)
          rw [← ec_10] at hP hD
          replace hP : va_P E.1 vwCl (Matches_chain_w E a_this a_latest a_row a_before a_row_data n_row_data v_row_length c_row_data c_latest c_10) H := hP
          replace hD : va_D A (Matches_chain_w E a_this a_latest a_row a_before a_row_data n_row_data v_row_length c_row_data c_latest c_10) := hD
          refine lv_aload_n hx hb d_Matches_chain_87 rfl (lv_at hl 2 rfl) ?_
          refine va_get (D := E.1) (ci := 6) (v := .ref a_latest) (C := R_Matches) (T := F_Matches) (N := 3) hx hb hts i_Matches hown hK hP 0 rfl rfl 1 (by decide) (hts _ tw_140) (fun _ h9 => h9) rfl d_Matches_chain_88 ?_
          refine lv_iload_n hx hb d_Matches_chain_91 rfl (lv_at hl 0 rfl) ?_
          refine lv_iload_n hx hb d_Matches_chain_92 rfl (lv_at hl 3 rfl) ?_
          refine lv_iconst (v := 1) hx hb d_Matches_chain_93 (by decide) ?_
          refine lv_iadd hx hb d_Matches_chain_94 ?_
          refine lv_topi (fun v_11 ev_11 => ?_)
          replace hm := mL_e hm v_11 ev_11
          obtain ⟨hi95, hm⟩ := mG_e hm
          obtain ⟨c_12, ec_12⟩ : ∃ z : Nat → Int32, z = upd c_latest y3_8.toNatClampNeg v_11 := ⟨_, rfl⟩
          replace hm := mL_e hm c_12 ec_12
          refine va_iast hx hb hK hP hD hS 1 0 rfl rfl hi95 d_Matches_chain_95 (fun H locs hP hD hS => ?_)
          rw [← ec_12] at hP hD
          replace hP : va_P E.1 vwCl (Matches_chain_w E a_this a_latest a_row a_before a_row_data n_row_data v_row_length c_row_data c_12 c_10) H := hP
          replace hD : va_D A (Matches_chain_w E a_this a_latest a_row a_before a_row_data n_row_data v_row_length c_row_data c_12 c_10) := hD
          obtain ⟨y1_13, ey1_13⟩ : ∃ y : Int32, y = x1 + 1 := ⟨_, rfl⟩
          replace hm := mL_e hm y1_13 ey1_13
          refine lv_iinc (v := y1_13) (lv' := [(1, .int y1_13), (3, .int y3_8), (2, .int y2_7), (0, .ref a_this)]) hx hb d_Matches_chain_96 hl (k := 3) rfl (by rw [ey1_13]; rfl) (by decide) rfl (fun ls hl => ?_)
          refine lv_goto (tgt := 10) hx hb d_Matches_chain_99 (by decide) ?_
          exact ih_10 _ _ _ H locs ls hm hP hD hS (lv_sub hl [3, 0] rfl)
  refine lv_aload_n hx hb d_Matches_chain_0 rfl (lv_at hl 0 rfl) ?_
  refine va_get (D := E.1) (ci := 6) (v := .ref a_latest) (C := R_Matches) (T := F_Matches) (N := 3) hx hb hts i_Matches hown hK hP 0 rfl rfl 1 (by decide) (hts _ tw_140) (fun _ h9 => h9) rfl d_Matches_chain_1 ?_
  refine lv_iconst (v := 0) hx hb d_Matches_chain_4 (by decide) ?_
  obtain ⟨r_15, c_p0_14, hc5, hm⟩ := mR1_e hm
  refine xmv (wc := (Arr_fill_w E a_latest 4096 c_latest)) [false, true, false, false, false] [0] [0] hP hD hS hA rfl (by decide) (by decide) 1 (by decide) (fun _ => rfl) (fun hPc hDc hFc => va_runS (As := [.ref a_latest, .int 0]) (rest := []) ⟨hx, hb, hml, hown, hts⟩ (c_Arr_fill l E F H.size a_latest 4096 c_latest 0 (r_15, c_p0_14) hc5) (va_cwS 2 hts (x_gS tw_445 tw_239 tw_75 tw_240) rfl rfl rfl (by decide +kernel) ⟨Nat.le_of_ble_eq_true rfl, Nat.le_of_ble_eq_true rfl⟩) (xPS hPc hDc hFc hK hI hN hS) rfl rfl hl.1 rfl (lv_room (Nat.le_of_ble_eq_true rfl)) d_Matches_chain_5 ⟨Nat.le_of_ble_eq_true rfl, Nat.le_of_ble_eq_true rfl⟩) (fun u9 H locs hw hP hD hS => ?_)
  have hw2 : c_p0_14 = u9 := hw.symm
  subst hw2
  replace hP : va_P E.1 vwCl (Matches_chain_w E a_this a_latest a_row a_before a_row_data n_row_data v_row_length c_row_data c_p0_14 c_before) H := hP
  replace hD : va_D A (Matches_chain_w E a_this a_latest a_row a_before a_row_data n_row_data v_row_length c_row_data c_p0_14 c_before) := hD
  refine lv_iconst (v := 0) hx hb d_Matches_chain_8 (by decide) ?_
  refine lv_istore_n (lv' := [(1, .int 0), (0, .ref a_this)]) hx hb d_Matches_chain_9 rfl hl (by decide) rfl (fun ls hl => ?_)
  exact h_10 F _ _ _ H locs ls hm hP hD hS (lv_sub hl [1, 0] rfl)
theorem d_Matches_sameBytes_0 : decode b_Matches_sameBytes 0 = .ok (.iconst 0, 1) := by decide +kernel
theorem d_Matches_sameBytes_1 : decode b_Matches_sameBytes 1 = .ok (.istore 4, 2) := by decide +kernel
theorem d_Matches_sameBytes_3 : decode b_Matches_sameBytes 3 = .ok (.iload 4, 2) := by decide +kernel
theorem d_Matches_sameBytes_5 : decode b_Matches_sameBytes 5 = .ok (.iload_n 3, 1) := by decide +kernel
theorem d_Matches_sameBytes_6 : decode b_Matches_sameBytes 6 = .ok (.if_icmp .ge 34, 3) := by decide +kernel
theorem d_Matches_sameBytes_9 : decode b_Matches_sameBytes 9 = .ok (.aload_n 0, 1) := by decide +kernel
theorem d_Matches_sameBytes_10 : decode b_Matches_sameBytes 10 = .ok (.getfield 9, 3) := by decide +kernel
theorem d_Matches_sameBytes_13 : decode b_Matches_sameBytes 13 = .ok (.iload_n 1, 1) := by decide +kernel
theorem d_Matches_sameBytes_14 : decode b_Matches_sameBytes 14 = .ok (.iload 4, 2) := by decide +kernel
theorem d_Matches_sameBytes_16 : decode b_Matches_sameBytes 16 = .ok (.iadd, 1) := by decide +kernel
theorem d_Matches_sameBytes_17 : decode b_Matches_sameBytes 17 = .ok (.invokevirtual 34, 3) := by decide +kernel
theorem d_Matches_sameBytes_20 : decode b_Matches_sameBytes 20 = .ok (.aload_n 0, 1) := by decide +kernel
theorem d_Matches_sameBytes_21 : decode b_Matches_sameBytes 21 = .ok (.getfield 9, 3) := by decide +kernel
theorem d_Matches_sameBytes_24 : decode b_Matches_sameBytes 24 = .ok (.iload_n 2, 1) := by decide +kernel
theorem d_Matches_sameBytes_25 : decode b_Matches_sameBytes 25 = .ok (.iload 4, 2) := by decide +kernel
theorem d_Matches_sameBytes_27 : decode b_Matches_sameBytes 27 = .ok (.iadd, 1) := by decide +kernel
theorem d_Matches_sameBytes_28 : decode b_Matches_sameBytes 28 = .ok (.invokevirtual 34, 3) := by decide +kernel
theorem d_Matches_sameBytes_31 : decode b_Matches_sameBytes 31 = .ok (.if_icmp .ne 9, 3) := by decide +kernel
theorem d_Matches_sameBytes_34 : decode b_Matches_sameBytes 34 = .ok (.iinc 4 1, 3) := by decide +kernel
theorem d_Matches_sameBytes_37 : decode b_Matches_sameBytes 37 = .ok (.goto (-34), 3) := by decide +kernel
theorem d_Matches_sameBytes_40 : decode b_Matches_sameBytes 40 = .ok (.iload 4, 2) := by decide +kernel
theorem d_Matches_sameBytes_42 : decode b_Matches_sameBytes 42 = .ok (.ireturn, 1) := by decide +kernel
def Matches_sameBytes_3 (F : Nat) (n_row_data : Nat) (v_row_length : Int32) (c_row_data : Nat → Int32) (x1 : Int32) (x2 : Int32) (x3 : Int32) (k_3 : Int32 → Option (Int32 × Unit)) (x4 : Int32) : Option (Int32 × Unit) :=
  mC (x3 ≤ x4) (some (x4, ())) (mL (x1 + x4) fun t_1 => mR0 (Bytes_at F n_row_data v_row_length c_row_data t_1) fun r_2 => mL (x2 + x4) fun t_3 => mR0 (Bytes_at F n_row_data v_row_length c_row_data t_3) fun r_4 => mC (r_2 = r_4) (mL (x4 + 1) fun y4_5 => k_3 y4_5) (some (x4, ())))
abbrev Matches_sameBytes_w (E : xE) (a_this : Nat) (a_row : Nat) (a_row_data : Nat) (n_row_data : Nat) (x_latest : Value) (x_before : Value) (v_row_length : Int32) (c_row_data : Nat → Int32) : va_W := [(a_this, .inr (6, [.ref a_row, x_latest, x_before])), (a_row, .inr (2, [.ref a_row_data, .int v_row_length])), (a_row_data, .inl (E.2.2.1, n_row_data, .inl c_row_data))]
def Matches_sameBytes (F : Nat) (n_row_data : Nat) (v_row_length : Int32) (c_row_data : Nat → Int32) (x1 : Int32) (x2 : Int32) (x3 : Int32) : Option (Int32 × Unit) :=
  (mW1 (Matches_sameBytes_3 F n_row_data v_row_length c_row_data x1 x2 x3) F) 0
abbrev Matches_sameBytes_rm : Room := { frames := 1, cells := 0, slots := 0, locals := 21 }
set_option maxHeartbeats 4000000 in
set_option maxRecDepth 100000 in
theorem c_Matches_sameBytes (l : Launch) (E : xE) (F sz : Nat) (a_this : Nat) (a_row : Nat) (a_row_data : Nat) (n_row_data : Nat) (x_latest : Value) (x_before : Value) (v_row_length : Int32) (c_row_data : Nat → Int32) (x1 : Int32) (x2 : Int32) (x3 : Int32) (res : Int32 × Unit) (hm : Matches_sameBytes F n_row_data v_row_length c_row_data x1 x2 x3 = some res) : Met l y_Matches_sameBytes (Cond.code y_Matches_sameBytes b_Matches_sameBytes 5 (some .int) :: x_tb) Matches_sameBytes_rm (va_Pc [.ref a_this, .int x1, .int x2, .int x3] (xPre E (Matches_sameBytes_w E a_this a_row a_row_data n_row_data x_latest x_before v_row_length c_row_data) sz)) (xQi E (fun (r : Int32) (u : Unit) => r = res.1 ∧ u = res.2) (fun (u : Unit) => (Matches_sameBytes_w E a_this a_row a_row_data n_row_data x_latest x_before v_row_length c_row_data)) (va_A (Matches_sameBytes_w E a_this a_row a_row_data n_row_data x_latest x_before v_row_length c_row_data) sz)) 0 0 (va_A (Matches_sameBytes_w E a_this a_row a_row_data n_row_data x_latest x_before v_row_length c_row_data) sz) := by
  refine xEnI (by decide) (Nat.le_of_ble_eq_true rfl) ?_
  intro p e s m args below meth c A ls Q hx hb hnm hts hown hml hK hA hI hN hret hP hD hS hl
  replace hown : s.vm.findClass R_Matches = some m.cls := hown
  replace hl : lv_has ls 5 [(0, .ref a_this), (1, .int x1), (2, .int x2), (3, .int x3)] := hl
  obtain ⟨H, eH⟩ : ∃ z, z = s.heap := ⟨_, rfl⟩
  obtain ⟨locs, eL⟩ : ∃ z : List Loc, z = [] := ⟨_, rfl⟩
  rw [show W p l e Matches_sameBytes_rm s m args below meth c s.heap [] 0 0 Q (F0 m 0 ls []) = W p l e Matches_sameBytes_rm s m args below meth c H locs 0 0 Q (F0 m 0 ls []) by rw [eH, eL]]
  replace hP : va_P E.1 vwCl (Matches_sameBytes_w E a_this a_row a_row_data n_row_data x_latest x_before v_row_length c_row_data) H := by rw [eH]; exact hP
  replace hS : va_S A s.heap H locs := by rw [eH, eL]; exact hS
  clear eH eL
  rw [Matches_sameBytes] at hm
  have h_3 : ∀ (n_3 : Nat) (x4 : Int32) (H : Heap) (locs : List Loc) (ls : Array Slot), (mW1 (Matches_sameBytes_3 F n_row_data v_row_length c_row_data x1 x2 x3) n_3) x4 = some res → va_P E.1 vwCl (Matches_sameBytes_w E a_this a_row a_row_data n_row_data x_latest x_before v_row_length c_row_data) H → va_D A (Matches_sameBytes_w E a_this a_row a_row_data n_row_data x_latest x_before v_row_length c_row_data) → va_S A s.heap H locs → lv_has ls 5 [(0, .ref a_this), (1, .int x1), (2, .int x2), (3, .int x3), (4, .int x4)] → W p l e Matches_sameBytes_rm s m args below meth c H locs 0 0 Q (F0 m 3 ls []) := by
    intro n_3
    induction n_3 with
    | zero => exact fun _ _ _ _ hm _ _ _ _ => (mW1_z hm).elim
    | succ n_3 ih_3 =>
      intro x4 H locs ls hm hP hD hS hl
      replace hm := mW1_s hm
      rw [Matches_sameBytes_3] at hm
      refine lv_iload hx hb d_Matches_sameBytes_3 (lv_at hl 4 rfl) ?_
      refine lv_iload_n hx hb d_Matches_sameBytes_5 rfl (lv_at hl 3 rfl) ?_
      refine lv_icmp_ge (tgt := 40) hx hb d_Matches_sameBytes_6 (by decide) (fun c6 => ?_) (fun c6 => ?_)
      · replace hm := mC_t hm c6
        refine lv_iload hx hb d_Matches_sameBytes_40 (lv_at hl 4 rfl) ?_
        replace hm := Option.some.inj hm
        subst hm
        exact hret d_Matches_sameBytes_42 (u := ()) ⟨rfl, rfl⟩ hP hD hS
      · replace hm := mC_f hm c6
        refine lv_aload_n hx hb d_Matches_sameBytes_9 rfl (lv_at hl 0 rfl) ?_
        refine va_get (D := E.1) (ci := 6) (v := .ref a_row) (C := R_Matches) (T := F_Matches) (N := 3) hx hb hts i_Matches hown hK hP 0 rfl rfl 0 (by decide) (hts _ tw_139) (fun _ h9 => h9) rfl d_Matches_sameBytes_10 ?_
        refine lv_iload_n hx hb d_Matches_sameBytes_13 rfl (lv_at hl 1 rfl) ?_
        refine lv_iload hx hb d_Matches_sameBytes_14 (lv_at hl 4 rfl) ?_
        refine lv_iadd hx hb d_Matches_sameBytes_16 ?_
        obtain ⟨t_1, et_1⟩ : ∃ z : Int32, z = x1 + x4 := ⟨_, rfl⟩
        rw [← et_1]
        replace hm := mL_e hm t_1 et_1
        obtain ⟨r_2, hc17, hm⟩ := mR0_e hm
        refine xmi (wc := (Bytes_at_w E a_row a_row_data n_row_data v_row_length c_row_data)) [false, true, true] [0, 1] [0, 1] hP hD hS hA rfl (by decide) (by decide) 2 (by decide) (fun _ => rfl) (fun hPc hDc hFc => va_runV (As := [.int t_1]) (rest := []) ⟨hx, hb, hml, hown, hts⟩ (c_Bytes_at l E F H.size a_row a_row_data n_row_data v_row_length c_row_data t_1 (r_2, ()) hc17) (cwV 1 hts (x_gV tw_447 tw_448 tw_449 tw_67 tw_450) rfl rfl rfl (by decide +kernel) ⟨Nat.le_of_ble_eq_true rfl, Nat.le_of_ble_eq_true rfl⟩) (xPV 2 0 rfl rfl hPc hDc hFc hK hI hN hS) rfl rfl hl.1 rfl (lv_room (Nat.le_of_ble_eq_true rfl)) d_Matches_sameBytes_17 ⟨Nat.le_of_ble_eq_true rfl, Nat.le_of_ble_eq_true rfl⟩) (fun r9 u9 H locs hw hP hD hS => ?_)
        have hw1 : r_2 = r9 := hw.1.symm
        subst hw1
        replace hP : va_P E.1 vwCl (Matches_sameBytes_w E a_this a_row a_row_data n_row_data x_latest x_before v_row_length c_row_data) H := hP
        replace hD : va_D A (Matches_sameBytes_w E a_this a_row a_row_data n_row_data x_latest x_before v_row_length c_row_data) := hD
        refine lv_aload_n hx hb d_Matches_sameBytes_20 rfl (lv_at hl 0 rfl) ?_
        refine va_get (D := E.1) (ci := 6) (v := .ref a_row) (C := R_Matches) (T := F_Matches) (N := 3) hx hb hts i_Matches hown hK hP 0 rfl rfl 0 (by decide) (hts _ tw_139) (fun _ h9 => h9) rfl d_Matches_sameBytes_21 ?_
        refine lv_iload_n hx hb d_Matches_sameBytes_24 rfl (lv_at hl 2 rfl) ?_
        refine lv_iload hx hb d_Matches_sameBytes_25 (lv_at hl 4 rfl) ?_
        refine lv_iadd hx hb d_Matches_sameBytes_27 ?_
        obtain ⟨t_3, et_3⟩ : ∃ z : Int32, z = x2 + x4 := ⟨_, rfl⟩
        rw [← et_3]
        replace hm := mL_e hm t_3 et_3
        obtain ⟨r_4, hc28, hm⟩ := mR0_e hm
        refine xmi (wc := (Bytes_at_w E a_row a_row_data n_row_data v_row_length c_row_data)) [false, true, true] [0, 1] [0, 1] hP hD hS hA rfl (by decide) (by decide) 2 (by decide) (fun _ => rfl) (fun hPc hDc hFc => va_runV (As := [.int t_3]) (rest := [.int r_2]) ⟨hx, hb, hml, hown, hts⟩ (c_Bytes_at l E F H.size a_row a_row_data n_row_data v_row_length c_row_data t_3 (r_4, ()) hc28) (cwV 1 hts (x_gV tw_447 tw_448 tw_449 tw_67 tw_450) rfl rfl rfl (by decide +kernel) ⟨Nat.le_of_ble_eq_true rfl, Nat.le_of_ble_eq_true rfl⟩) (xPV 2 0 rfl rfl hPc hDc hFc hK hI hN hS) rfl rfl hl.1 rfl (lv_room (Nat.le_of_ble_eq_true rfl)) d_Matches_sameBytes_28 ⟨Nat.le_of_ble_eq_true rfl, Nat.le_of_ble_eq_true rfl⟩) (fun r9 u9 H locs hw hP hD hS => ?_)
        have hw1 : r_4 = r9 := hw.1.symm
        subst hw1
        replace hP : va_P E.1 vwCl (Matches_sameBytes_w E a_this a_row a_row_data n_row_data x_latest x_before v_row_length c_row_data) H := hP
        replace hD : va_D A (Matches_sameBytes_w E a_this a_row a_row_data n_row_data x_latest x_before v_row_length c_row_data) := hD
        refine lv_icmp_ne (tgt := 40) hx hb d_Matches_sameBytes_31 (by decide) (fun c31 => ?_) (fun c31 => ?_)
        · replace hm := mC_f hm c31
          refine lv_iload hx hb d_Matches_sameBytes_40 (lv_at hl 4 rfl) ?_
          replace hm := Option.some.inj hm
          subst hm
          exact hret d_Matches_sameBytes_42 (u := ()) ⟨rfl, rfl⟩ hP hD hS
        · replace hm := mC_t hm c31
          obtain ⟨y4_5, ey4_5⟩ : ∃ y : Int32, y = x4 + 1 := ⟨_, rfl⟩
          replace hm := mL_e hm y4_5 ey4_5
          refine lv_iinc (v := y4_5) (lv' := [(4, .int y4_5), (0, .ref a_this), (1, .int x1), (2, .int x2), (3, .int x3)]) hx hb d_Matches_sameBytes_34 hl (k := 4) rfl (by rw [ey4_5]; rfl) (by decide) rfl (fun ls hl => ?_)
          refine lv_goto (tgt := 3) hx hb d_Matches_sameBytes_37 (by decide) ?_
          exact ih_3 _ H locs ls hm hP hD hS (lv_sub hl [1, 2, 3, 4, 0] rfl)
  refine lv_iconst (v := 0) hx hb d_Matches_sameBytes_0 (by decide) ?_
  refine lv_istore (lv' := [(4, .int 0), (0, .ref a_this), (1, .int x1), (2, .int x2), (3, .int x3)]) hx hb d_Matches_sameBytes_1 hl (by decide) rfl (fun ls hl => ?_)
  exact h_3 F _ H locs ls hm hP hD hS (lv_sub hl [1, 2, 3, 4, 0] rfl)
theorem d_Matches_best_0 : decode b_Matches_best 0 = .ok (.sipush 258, 3) := by decide +kernel
theorem d_Matches_best_3 : decode b_Matches_best 3 = .ok (.iload_n 2, 1) := by decide +kernel
theorem d_Matches_best_4 : decode b_Matches_best 4 = .ok (.iload_n 1, 1) := by decide +kernel
theorem d_Matches_best_5 : decode b_Matches_best 5 = .ok (.isub, 1) := by decide +kernel
theorem d_Matches_best_6 : decode b_Matches_best 6 = .ok (.invokestatic 39, 3) := by decide +kernel
theorem d_Matches_best_9 : decode b_Matches_best 9 = .ok (.istore_n 3, 1) := by decide +kernel
theorem d_Matches_best_10 : decode b_Matches_best 10 = .ok (.iload_n 3, 1) := by decide +kernel
theorem d_Matches_best_11 : decode b_Matches_best 11 = .ok (.iconst 3, 1) := by decide +kernel
theorem d_Matches_best_12 : decode b_Matches_best 12 = .ok (.if_icmp .lt 16, 3) := by decide +kernel
theorem d_Matches_best_15 : decode b_Matches_best 15 = .ok (.iload_n 1, 1) := by decide +kernel
theorem d_Matches_best_16 : decode b_Matches_best 16 = .ok (.ifCond .lt 12, 3) := by decide +kernel
theorem d_Matches_best_19 : decode b_Matches_best 19 = .ok (.iload_n 1, 1) := by decide +kernel
theorem d_Matches_best_20 : decode b_Matches_best 20 = .ok (.aload_n 0, 1) := by decide +kernel
theorem d_Matches_best_21 : decode b_Matches_best 21 = .ok (.getfield 19, 3) := by decide +kernel
theorem d_Matches_best_24 : decode b_Matches_best 24 = .ok (.arraylength, 1) := by decide +kernel
theorem d_Matches_best_25 : decode b_Matches_best 25 = .ok (.if_icmp .lt 5, 3) := by decide +kernel
theorem d_Matches_best_28 : decode b_Matches_best 28 = .ok (.iconst 0, 1) := by decide +kernel
theorem d_Matches_best_29 : decode b_Matches_best 29 = .ok (.ireturn, 1) := by decide +kernel
theorem d_Matches_best_30 : decode b_Matches_best 30 = .ok (.iconst 0, 1) := by decide +kernel
theorem d_Matches_best_31 : decode b_Matches_best 31 = .ok (.istore 4, 2) := by decide +kernel
theorem d_Matches_best_33 : decode b_Matches_best 33 = .ok (.iconst 0, 1) := by decide +kernel
theorem d_Matches_best_34 : decode b_Matches_best 34 = .ok (.istore 5, 2) := by decide +kernel
theorem d_Matches_best_36 : decode b_Matches_best 36 = .ok (.iconst 0, 1) := by decide +kernel
theorem d_Matches_best_37 : decode b_Matches_best 37 = .ok (.istore 6, 2) := by decide +kernel
theorem d_Matches_best_39 : decode b_Matches_best 39 = .ok (.aload_n 0, 1) := by decide +kernel
theorem d_Matches_best_40 : decode b_Matches_best 40 = .ok (.getfield 19, 3) := by decide +kernel
theorem d_Matches_best_43 : decode b_Matches_best 43 = .ok (.iload_n 1, 1) := by decide +kernel
theorem d_Matches_best_44 : decode b_Matches_best 44 = .ok (.iaload, 1) := by decide +kernel
theorem d_Matches_best_45 : decode b_Matches_best 45 = .ok (.iconst 1, 1) := by decide +kernel
theorem d_Matches_best_46 : decode b_Matches_best 46 = .ok (.isub, 1) := by decide +kernel
theorem d_Matches_best_47 : decode b_Matches_best 47 = .ok (.istore 7, 2) := by decide +kernel
theorem d_Matches_best_49 : decode b_Matches_best 49 = .ok (.iload 7, 2) := by decide +kernel
theorem d_Matches_best_51 : decode b_Matches_best 51 = .ok (.ifCond .lt 77, 3) := by decide +kernel
theorem d_Matches_best_54 : decode b_Matches_best 54 = .ok (.iload 7, 2) := by decide +kernel
theorem d_Matches_best_56 : decode b_Matches_best 56 = .ok (.iload_n 1, 1) := by decide +kernel
theorem d_Matches_best_57 : decode b_Matches_best 57 = .ok (.if_icmp .ge 71, 3) := by decide +kernel
theorem d_Matches_best_60 : decode b_Matches_best 60 = .ok (.iload 6, 2) := by decide +kernel
theorem d_Matches_best_62 : decode b_Matches_best 62 = .ok (.bipush 16, 2) := by decide +kernel
theorem d_Matches_best_64 : decode b_Matches_best 64 = .ok (.if_icmp .ge 64, 3) := by decide +kernel
theorem d_Matches_best_67 : decode b_Matches_best 67 = .ok (.iload 4, 2) := by decide +kernel
theorem d_Matches_best_69 : decode b_Matches_best 69 = .ok (.iload_n 3, 1) := by decide +kernel
theorem d_Matches_best_70 : decode b_Matches_best 70 = .ok (.if_icmp .ge 58, 3) := by decide +kernel
theorem d_Matches_best_73 : decode b_Matches_best 73 = .ok (.aload_n 0, 1) := by decide +kernel
theorem d_Matches_best_74 : decode b_Matches_best 74 = .ok (.iload 7, 2) := by decide +kernel
theorem d_Matches_best_76 : decode b_Matches_best 76 = .ok (.iload_n 1, 1) := by decide +kernel
theorem d_Matches_best_77 : decode b_Matches_best 77 = .ok (.iload_n 3, 1) := by decide +kernel
theorem d_Matches_best_78 : decode b_Matches_best 78 = .ok (.invokevirtual 45, 3) := by decide +kernel
theorem d_Matches_best_81 : decode b_Matches_best 81 = .ok (.istore 8, 2) := by decide +kernel
theorem d_Matches_best_83 : decode b_Matches_best 83 = .ok (.iload 8, 2) := by decide +kernel
theorem d_Matches_best_85 : decode b_Matches_best 85 = .ok (.iconst 3, 1) := by decide +kernel
theorem d_Matches_best_86 : decode b_Matches_best 86 = .ok (.if_icmp .lt 23, 3) := by decide +kernel
theorem d_Matches_best_89 : decode b_Matches_best 89 = .ok (.iinc 6 1, 3) := by decide +kernel
theorem d_Matches_best_92 : decode b_Matches_best 92 = .ok (.iload 8, 2) := by decide +kernel
theorem d_Matches_best_94 : decode b_Matches_best 94 = .ok (.iload 4, 2) := by decide +kernel
theorem d_Matches_best_96 : decode b_Matches_best 96 = .ok (.if_icmp .le 13, 3) := by decide +kernel
theorem d_Matches_best_99 : decode b_Matches_best 99 = .ok (.iload 8, 2) := by decide +kernel
theorem d_Matches_best_101 : decode b_Matches_best 101 = .ok (.istore 4, 2) := by decide +kernel
theorem d_Matches_best_103 : decode b_Matches_best 103 = .ok (.iload_n 1, 1) := by decide +kernel
theorem d_Matches_best_104 : decode b_Matches_best 104 = .ok (.iload 7, 2) := by decide +kernel
theorem d_Matches_best_106 : decode b_Matches_best 106 = .ok (.isub, 1) := by decide +kernel
theorem d_Matches_best_107 : decode b_Matches_best 107 = .ok (.istore 5, 2) := by decide +kernel
theorem d_Matches_best_109 : decode b_Matches_best 109 = .ok (.aload_n 0, 1) := by decide +kernel
theorem d_Matches_best_110 : decode b_Matches_best 110 = .ok (.getfield 19, 3) := by decide +kernel
theorem d_Matches_best_113 : decode b_Matches_best 113 = .ok (.iload 7, 2) := by decide +kernel
theorem d_Matches_best_115 : decode b_Matches_best 115 = .ok (.iaload, 1) := by decide +kernel
theorem d_Matches_best_116 : decode b_Matches_best 116 = .ok (.iload 7, 2) := by decide +kernel
theorem d_Matches_best_118 : decode b_Matches_best 118 = .ok (.invokestatic 39, 3) := by decide +kernel
theorem d_Matches_best_121 : decode b_Matches_best 121 = .ok (.iconst 1, 1) := by decide +kernel
theorem d_Matches_best_122 : decode b_Matches_best 122 = .ok (.isub, 1) := by decide +kernel
theorem d_Matches_best_123 : decode b_Matches_best 123 = .ok (.istore 7, 2) := by decide +kernel
theorem d_Matches_best_125 : decode b_Matches_best 125 = .ok (.goto (-76), 3) := by decide +kernel
theorem d_Matches_best_128 : decode b_Matches_best 128 = .ok (.iload 4, 2) := by decide +kernel
theorem d_Matches_best_130 : decode b_Matches_best 130 = .ok (.bipush 16, 2) := by decide +kernel
theorem d_Matches_best_132 : decode b_Matches_best 132 = .ok (.ishl, 1) := by decide +kernel
theorem d_Matches_best_133 : decode b_Matches_best 133 = .ok (.iload 5, 2) := by decide +kernel
theorem d_Matches_best_135 : decode b_Matches_best 135 = .ok (.ior, 1) := by decide +kernel
theorem d_Matches_best_136 : decode b_Matches_best 136 = .ok (.ireturn, 1) := by decide +kernel
def Matches_best_109 (F : Nat) (c_before : Nat → Int32) (k_49 : Int32 → Int32 → Int32 → Int32 → Int32 → Option (Int32 × Unit)) (x3 : Int32) (x4 : Int32) (x5 : Int32) (x6 : Int32) (x7 : Int32) : Option (Int32 × Unit) :=
  mG x7 8192 (mL (c_before x7.toNatClampNeg) fun t_3 => mL ((if x7 < t_3 then x7 else t_3) - 1) fun y7_4 => k_49 x3 x4 x5 x6 y7_4)
def Matches_best_49 (F : Nat) (n_row_data : Nat) (c_before : Nat → Int32) (v_row_length : Int32) (c_row_data : Nat → Int32) (x1 : Int32) (k_49 : Int32 → Int32 → Int32 → Int32 → Int32 → Option (Int32 × Unit)) (x3 : Int32) (x4 : Int32) (x5 : Int32) (x6 : Int32) (x7 : Int32) : Option (Int32 × Unit) :=
  mC (x7 < 0) (some ((x4 <<< ((16 : Int32) &&& 31)) ||| x5, ())) (mC (x1 ≤ x7) (some ((x4 <<< ((16 : Int32) &&& 31)) ||| x5, ())) (mC (16 ≤ x6) (some ((x4 <<< ((16 : Int32) &&& 31)) ||| x5, ())) (mC (x3 ≤ x4) (some ((x4 <<< ((16 : Int32) &&& 31)) ||| x5, ())) (mR0 (Matches_sameBytes F n_row_data v_row_length c_row_data x7 x1 x3) fun r_5 => mC (r_5 < 3) ((Matches_best_109 F c_before k_49) x3 x4 x5 x6 x7) (mL (x6 + 1) fun y6_6 => mC (r_5 ≤ x4) ((Matches_best_109 F c_before k_49) x3 x4 x5 y6_6 x7) (mL (x1 - x7) fun y5_7 => (Matches_best_109 F c_before k_49) x3 r_5 y5_7 y6_6 x7))))))
abbrev Matches_best_w (E : xE) (a_this : Nat) (a_before : Nat) (a_row : Nat) (a_row_data : Nat) (n_row_data : Nat) (x_latest : Value) (c_before : Nat → Int32) (v_row_length : Int32) (c_row_data : Nat → Int32) : va_W := [(a_this, .inr (6, [.ref a_row, x_latest, .ref a_before])), (a_before, .inl (E.2.1, 8192, .inl c_before)), (a_row, .inr (2, [.ref a_row_data, .int v_row_length])), (a_row_data, .inl (E.2.2.1, n_row_data, .inl c_row_data))]
def Matches_best (F : Nat) (n_row_data : Nat) (c_before : Nat → Int32) (v_row_length : Int32) (c_row_data : Nat → Int32) (x1 : Int32) (x2 : Int32) : Option (Int32 × Unit) :=
  mL (x2 - x1) fun t_1 => mL (if t_1 < 258 then t_1 else 258) fun y3_2 => mC (y3_2 < 3) (some (0, ())) (mC (x1 < 0) (some (0, ())) (mC (x1 < 8192) (mG x1 8192 (mL ((c_before x1.toNatClampNeg) - 1) fun y7_8 => (mW5 (Matches_best_49 F n_row_data c_before v_row_length c_row_data x1) F) y3_2 0 0 0 y7_8)) (some (0, ()))))
abbrev Matches_best_rm : Room := { frames := 2, cells := 0, slots := 0, locals := 45 }
set_option maxHeartbeats 4000000 in
set_option maxRecDepth 100000 in
theorem c_Matches_best (l : Launch) (E : xE) (F sz : Nat) (a_this : Nat) (a_before : Nat) (a_row : Nat) (a_row_data : Nat) (n_row_data : Nat) (x_latest : Value) (c_before : Nat → Int32) (v_row_length : Int32) (c_row_data : Nat → Int32) (x1 : Int32) (x2 : Int32) (res : Int32 × Unit) (hm : Matches_best F n_row_data c_before v_row_length c_row_data x1 x2 = some res) : Met l y_Matches_best (Cond.code y_Matches_best b_Matches_best 9 (some .int) :: x_tb) Matches_best_rm (va_Pc [.ref a_this, .int x1, .int x2] (xPre E (Matches_best_w E a_this a_before a_row a_row_data n_row_data x_latest c_before v_row_length c_row_data) sz)) (xQi E (fun (r : Int32) (u : Unit) => r = res.1 ∧ u = res.2) (fun (u : Unit) => (Matches_best_w E a_this a_before a_row a_row_data n_row_data x_latest c_before v_row_length c_row_data)) (va_A (Matches_best_w E a_this a_before a_row a_row_data n_row_data x_latest c_before v_row_length c_row_data) sz)) 0 0 (va_A (Matches_best_w E a_this a_before a_row a_row_data n_row_data x_latest c_before v_row_length c_row_data) sz) := by
  refine xEnI (by decide) (Nat.le_of_ble_eq_true rfl) ?_
  intro p e s m args below meth c A ls Q hx hb hnm hts hown hml hK hA hI hN hret hP hD hS hl
  replace hown : s.vm.findClass R_Matches = some m.cls := hown
  replace hl : lv_has ls 9 [(0, .ref a_this), (1, .int x1), (2, .int x2)] := hl
  obtain ⟨H, eH⟩ : ∃ z, z = s.heap := ⟨_, rfl⟩
  obtain ⟨locs, eL⟩ : ∃ z : List Loc, z = [] := ⟨_, rfl⟩
  rw [show W p l e Matches_best_rm s m args below meth c s.heap [] 0 0 Q (F0 m 0 ls []) = W p l e Matches_best_rm s m args below meth c H locs 0 0 Q (F0 m 0 ls []) by rw [eH, eL]]
  replace hP : va_P E.1 vwCl (Matches_best_w E a_this a_before a_row a_row_data n_row_data x_latest c_before v_row_length c_row_data) H := by rw [eH]; exact hP
  replace hS : va_S A s.heap H locs := by rw [eH, eL]; exact hS
  clear eH eL
  rw [Matches_best] at hm
  refine lv_sipush (v := 258) hx hb d_Matches_best_0 (by decide) ?_
  refine lv_iload_n hx hb d_Matches_best_3 rfl (lv_at hl 2 rfl) ?_
  refine lv_iload_n hx hb d_Matches_best_4 rfl (lv_at hl 1 rfl) ?_
  refine lv_isub hx hb d_Matches_best_5 ?_
  refine lv_topi (fun t_1 et_1 => ?_)
  replace hm := mL_e hm t_1 et_1
  refine va_mmin hx hb (hml.trans hl.1.symm) hown (hts _ tw_472) (hts _ tw_458) (hts _ tw_68) (hts _ tw_459) (Nat.le_of_ble_eq_true rfl) (Nat.le_of_ble_eq_true rfl) (Nat.le_of_ble_eq_true rfl) (Nat.le_of_ble_eq_true rfl) d_Matches_best_6 ?_
  refine lv_topi (fun y3_2 ey3_2 => ?_)
  replace hm := mL_e hm y3_2 ey3_2
  refine lv_istore_n (lv' := [(3, .int y3_2), (0, .ref a_this), (1, .int x1), (2, .int x2)]) hx hb d_Matches_best_9 rfl hl (by decide) rfl (fun ls hl => ?_)
  refine lv_iload_n hx hb d_Matches_best_10 rfl (lv_at hl 0 rfl) ?_
  refine lv_iconst (v := 3) hx hb d_Matches_best_11 (by decide) ?_
  refine lv_icmp_lt (tgt := 28) hx hb d_Matches_best_12 (by decide) (fun c12 => ?_) (fun c12 => ?_)
  · replace hm := mC_t hm c12
    refine lv_iconst (v := 0) hx hb d_Matches_best_28 (by decide) ?_
    replace hm := Option.some.inj hm
    subst hm
    exact hret d_Matches_best_29 (u := ()) ⟨rfl, rfl⟩ hP hD hS
  · replace hm := mC_f hm c12
    refine lv_iload_n hx hb d_Matches_best_15 rfl (lv_at hl 2 rfl) ?_
    refine lv_if_lt (tgt := 28) hx hb d_Matches_best_16 (by decide) (fun c16 => ?_) (fun c16 => ?_)
    · replace hm := mC_t hm c16
      refine lv_iconst (v := 0) hx hb d_Matches_best_28 (by decide) ?_
      replace hm := Option.some.inj hm
      subst hm
      exact hret d_Matches_best_29 (u := ()) ⟨rfl, rfl⟩ hP hD hS
    · replace hm := mC_f hm c16
      refine lv_iload_n hx hb d_Matches_best_19 rfl (lv_at hl 2 rfl) ?_
      refine lv_aload_n hx hb d_Matches_best_20 rfl (lv_at hl 1 rfl) ?_
      refine va_get (D := E.1) (ci := 6) (v := .ref a_before) (C := R_Matches) (T := F_Matches) (N := 3) hx hb hts i_Matches hown hK hP 0 rfl rfl 2 (by decide) (hts _ tw_141) (fun _ h9 => h9) rfl d_Matches_best_21 ?_
      refine va_alen (v := 8192) hx hb hK hP 1 0 rfl rfl rfl d_Matches_best_24 ?_
      refine lv_icmp_lt (tgt := 30) hx hb d_Matches_best_25 (by decide) (fun c25 => ?_) (fun c25 => ?_)
      · replace hm := mC_t hm c25
        have h_49 : ∀ (n_49 : Nat) (x3 : Int32) (x4 : Int32) (x5 : Int32) (x6 : Int32) (x7 : Int32) (H : Heap) (locs : List Loc) (ls : Array Slot), (mW5 (Matches_best_49 F n_row_data c_before v_row_length c_row_data x1) n_49) x3 x4 x5 x6 x7 = some res → va_P E.1 vwCl (Matches_best_w E a_this a_before a_row a_row_data n_row_data x_latest c_before v_row_length c_row_data) H → va_D A (Matches_best_w E a_this a_before a_row a_row_data n_row_data x_latest c_before v_row_length c_row_data) → va_S A s.heap H locs → lv_has ls 9 [(0, .ref a_this), (1, .int x1), (3, .int x3), (4, .int x4), (5, .int x5), (6, .int x6), (7, .int x7)] → W p l e Matches_best_rm s m args below meth c H locs 0 0 Q (F0 m 49 ls []) := by
          intro n_49
          induction n_49 with
          | zero => exact fun _ _ _ _ _ _ _ _ hm _ _ _ _ => (mW5_z hm).elim
          | succ n_49 ih_49 =>
            intro x3 x4 x5 x6 x7 H locs ls hm hP hD hS hl
            replace hm := mW5_s hm
            rw [Matches_best_49] at hm
            refine lv_iload hx hb d_Matches_best_49 (lv_at hl 6 rfl) ?_
            refine lv_if_lt (tgt := 128) hx hb d_Matches_best_51 (by decide) (fun c51 => ?_) (fun c51 => ?_)
            · replace hm := mC_t hm c51
              refine lv_iload hx hb d_Matches_best_128 (lv_at hl 3 rfl) ?_
              refine lv_bipush (v := 16) hx hb d_Matches_best_130 (by decide) ?_
              refine lv_ishl hx hb d_Matches_best_132 ?_
              refine lv_iload hx hb d_Matches_best_133 (lv_at hl 4 rfl) ?_
              refine lv_ior hx hb d_Matches_best_135 ?_
              replace hm := Option.some.inj hm
              subst hm
              exact hret d_Matches_best_136 (u := ()) ⟨rfl, rfl⟩ hP hD hS
            · replace hm := mC_f hm c51
              refine lv_iload hx hb d_Matches_best_54 (lv_at hl 6 rfl) ?_
              refine lv_iload_n hx hb d_Matches_best_56 rfl (lv_at hl 1 rfl) ?_
              refine lv_icmp_ge (tgt := 128) hx hb d_Matches_best_57 (by decide) (fun c57 => ?_) (fun c57 => ?_)
              · replace hm := mC_t hm c57
                refine lv_iload hx hb d_Matches_best_128 (lv_at hl 3 rfl) ?_
                refine lv_bipush (v := 16) hx hb d_Matches_best_130 (by decide) ?_
                refine lv_ishl hx hb d_Matches_best_132 ?_
                refine lv_iload hx hb d_Matches_best_133 (lv_at hl 4 rfl) ?_
                refine lv_ior hx hb d_Matches_best_135 ?_
                replace hm := Option.some.inj hm
                subst hm
                exact hret d_Matches_best_136 (u := ()) ⟨rfl, rfl⟩ hP hD hS
              · replace hm := mC_f hm c57
                refine lv_iload hx hb d_Matches_best_60 (lv_at hl 5 rfl) ?_
                refine lv_bipush (v := 16) hx hb d_Matches_best_62 (by decide) ?_
                refine lv_icmp_ge (tgt := 128) hx hb d_Matches_best_64 (by decide) (fun c64 => ?_) (fun c64 => ?_)
                · replace hm := mC_t hm c64
                  refine lv_iload hx hb d_Matches_best_128 (lv_at hl 3 rfl) ?_
                  refine lv_bipush (v := 16) hx hb d_Matches_best_130 (by decide) ?_
                  refine lv_ishl hx hb d_Matches_best_132 ?_
                  refine lv_iload hx hb d_Matches_best_133 (lv_at hl 4 rfl) ?_
                  refine lv_ior hx hb d_Matches_best_135 ?_
                  replace hm := Option.some.inj hm
                  subst hm
                  exact hret d_Matches_best_136 (u := ()) ⟨rfl, rfl⟩ hP hD hS
                · replace hm := mC_f hm c64
                  refine lv_iload hx hb d_Matches_best_67 (lv_at hl 3 rfl) ?_
                  refine lv_iload_n hx hb d_Matches_best_69 rfl (lv_at hl 2 rfl) ?_
                  refine lv_icmp_ge (tgt := 128) hx hb d_Matches_best_70 (by decide) (fun c70 => ?_) (fun c70 => ?_)
                  · replace hm := mC_t hm c70
                    refine lv_iload hx hb d_Matches_best_128 (lv_at hl 3 rfl) ?_
                    refine lv_bipush (v := 16) hx hb d_Matches_best_130 (by decide) ?_
                    refine lv_ishl hx hb d_Matches_best_132 ?_
                    refine lv_iload hx hb d_Matches_best_133 (lv_at hl 4 rfl) ?_
                    refine lv_ior hx hb d_Matches_best_135 ?_
                    replace hm := Option.some.inj hm
                    subst hm
                    exact hret d_Matches_best_136 (u := ()) ⟨rfl, rfl⟩ hP hD hS
                  · replace hm := mC_f hm c70
                    have h_109 : ∀ (x3 : Int32) (x4 : Int32) (x5 : Int32) (x6 : Int32) (x7 : Int32) (H : Heap) (locs : List Loc) (ls : Array Slot), (Matches_best_109 F c_before (mW5 (Matches_best_49 F n_row_data c_before v_row_length c_row_data x1) n_49)) x3 x4 x5 x6 x7 = some res → va_P E.1 vwCl (Matches_best_w E a_this a_before a_row a_row_data n_row_data x_latest c_before v_row_length c_row_data) H → va_D A (Matches_best_w E a_this a_before a_row a_row_data n_row_data x_latest c_before v_row_length c_row_data) → va_S A s.heap H locs → lv_has ls 9 [(0, .ref a_this), (1, .int x1), (3, .int x3), (4, .int x4), (5, .int x5), (6, .int x6), (7, .int x7)] → W p l e Matches_best_rm s m args below meth c H locs 0 0 Q (F0 m 109 ls []) := by
                      intro x3 x4 x5 x6 x7 H locs ls hm hP hD hS hl
                      rw [Matches_best_109] at hm
                      refine lv_aload_n hx hb d_Matches_best_109 rfl (lv_at hl 0 rfl) ?_
                      refine va_get (D := E.1) (ci := 6) (v := .ref a_before) (C := R_Matches) (T := F_Matches) (N := 3) hx hb hts i_Matches hown hK hP 0 rfl rfl 2 (by decide) (hts _ tw_141) (fun _ h9 => h9) rfl d_Matches_best_110 ?_
                      refine lv_iload hx hb d_Matches_best_113 (lv_at hl 6 rfl) ?_
                      obtain ⟨hi115, hm⟩ := mG_e hm
                      refine va_iald hx hb hK hP 1 0 rfl rfl hi115 d_Matches_best_115 ?_
                      refine lv_iload hx hb d_Matches_best_116 (lv_at hl 6 rfl) ?_
                      obtain ⟨t_3, et_3⟩ : ∃ z : Int32, z = c_before x7.toNatClampNeg := ⟨_, rfl⟩
                      rw [← et_3]
                      replace hm := mL_e hm t_3 et_3
                      refine va_mmin hx hb (hml.trans hl.1.symm) hown (hts _ tw_472) (hts _ tw_458) (hts _ tw_68) (hts _ tw_459) (Nat.le_of_ble_eq_true rfl) (Nat.le_of_ble_eq_true rfl) (Nat.le_of_ble_eq_true rfl) (Nat.le_of_ble_eq_true rfl) d_Matches_best_118 ?_
                      refine lv_iconst (v := 1) hx hb d_Matches_best_121 (by decide) ?_
                      refine lv_isub hx hb d_Matches_best_122 ?_
                      refine lv_topi (fun y7_4 ey7_4 => ?_)
                      replace hm := mL_e hm y7_4 ey7_4
                      refine lv_istore (lv' := [(7, .int y7_4), (0, .ref a_this), (1, .int x1), (3, .int x3), (4, .int x4), (5, .int x5), (6, .int x6)]) hx hb d_Matches_best_123 hl (by decide) rfl (fun ls hl => ?_)
                      refine lv_goto (tgt := 49) hx hb d_Matches_best_125 (by decide) ?_
                      exact ih_49 _ _ _ _ _ H locs ls hm hP hD hS (lv_sub hl [1, 2, 3, 4, 5, 6, 0] rfl)
                    refine lv_aload_n hx hb d_Matches_best_73 rfl (lv_at hl 0 rfl) ?_
                    refine lv_iload hx hb d_Matches_best_74 (lv_at hl 6 rfl) ?_
                    refine lv_iload_n hx hb d_Matches_best_76 rfl (lv_at hl 1 rfl) ?_
                    refine lv_iload_n hx hb d_Matches_best_77 rfl (lv_at hl 2 rfl) ?_
                    obtain ⟨r_5, hc78, hm⟩ := mR0_e hm
                    refine xmi (wc := (Matches_sameBytes_w E a_this a_row a_row_data n_row_data x_latest (.ref a_before) v_row_length c_row_data)) [true, false, true, true] [0, 1, 2] [0, 1, 2] hP hD hS hA rfl (by decide) (by decide) 3 (by decide) (fun _ => rfl) (fun hPc hDc hFc => va_runV (As := [.int x7, .int x1, .int x3]) (rest := []) ⟨hx, hb, hml, hown, hts⟩ (c_Matches_sameBytes l E F H.size a_this a_row a_row_data n_row_data x_latest (.ref a_before) v_row_length c_row_data x7 x1 x3 (r_5, ()) hc78) (cwV 3 hts (x_gV tw_473 tw_475 tw_5 tw_71 tw_476) rfl rfl rfl (by decide +kernel) ⟨Nat.le_of_ble_eq_true rfl, Nat.le_of_ble_eq_true rfl⟩) (xPV 6 0 rfl rfl hPc hDc hFc hK hI hN hS) rfl rfl hl.1 rfl (lv_room (Nat.le_of_ble_eq_true rfl)) d_Matches_best_78 ⟨Nat.le_of_ble_eq_true rfl, Nat.le_of_ble_eq_true rfl⟩) (fun r9 u9 H locs hw hP hD hS => ?_)
                    have hw1 : r_5 = r9 := hw.1.symm
                    subst hw1
                    replace hP : va_P E.1 vwCl (Matches_best_w E a_this a_before a_row a_row_data n_row_data x_latest c_before v_row_length c_row_data) H := hP
                    replace hD : va_D A (Matches_best_w E a_this a_before a_row a_row_data n_row_data x_latest c_before v_row_length c_row_data) := hD
                    refine lv_istore (lv' := [(8, .int r_5), (0, .ref a_this), (1, .int x1), (3, .int x3), (4, .int x4), (5, .int x5), (6, .int x6), (7, .int x7)]) hx hb d_Matches_best_81 hl (by decide) rfl (fun ls hl => ?_)
                    refine lv_iload hx hb d_Matches_best_83 (lv_at hl 0 rfl) ?_
                    refine lv_iconst (v := 3) hx hb d_Matches_best_85 (by decide) ?_
                    refine lv_icmp_lt (tgt := 109) hx hb d_Matches_best_86 (by decide) (fun c86 => ?_) (fun c86 => ?_)
                    · replace hm := mC_t hm c86
                      exact h_109 _ _ _ _ _ H locs ls hm hP hD hS (lv_sub hl [1, 2, 3, 4, 5, 6, 7] rfl)
                    · replace hm := mC_f hm c86
                      obtain ⟨y6_6, ey6_6⟩ : ∃ y : Int32, y = x6 + 1 := ⟨_, rfl⟩
                      replace hm := mL_e hm y6_6 ey6_6
                      refine lv_iinc (v := y6_6) (lv' := [(6, .int y6_6), (8, .int r_5), (0, .ref a_this), (1, .int x1), (3, .int x3), (4, .int x4), (5, .int x5), (7, .int x7)]) hx hb d_Matches_best_89 hl (k := 6) rfl (by rw [ey6_6]; rfl) (by decide) rfl (fun ls hl => ?_)
                      refine lv_iload hx hb d_Matches_best_92 (lv_at hl 1 rfl) ?_
                      refine lv_iload hx hb d_Matches_best_94 (lv_at hl 5 rfl) ?_
                      refine lv_icmp_le (tgt := 109) hx hb d_Matches_best_96 (by decide) (fun c96 => ?_) (fun c96 => ?_)
                      · replace hm := mC_t hm c96
                        exact h_109 _ _ _ _ _ H locs ls hm hP hD hS (lv_sub hl [2, 3, 4, 5, 6, 0, 7] rfl)
                      · replace hm := mC_f hm c96
                        refine lv_iload hx hb d_Matches_best_99 (lv_at hl 1 rfl) ?_
                        refine lv_istore (lv' := [(4, .int r_5), (6, .int y6_6), (8, .int r_5), (0, .ref a_this), (1, .int x1), (3, .int x3), (5, .int x5), (7, .int x7)]) hx hb d_Matches_best_101 hl (by decide) rfl (fun ls hl => ?_)
                        refine lv_iload_n hx hb d_Matches_best_103 rfl (lv_at hl 4 rfl) ?_
                        refine lv_iload hx hb d_Matches_best_104 (lv_at hl 7 rfl) ?_
                        refine lv_isub hx hb d_Matches_best_106 ?_
                        refine lv_topi (fun y5_7 ey5_7 => ?_)
                        replace hm := mL_e hm y5_7 ey5_7
                        refine lv_istore (lv' := [(5, .int y5_7), (4, .int r_5), (6, .int y6_6), (8, .int r_5), (0, .ref a_this), (1, .int x1), (3, .int x3), (7, .int x7)]) hx hb d_Matches_best_107 hl (by decide) rfl (fun ls hl => ?_)
                        exact h_109 _ _ _ _ _ H locs ls hm hP hD hS (lv_sub hl [4, 5, 6, 1, 0, 2, 7] rfl)
        refine lv_iconst (v := 0) hx hb d_Matches_best_30 (by decide) ?_
        refine lv_istore (lv' := [(4, .int 0), (3, .int y3_2), (0, .ref a_this), (1, .int x1), (2, .int x2)]) hx hb d_Matches_best_31 hl (by decide) rfl (fun ls hl => ?_)
        refine lv_iconst (v := 0) hx hb d_Matches_best_33 (by decide) ?_
        refine lv_istore (lv' := [(5, .int 0), (4, .int 0), (3, .int y3_2), (0, .ref a_this), (1, .int x1), (2, .int x2)]) hx hb d_Matches_best_34 hl (by decide) rfl (fun ls hl => ?_)
        refine lv_iconst (v := 0) hx hb d_Matches_best_36 (by decide) ?_
        refine lv_istore (lv' := [(6, .int 0), (5, .int 0), (4, .int 0), (3, .int y3_2), (0, .ref a_this), (1, .int x1), (2, .int x2)]) hx hb d_Matches_best_37 hl (by decide) rfl (fun ls hl => ?_)
        refine lv_aload_n hx hb d_Matches_best_39 rfl (lv_at hl 4 rfl) ?_
        refine va_get (D := E.1) (ci := 6) (v := .ref a_before) (C := R_Matches) (T := F_Matches) (N := 3) hx hb hts i_Matches hown hK hP 0 rfl rfl 2 (by decide) (hts _ tw_141) (fun _ h9 => h9) rfl d_Matches_best_40 ?_
        refine lv_iload_n hx hb d_Matches_best_43 rfl (lv_at hl 5 rfl) ?_
        obtain ⟨hi44, hm⟩ := mG_e hm
        refine va_iald hx hb hK hP 1 0 rfl rfl hi44 d_Matches_best_44 ?_
        refine lv_iconst (v := 1) hx hb d_Matches_best_45 (by decide) ?_
        refine lv_isub hx hb d_Matches_best_46 ?_
        refine lv_topi (fun y7_8 ey7_8 => ?_)
        replace hm := mL_e hm y7_8 ey7_8
        refine lv_istore (lv' := [(7, .int y7_8), (6, .int 0), (5, .int 0), (4, .int 0), (3, .int y3_2), (0, .ref a_this), (1, .int x1), (2, .int x2)]) hx hb d_Matches_best_47 hl (by decide) rfl (fun ls hl => ?_)
        exact h_49 F _ _ _ _ _ H locs ls hm hP hD hS (lv_sub hl [5, 6, 4, 3, 2, 1, 0] rfl)
      · replace hm := mC_f hm c25
        refine lv_iconst (v := 0) hx hb d_Matches_best_28 (by decide) ?_
        replace hm := Option.some.inj hm
        subst hm
        exact hret d_Matches_best_29 (u := ()) ⟨rfl, rfl⟩ hP hD hS
