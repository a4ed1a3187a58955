theorem d_Header_tell_0 : decode b_Header_tell 0 = .ok (.aload_n 0, 1) := by decide +kernel
theorem d_Header_tell_1 : decode b_Header_tell 1 = .ok (.getfield 99, 3) := by decide +kernel
theorem d_Header_tell_4 : decode b_Header_tell 4 = .ok (.aload_n 0, 1) := by decide +kernel
theorem d_Header_tell_5 : decode b_Header_tell 5 = .ok (.getfield 19, 3) := by decide +kernel
theorem d_Header_tell_8 : decode b_Header_tell 8 = .ok (.arraylength, 1) := by decide +kernel
theorem d_Header_tell_9 : decode b_Header_tell 9 = .ok (.if_icmp .ge 51, 3) := by decide +kernel
theorem d_Header_tell_12 : decode b_Header_tell 12 = .ok (.iload_n 1, 1) := by decide +kernel
theorem d_Header_tell_13 : decode b_Header_tell 13 = .ok (.ifCond .lt 47, 3) := by decide +kernel
theorem d_Header_tell_16 : decode b_Header_tell 16 = .ok (.iload_n 1, 1) := by decide +kernel
theorem d_Header_tell_17 : decode b_Header_tell 17 = .ok (.aload_n 0, 1) := by decide +kernel
theorem d_Header_tell_18 : decode b_Header_tell 18 = .ok (.getfield 22, 3) := by decide +kernel
theorem d_Header_tell_21 : decode b_Header_tell 21 = .ok (.arraylength, 1) := by decide +kernel
theorem d_Header_tell_22 : decode b_Header_tell 22 = .ok (.if_icmp .ge 38, 3) := by decide +kernel
theorem d_Header_tell_25 : decode b_Header_tell 25 = .ok (.aload_n 0, 1) := by decide +kernel
theorem d_Header_tell_26 : decode b_Header_tell 26 = .ok (.getfield 19, 3) := by decide +kernel
theorem d_Header_tell_29 : decode b_Header_tell 29 = .ok (.aload_n 0, 1) := by decide +kernel
theorem d_Header_tell_30 : decode b_Header_tell 30 = .ok (.getfield 99, 3) := by decide +kernel
theorem d_Header_tell_33 : decode b_Header_tell 33 = .ok (.iload_n 1, 1) := by decide +kernel
theorem d_Header_tell_34 : decode b_Header_tell 34 = .ok (.bipush 32, 2) := by decide +kernel
theorem d_Header_tell_36 : decode b_Header_tell 36 = .ok (.iload_n 2, 1) := by decide +kernel
theorem d_Header_tell_37 : decode b_Header_tell 37 = .ok (.imul, 1) := by decide +kernel
theorem d_Header_tell_38 : decode b_Header_tell 38 = .ok (.iadd, 1) := by decide +kernel
theorem d_Header_tell_39 : decode b_Header_tell 39 = .ok (.iastore, 1) := by decide +kernel
theorem d_Header_tell_40 : decode b_Header_tell 40 = .ok (.aload_n 0, 1) := by decide +kernel
theorem d_Header_tell_41 : decode b_Header_tell 41 = .ok (.dup, 1) := by decide +kernel
theorem d_Header_tell_42 : decode b_Header_tell 42 = .ok (.getfield 99, 3) := by decide +kernel
theorem d_Header_tell_45 : decode b_Header_tell 45 = .ok (.iconst 1, 1) := by decide +kernel
theorem d_Header_tell_46 : decode b_Header_tell 46 = .ok (.iadd, 1) := by decide +kernel
theorem d_Header_tell_47 : decode b_Header_tell 47 = .ok (.putfield 99, 3) := by decide +kernel
theorem d_Header_tell_50 : decode b_Header_tell 50 = .ok (.aload_n 0, 1) := by decide +kernel
theorem d_Header_tell_51 : decode b_Header_tell 51 = .ok (.getfield 22, 3) := by decide +kernel
theorem d_Header_tell_54 : decode b_Header_tell 54 = .ok (.iload_n 1, 1) := by decide +kernel
theorem d_Header_tell_55 : decode b_Header_tell 55 = .ok (.dup2, 1) := by decide +kernel
theorem d_Header_tell_56 : decode b_Header_tell 56 = .ok (.iaload, 1) := by decide +kernel
theorem d_Header_tell_57 : decode b_Header_tell 57 = .ok (.iconst 1, 1) := by decide +kernel
theorem d_Header_tell_58 : decode b_Header_tell 58 = .ok (.iadd, 1) := by decide +kernel
theorem d_Header_tell_59 : decode b_Header_tell 59 = .ok (.iastore, 1) := by decide +kernel
theorem d_Header_tell_60 : decode b_Header_tell 60 = .ok (.return_, 1) := by decide +kernel
abbrev Header_tell_w (E : xE) (a_this : Nat) (a_told : Nat) (a_counts : Nat) (x_lists : Value) (x_row : Value) (x_code : Value) (v_toldCount : Int32) (c_told : Nat → Int32) (c_counts : Nat → Int32) (v_rowLength : Int32) (v_symbolLengths : Int32) (v_distanceLengths : Int32) (v_codeLengths : Int32) : va_W := [(a_this, .inr (4, [x_lists, x_row, .ref a_told, .ref a_counts, x_code, .int v_rowLength, .int v_toldCount, .int v_symbolLengths, .int v_distanceLengths, .int v_codeLengths])), (a_told, .inl (E.2.1, 320, .inl c_told)), (a_counts, .inl (E.2.1, 19, .inl c_counts))]
def Header_tell (F : Nat) (v_toldCount : Int32) (c_told : Nat → Int32) (c_counts : Nat → Int32) (x1 : Int32) (x2 : Int32) : Option (Unit × Int32 × (Nat → Int32) × (Nat → Int32)) :=
  mC (320 ≤ v_toldCount) (some ((), v_toldCount, c_told, c_counts)) (mC (x1 < 0) (some ((), v_toldCount, c_told, c_counts)) (mC (19 ≤ x1) (some ((), v_toldCount, c_told, c_counts)) (mL (x1 + (32 * x2)) fun v_1 => mG v_toldCount 320 (mL (upd c_told v_toldCount.toNatClampNeg v_1) fun c_2 => mL (v_toldCount + 1) fun v_3 => mG x1 19 (mL ((c_counts x1.toNatClampNeg) + 1) fun v_4 => mG x1 19 (mL (upd c_counts x1.toNatClampNeg v_4) fun c_5 => some ((), v_3, c_2, c_5)))))))
abbrev Header_tell_rm : Room := { frames := 0, cells := 0, slots := 0, locals := 0 }
set_option maxHeartbeats 4000000 in
set_option maxRecDepth 100000 in
theorem c_Header_tell (l : Launch) (E : xE) (F sz : Nat) (a_this : Nat) (a_told : Nat) (a_counts : Nat) (x_lists : Value) (x_row : Value) (x_code : Value) (v_toldCount : Int32) (c_told : Nat → Int32) (c_counts : Nat → Int32) (v_rowLength : Int32) (v_symbolLengths : Int32) (v_distanceLengths : Int32) (v_codeLengths : Int32) (x1 : Int32) (x2 : Int32) (res : Unit × Int32 × (Nat → Int32) × (Nat → Int32)) (hm : Header_tell F v_toldCount c_told c_counts x1 x2 = some res) : Met l y_Header_tell (Cond.code y_Header_tell b_Header_tell 3 none :: x_tb) Header_tell_rm (va_Pc [.ref a_this, .int x1, .int x2] (xPre E (Header_tell_w E a_this a_told a_counts x_lists x_row x_code v_toldCount c_told c_counts v_rowLength v_symbolLengths v_distanceLengths v_codeLengths) sz)) (xQv E (fun (u : Int32 × (Nat → Int32) × (Nat → Int32)) => u = res.2) (fun (u : Int32 × (Nat → Int32) × (Nat → Int32)) => (Header_tell_w E a_this a_told a_counts x_lists x_row x_code u.1 u.2.1 u.2.2 v_rowLength v_symbolLengths v_distanceLengths v_codeLengths)) (va_A (Header_tell_w E a_this a_told a_counts x_lists x_row x_code v_toldCount c_told c_counts v_rowLength v_symbolLengths v_distanceLengths v_codeLengths) sz)) 0 0 (va_A (Header_tell_w E a_this a_told a_counts x_lists x_row x_code v_toldCount c_told c_counts v_rowLength v_symbolLengths v_distanceLengths v_codeLengths) sz) := by
  refine xEnV (by decide) (Nat.le_of_ble_eq_true rfl) ?_
  intro p e s m args below meth c A ls Q hx hb hnm hts hown hml hK hA hI hN hret hP hD hS hl
  replace hown : s.vm.findClass R_Header = some m.cls := hown
  replace hl : lv_has ls 3 [(0, .ref a_this), (1, .int x1), (2, .int x2)] := hl
  obtain ⟨H, eH⟩ : ∃ z, z = s.heap := ⟨_, rfl⟩
  obtain ⟨locs, eL⟩ : ∃ z : List Loc, z = [] := ⟨_, rfl⟩
  rw [show W p l e Header_tell_rm s m args below meth c s.heap [] 0 0 Q (F0 m 0 ls []) = W p l e Header_tell_rm s m args below meth c H locs 0 0 Q (F0 m 0 ls []) by rw [eH, eL]]
  replace hP : va_P E.1 vwCl (Header_tell_w E a_this a_told a_counts x_lists x_row x_code v_toldCount c_told c_counts v_rowLength v_symbolLengths v_distanceLengths v_codeLengths) H := by rw [eH]; exact hP
  replace hS : va_S A s.heap H locs := by rw [eH, eL]; exact hS
  clear eH eL
  rw [Header_tell] at hm
  refine lv_aload_n hx hb d_Header_tell_0 rfl (lv_at hl 0 rfl) ?_
  refine va_get (D := E.1) (ci := 4) (v := .int v_toldCount) (C := R_Header) (T := F_Header) (N := 10) hx hb hts i_Header hown hK hP 0 rfl rfl 6 (by decide) (hts _ tw_208) (fun _ h9 => h9) rfl d_Header_tell_1 ?_
  refine lv_aload_n hx hb d_Header_tell_4 rfl (lv_at hl 0 rfl) ?_
  refine va_get (D := E.1) (ci := 4) (v := .ref a_told) (C := R_Header) (T := F_Header) (N := 10) hx hb hts i_Header hown hK hP 0 rfl rfl 2 (by decide) (hts _ tw_204) (fun _ h9 => h9) rfl d_Header_tell_5 ?_
  refine va_alen (v := 320) hx hb hK hP 1 0 rfl rfl rfl d_Header_tell_8 ?_
  refine lv_icmp_ge (tgt := 60) hx hb d_Header_tell_9 (by decide) (fun c9 => ?_) (fun c9 => ?_)
  · replace hm := mC_t hm c9
    replace hm := Option.some.inj hm
    subst hm
    exact hret d_Header_tell_60 (u := (v_toldCount, c_told, c_counts)) rfl hP hD hS
  · replace hm := mC_f hm c9
    refine lv_iload_n hx hb d_Header_tell_12 rfl (lv_at hl 1 rfl) ?_
    refine lv_if_lt (tgt := 60) hx hb d_Header_tell_13 (by decide) (fun c13 => ?_) (fun c13 => ?_)
    · replace hm := mC_t hm c13
      replace hm := Option.some.inj hm
      subst hm
      exact hret d_Header_tell_60 (u := (v_toldCount, c_told, c_counts)) rfl hP hD hS
    · replace hm := mC_f hm c13
      refine lv_iload_n hx hb d_Header_tell_16 rfl (lv_at hl 1 rfl) ?_
      refine lv_aload_n hx hb d_Header_tell_17 rfl (lv_at hl 0 rfl) ?_
      refine va_get (D := E.1) (ci := 4) (v := .ref a_counts) (C := R_Header) (T := F_Header) (N := 10) hx hb hts i_Header hown hK hP 0 rfl rfl 3 (by decide) (hts _ tw_205) (fun _ h9 => h9) rfl d_Header_tell_18 ?_
      refine va_alen (v := 19) hx hb hK hP 2 0 rfl rfl rfl d_Header_tell_21 ?_
      refine lv_icmp_ge (tgt := 60) hx hb d_Header_tell_22 (by decide) (fun c22 => ?_) (fun c22 => ?_)
      · replace hm := mC_t hm c22
        replace hm := Option.some.inj hm
        subst hm
        exact hret d_Header_tell_60 (u := (v_toldCount, c_told, c_counts)) rfl hP hD hS
      · replace hm := mC_f hm c22
        refine lv_aload_n hx hb d_Header_tell_25 rfl (lv_at hl 0 rfl) ?_
        refine va_get (D := E.1) (ci := 4) (v := .ref a_told) (C := R_Header) (T := F_Header) (N := 10) hx hb hts i_Header hown hK hP 0 rfl rfl 2 (by decide) (hts _ tw_204) (fun _ h9 => h9) rfl d_Header_tell_26 ?_
        refine lv_aload_n hx hb d_Header_tell_29 rfl (lv_at hl 0 rfl) ?_
        refine va_get (D := E.1) (ci := 4) (v := .int v_toldCount) (C := R_Header) (T := F_Header) (N := 10) hx hb hts i_Header hown hK hP 0 rfl rfl 6 (by decide) (hts _ tw_208) (fun _ h9 => h9) rfl d_Header_tell_30 ?_
        refine lv_iload_n hx hb d_Header_tell_33 rfl (lv_at hl 1 rfl) ?_
        refine lv_bipush (v := 32) hx hb d_Header_tell_34 (by decide) ?_
        refine lv_iload_n hx hb d_Header_tell_36 rfl (lv_at hl 2 rfl) ?_
        refine lv_imul hx hb d_Header_tell_37 ?_
        refine lv_iadd hx hb d_Header_tell_38 ?_
        refine lv_topi (fun v_1 ev_1 => ?_)
        replace hm := mL_e hm v_1 ev_1
        obtain ⟨hi39, hm⟩ := mG_e hm
        obtain ⟨c_2, ec_2⟩ : ∃ z : Nat → Int32, z = upd c_told v_toldCount.toNatClampNeg v_1 := ⟨_, rfl⟩
        replace hm := mL_e hm c_2 ec_2
        refine va_iast hx hb hK hP hD hS 1 0 rfl rfl hi39 d_Header_tell_39 (fun H locs hP hD hS => ?_)
        rw [← ec_2] at hP hD
        replace hP : va_P E.1 vwCl (Header_tell_w E a_this a_told a_counts x_lists x_row x_code v_toldCount c_2 c_counts v_rowLength v_symbolLengths v_distanceLengths v_codeLengths) H := hP
        replace hD : va_D A (Header_tell_w E a_this a_told a_counts x_lists x_row x_code v_toldCount c_2 c_counts v_rowLength v_symbolLengths v_distanceLengths v_codeLengths) := hD
        refine lv_aload_n hx hb d_Header_tell_40 rfl (lv_at hl 0 rfl) ?_
        refine lv_dup hx hb d_Header_tell_41 rfl ?_
        refine va_get (D := E.1) (ci := 4) (v := .int v_toldCount) (C := R_Header) (T := F_Header) (N := 10) hx hb hts i_Header hown hK hP 0 rfl rfl 6 (by decide) (hts _ tw_208) (fun _ h9 => h9) rfl d_Header_tell_42 ?_
        refine lv_iconst (v := 1) hx hb d_Header_tell_45 (by decide) ?_
        refine lv_iadd hx hb d_Header_tell_46 ?_
        refine lv_topi (fun v_3 ev_3 => ?_)
        replace hm := mL_e hm v_3 ev_3
        refine va_put (D := E.1) (ci := 4) (v := .int v_3) (ty := .int) (C := R_Header) (T := F_Header) (N := 10) hx hb hts i_Header t_Header t_Header_ok n_Header hown hK hP hD hS 0 rfl rfl 6 (by decide) (hts _ tw_208) (fun _ h9 => h9) rfl (by decide +kernel) rfl rfl (Nat.le_of_ble_eq_true rfl) d_Header_tell_47 (fun H locs hP hD hS => ?_)
        replace hP : va_P E.1 vwCl (Header_tell_w E a_this a_told a_counts x_lists x_row x_code v_3 c_2 c_counts v_rowLength v_symbolLengths v_distanceLengths v_codeLengths) H := hP
        replace hD : va_D A (Header_tell_w E a_this a_told a_counts x_lists x_row x_code v_3 c_2 c_counts v_rowLength v_symbolLengths v_distanceLengths v_codeLengths) := hD
        refine lv_aload_n hx hb d_Header_tell_50 rfl (lv_at hl 0 rfl) ?_
        refine va_get (D := E.1) (ci := 4) (v := .ref a_counts) (C := R_Header) (T := F_Header) (N := 10) hx hb hts i_Header hown hK hP 0 rfl rfl 3 (by decide) (hts _ tw_205) (fun _ h9 => h9) rfl d_Header_tell_51 ?_
        refine lv_iload_n hx hb d_Header_tell_54 rfl (lv_at hl 1 rfl) ?_
        refine lv_dup2_11 hx hb d_Header_tell_55 rfl rfl ?_
        obtain ⟨hi56, hm⟩ := mG_e hm
        refine va_iald hx hb hK hP 2 0 rfl rfl hi56 d_Header_tell_56 ?_
        refine lv_iconst (v := 1) hx hb d_Header_tell_57 (by decide) ?_
        refine lv_iadd hx hb d_Header_tell_58 ?_
        refine lv_topi (fun v_4 ev_4 => ?_)
        replace hm := mL_e hm v_4 ev_4
        obtain ⟨hi59, hm⟩ := mG_e hm
        obtain ⟨c_5, ec_5⟩ : ∃ z : Nat → Int32, z = upd c_counts x1.toNatClampNeg v_4 := ⟨_, rfl⟩
        replace hm := mL_e hm c_5 ec_5
        refine va_iast hx hb hK hP hD hS 2 0 rfl rfl hi59 d_Header_tell_59 (fun H locs hP hD hS => ?_)
        rw [← ec_5] at hP hD
        replace hP : va_P E.1 vwCl (Header_tell_w E a_this a_told a_counts x_lists x_row x_code v_3 c_2 c_5 v_rowLength v_symbolLengths v_distanceLengths v_codeLengths) H := hP
        replace hD : va_D A (Header_tell_w E a_this a_told a_counts x_lists x_row x_code v_3 c_2 c_5 v_rowLength v_symbolLengths v_distanceLengths v_codeLengths) := hD
        replace hm := Option.some.inj hm
        subst hm
        exact hret d_Header_tell_60 (u := (v_3, c_2, c_5)) rfl hP hD hS
theorem d_Header_tellStretch_0 : decode b_Header_tellStretch 0 = .ok (.iload_n 2, 1) := by decide +kernel
theorem d_Header_tellStretch_1 : decode b_Header_tellStretch 1 = .ok (.istore_n 3, 1) := by decide +kernel
theorem d_Header_tellStretch_2 : decode b_Header_tellStretch 2 = .ok (.iload_n 1, 1) := by decide +kernel
theorem d_Header_tellStretch_3 : decode b_Header_tellStretch 3 = .ok (.ifCond .le 12, 3) := by decide +kernel
theorem d_Header_tellStretch_6 : decode b_Header_tellStretch 6 = .ok (.aload_n 0, 1) := by decide +kernel
theorem d_Header_tellStretch_7 : decode b_Header_tellStretch 7 = .ok (.iload_n 1, 1) := by decide +kernel
theorem d_Header_tellStretch_8 : decode b_Header_tellStretch 8 = .ok (.iconst 0, 1) := by decide +kernel
theorem d_Header_tellStretch_9 : decode b_Header_tellStretch 9 = .ok (.invokevirtual 106, 3) := by decide +kernel
theorem d_Header_tellStretch_12 : decode b_Header_tellStretch 12 = .ok (.iinc 3 (-1), 3) := by decide +kernel
theorem d_Header_tellStretch_15 : decode b_Header_tellStretch 15 = .ok (.iload_n 3, 1) := by decide +kernel
theorem d_Header_tellStretch_16 : decode b_Header_tellStretch 16 = .ok (.ifCond .le 106, 3) := by decide +kernel
theorem d_Header_tellStretch_19 : decode b_Header_tellStretch 19 = .ok (.iload_n 3, 1) := by decide +kernel
theorem d_Header_tellStretch_20 : decode b_Header_tellStretch 20 = .ok (.iconst 3, 1) := by decide +kernel
theorem d_Header_tellStretch_21 : decode b_Header_tellStretch 21 = .ok (.if_icmp .ge 7, 3) := by decide +kernel
theorem d_Header_tellStretch_24 : decode b_Header_tellStretch 24 = .ok (.iload_n 1, 1) := by decide +kernel
theorem d_Header_tellStretch_25 : decode b_Header_tellStretch 25 = .ok (.goto 25, 3) := by decide +kernel
theorem d_Header_tellStretch_28 : decode b_Header_tellStretch 28 = .ok (.iload_n 1, 1) := by decide +kernel
theorem d_Header_tellStretch_29 : decode b_Header_tellStretch 29 = .ok (.ifCond .le 8, 3) := by decide +kernel
theorem d_Header_tellStretch_32 : decode b_Header_tellStretch 32 = .ok (.bipush 16, 2) := by decide +kernel
theorem d_Header_tellStretch_34 : decode b_Header_tellStretch 34 = .ok (.goto 16, 3) := by decide +kernel
theorem d_Header_tellStretch_37 : decode b_Header_tellStretch 37 = .ok (.iload_n 3, 1) := by decide +kernel
theorem d_Header_tellStretch_38 : decode b_Header_tellStretch 38 = .ok (.bipush 11, 2) := by decide +kernel
theorem d_Header_tellStretch_40 : decode b_Header_tellStretch 40 = .ok (.if_icmp .ge 8, 3) := by decide +kernel
theorem d_Header_tellStretch_43 : decode b_Header_tellStretch 43 = .ok (.bipush 17, 2) := by decide +kernel
theorem d_Header_tellStretch_45 : decode b_Header_tellStretch 45 = .ok (.goto 5, 3) := by decide +kernel
theorem d_Header_tellStretch_48 : decode b_Header_tellStretch 48 = .ok (.bipush 18, 2) := by decide +kernel
theorem d_Header_tellStretch_50 : decode b_Header_tellStretch 50 = .ok (.istore 4, 2) := by decide +kernel
theorem d_Header_tellStretch_52 : decode b_Header_tellStretch 52 = .ok (.iload 4, 2) := by decide +kernel
theorem d_Header_tellStretch_54 : decode b_Header_tellStretch 54 = .ok (.bipush 16, 2) := by decide +kernel
theorem d_Header_tellStretch_56 : decode b_Header_tellStretch 56 = .ok (.if_icmp .ge 7, 3) := by decide +kernel
theorem d_Header_tellStretch_59 : decode b_Header_tellStretch 59 = .ok (.iconst 1, 1) := by decide +kernel
theorem d_Header_tellStretch_60 : decode b_Header_tellStretch 60 = .ok (.goto 30, 3) := by decide +kernel
theorem d_Header_tellStretch_63 : decode b_Header_tellStretch 63 = .ok (.iload 4, 2) := by decide +kernel
theorem d_Header_tellStretch_65 : decode b_Header_tellStretch 65 = .ok (.bipush 16, 2) := by decide +kernel
theorem d_Header_tellStretch_67 : decode b_Header_tellStretch 67 = .ok (.if_icmp .ne 8, 3) := by decide +kernel
theorem d_Header_tellStretch_70 : decode b_Header_tellStretch 70 = .ok (.bipush 6, 2) := by decide +kernel
theorem d_Header_tellStretch_72 : decode b_Header_tellStretch 72 = .ok (.goto 18, 3) := by decide +kernel
theorem d_Header_tellStretch_75 : decode b_Header_tellStretch 75 = .ok (.iload 4, 2) := by decide +kernel
theorem d_Header_tellStretch_77 : decode b_Header_tellStretch 77 = .ok (.bipush 17, 2) := by decide +kernel
theorem d_Header_tellStretch_79 : decode b_Header_tellStretch 79 = .ok (.if_icmp .ne 8, 3) := by decide +kernel
theorem d_Header_tellStretch_82 : decode b_Header_tellStretch 82 = .ok (.bipush 10, 2) := by decide +kernel
theorem d_Header_tellStretch_84 : decode b_Header_tellStretch 84 = .ok (.goto 6, 3) := by decide +kernel
theorem d_Header_tellStretch_87 : decode b_Header_tellStretch 87 = .ok (.sipush 138, 3) := by decide +kernel
theorem d_Header_tellStretch_90 : decode b_Header_tellStretch 90 = .ok (.istore 5, 2) := by decide +kernel
theorem d_Header_tellStretch_92 : decode b_Header_tellStretch 92 = .ok (.iload_n 3, 1) := by decide +kernel
theorem d_Header_tellStretch_93 : decode b_Header_tellStretch 93 = .ok (.iload 5, 2) := by decide +kernel
theorem d_Header_tellStretch_95 : decode b_Header_tellStretch 95 = .ok (.invokestatic 87, 3) := by decide +kernel
theorem d_Header_tellStretch_98 : decode b_Header_tellStretch 98 = .ok (.istore 6, 2) := by decide +kernel
theorem d_Header_tellStretch_100 : decode b_Header_tellStretch 100 = .ok (.aload_n 0, 1) := by decide +kernel
theorem d_Header_tellStretch_101 : decode b_Header_tellStretch 101 = .ok (.iload 4, 2) := by decide +kernel
theorem d_Header_tellStretch_103 : decode b_Header_tellStretch 103 = .ok (.iload 6, 2) := by decide +kernel
theorem d_Header_tellStretch_105 : decode b_Header_tellStretch 105 = .ok (.iload 4, 2) := by decide +kernel
theorem d_Header_tellStretch_107 : decode b_Header_tellStretch 107 = .ok (.invokestatic 109, 3) := by decide +kernel
theorem d_Header_tellStretch_110 : decode b_Header_tellStretch 110 = .ok (.isub, 1) := by decide +kernel
theorem d_Header_tellStretch_111 : decode b_Header_tellStretch 111 = .ok (.invokevirtual 106, 3) := by decide +kernel
theorem d_Header_tellStretch_114 : decode b_Header_tellStretch 114 = .ok (.iload_n 3, 1) := by decide +kernel
theorem d_Header_tellStretch_115 : decode b_Header_tellStretch 115 = .ok (.iload 6, 2) := by decide +kernel
theorem d_Header_tellStretch_117 : decode b_Header_tellStretch 117 = .ok (.isub, 1) := by decide +kernel
theorem d_Header_tellStretch_118 : decode b_Header_tellStretch 118 = .ok (.istore_n 3, 1) := by decide +kernel
theorem d_Header_tellStretch_119 : decode b_Header_tellStretch 119 = .ok (.goto (-104), 3) := by decide +kernel
theorem d_Header_tellStretch_122 : decode b_Header_tellStretch 122 = .ok (.return_, 1) := by decide +kernel
def Header_tellStretch_90 (F : Nat) (k_15 : Int32 → (Nat → Int32) → (Nat → Int32) → Int32 → Option (Unit × Int32 × (Nat → Int32) × (Nat → Int32))) (v_toldCount : Int32) (c_told : Nat → Int32) (c_counts : Nat → Int32) (x3 : Int32) (x4 : Int32) (s0 : Int32) : Option (Unit × Int32 × (Nat → Int32) × (Nat → Int32)) :=
  mL (if s0 < x3 then s0 else x3) fun y6_1 => mR0 (P_repeatBase F x4) fun r_2 => mL (y6_1 - r_2) fun t_3 => mR3 (Header_tell F v_toldCount c_told c_counts x4 t_3) fun _ v_toldCount_4 c_told_5 c_counts_6 => mL (x3 - y6_1) fun y3_8 => k_15 v_toldCount_4 c_told_5 c_counts_6 y3_8
def Header_tellStretch_50 (F : Nat) (k_15 : Int32 → (Nat → Int32) → (Nat → Int32) → Int32 → Option (Unit × Int32 × (Nat → Int32) × (Nat → Int32))) (v_toldCount : Int32) (c_told : Nat → Int32) (c_counts : Nat → Int32) (x3 : Int32) (s0 : Int32) : Option (Unit × Int32 × (Nat → Int32) × (Nat → Int32)) :=
  mC (16 ≤ s0) (mC (s0 = 16) ((Header_tellStretch_90 F k_15) v_toldCount c_told c_counts x3 s0 6) (mC (s0 = 17) ((Header_tellStretch_90 F k_15) v_toldCount c_told c_counts x3 s0 10) ((Header_tellStretch_90 F k_15) v_toldCount c_told c_counts x3 s0 138))) ((Header_tellStretch_90 F k_15) v_toldCount c_told c_counts x3 s0 1)
def Header_tellStretch_15 (F : Nat) (x1 : Int32) (k_15 : Int32 → (Nat → Int32) → (Nat → Int32) → Int32 → Option (Unit × Int32 × (Nat → Int32) × (Nat → Int32))) (v_toldCount : Int32) (c_told : Nat → Int32) (c_counts : Nat → Int32) (x3 : Int32) : Option (Unit × Int32 × (Nat → Int32) × (Nat → Int32)) :=
  mC (x3 ≤ 0) (some ((), v_toldCount, c_told, c_counts)) (mC (3 ≤ x3) (mC (x1 ≤ 0) (mC (11 ≤ x3) ((Header_tellStretch_50 F k_15) v_toldCount c_told c_counts x3 18) ((Header_tellStretch_50 F k_15) v_toldCount c_told c_counts x3 17)) ((Header_tellStretch_50 F k_15) v_toldCount c_told c_counts x3 16)) ((Header_tellStretch_50 F k_15) v_toldCount c_told c_counts x3 x1))
abbrev Header_tellStretch_w (E : xE) (a_this : Nat) (a_told : Nat) (a_counts : Nat) (x_lists : Value) (x_row : Value) (x_code : Value) (v_toldCount : Int32) (c_told : Nat → Int32) (c_counts : Nat → Int32) (v_rowLength : Int32) (v_symbolLengths : Int32) (v_distanceLengths : Int32) (v_codeLengths : Int32) : va_W := [(a_this, .inr (4, [x_lists, x_row, .ref a_told, .ref a_counts, x_code, .int v_rowLength, .int v_toldCount, .int v_symbolLengths, .int v_distanceLengths, .int v_codeLengths])), (a_told, .inl (E.2.1, 320, .inl c_told)), (a_counts, .inl (E.2.1, 19, .inl c_counts))]
def Header_tellStretch (F : Nat) (v_toldCount : Int32) (c_told : Nat → Int32) (c_counts : Nat → Int32) (x1 : Int32) (x2 : Int32) : Option (Unit × Int32 × (Nat → Int32) × (Nat → Int32)) :=
  mC (x1 ≤ 0) ((mW4 (Header_tellStretch_15 F x1) F) v_toldCount c_told c_counts x2) (mR3 (Header_tell F v_toldCount c_told c_counts x1 0) fun _ v_toldCount_9 c_told_10 c_counts_11 => mL (x2 + (-1)) fun y3_13 => (mW4 (Header_tellStretch_15 F x1) F) v_toldCount_9 c_told_10 c_counts_11 y3_13)
abbrev Header_tellStretch_rm : Room := { frames := 1, cells := 0, slots := 0, locals := 22 }
set_option maxHeartbeats 4000000 in
set_option maxRecDepth 100000 in
theorem c_Header_tellStretch (l : Launch) (E : xE) (F sz : Nat) (a_this : Nat) (a_told : Nat) (a_counts : Nat) (x_lists : Value) (x_row : Value) (x_code : Value) (v_toldCount : Int32) (c_told : Nat → Int32) (c_counts : Nat → Int32) (v_rowLength : Int32) (v_symbolLengths : Int32) (v_distanceLengths : Int32) (v_codeLengths : Int32) (x1 : Int32) (x2 : Int32) (res : Unit × Int32 × (Nat → Int32) × (Nat → Int32)) (hm : Header_tellStretch F v_toldCount c_told c_counts x1 x2 = some res) : Met l y_Header_tellStretch (Cond.code y_Header_tellStretch b_Header_tellStretch 7 none :: x_tb) Header_tellStretch_rm (va_Pc [.ref a_this, .int x1, .int x2] (xPre E (Header_tellStretch_w E a_this a_told a_counts x_lists x_row x_code v_toldCount c_told c_counts v_rowLength v_symbolLengths v_distanceLengths v_codeLengths) sz)) (xQv E (fun (u : Int32 × (Nat → Int32) × (Nat → Int32)) => u = res.2) (fun (u : Int32 × (Nat → Int32) × (Nat → Int32)) => (Header_tellStretch_w E a_this a_told a_counts x_lists x_row x_code u.1 u.2.1 u.2.2 v_rowLength v_symbolLengths v_distanceLengths v_codeLengths)) (va_A (Header_tellStretch_w E a_this a_told a_counts x_lists x_row x_code v_toldCount c_told c_counts v_rowLength v_symbolLengths v_distanceLengths v_codeLengths) sz)) 0 0 (va_A (Header_tellStretch_w E a_this a_told a_counts x_lists x_row x_code v_toldCount c_told c_counts v_rowLength v_symbolLengths v_distanceLengths v_codeLengths) sz) := by
  refine xEnV (by decide) (Nat.le_of_ble_eq_true rfl) ?_
  intro p e s m args below meth c A ls Q hx hb hnm hts hown hml hK hA hI hN hret hP hD hS hl
  replace hown : s.vm.findClass R_Header = some m.cls := hown
  replace hl : lv_has ls 7 [(0, .ref a_this), (1, .int x1), (2, .int x2)] := hl
  obtain ⟨H, eH⟩ : ∃ z, z = s.heap := ⟨_, rfl⟩
  obtain ⟨locs, eL⟩ : ∃ z : List Loc, z = [] := ⟨_, rfl⟩
  rw [show W p l e Header_tellStretch_rm s m args below meth c s.heap [] 0 0 Q (F0 m 0 ls []) = W p l e Header_tellStretch_rm s m args below meth c H locs 0 0 Q (F0 m 0 ls []) by rw [eH, eL]]
  replace hP : va_P E.1 vwCl (Header_tellStretch_w E a_this a_told a_counts x_lists x_row x_code v_toldCount c_told c_counts v_rowLength v_symbolLengths v_distanceLengths v_codeLengths) H := by rw [eH]; exact hP
  replace hS : va_S A s.heap H locs := by rw [eH, eL]; exact hS
  clear eH eL
  rw [Header_tellStretch] at hm
  have h_15 : ∀ (n_15 : Nat) (v_toldCount : Int32) (c_told : Nat → Int32) (c_counts : Nat → Int32) (x3 : Int32) (H : Heap) (locs : List Loc) (ls : Array Slot), (mW4 (Header_tellStretch_15 F x1) n_15) v_toldCount c_told c_counts x3 = some res → va_P E.1 vwCl (Header_tellStretch_w E a_this a_told a_counts x_lists x_row x_code v_toldCount c_told c_counts v_rowLength v_symbolLengths v_distanceLengths v_codeLengths) H → va_D A (Header_tellStretch_w E a_this a_told a_counts x_lists x_row x_code v_toldCount c_told c_counts v_rowLength v_symbolLengths v_distanceLengths v_codeLengths) → va_S A s.heap H locs → lv_has ls 7 [(0, .ref a_this), (1, .int x1), (3, .int x3)] → W p l e Header_tellStretch_rm s m args below meth c H locs 0 0 Q (F0 m 15 ls []) := by
    intro n_15
    induction n_15 with
    | zero => exact fun _ _ _ _ _ _ _ hm _ _ _ _ => (mW4_z hm).elim
    | succ n_15 ih_15 =>
      intro v_toldCount c_told c_counts x3 H locs ls hm hP hD hS hl
      replace hm := mW4_s hm
      rw [Header_tellStretch_15] at hm
      refine lv_iload_n hx hb d_Header_tellStretch_15 rfl (lv_at hl 2 rfl) ?_
      refine lv_if_le (tgt := 122) hx hb d_Header_tellStretch_16 (by decide) (fun c16 => ?_) (fun c16 => ?_)
      · replace hm := mC_t hm c16
        replace hm := Option.some.inj hm
        subst hm
        exact hret d_Header_tellStretch_122 (u := (v_toldCount, c_told, c_counts)) rfl hP hD hS
      · replace hm := mC_f hm c16
        have h_50 : ∀ (v_toldCount : Int32) (c_told : Nat → Int32) (c_counts : Nat → Int32) (x3 : Int32) (s0 : Int32) (H : Heap) (locs : List Loc) (ls : Array Slot), (Header_tellStretch_50 F (mW4 (Header_tellStretch_15 F x1) n_15)) v_toldCount c_told c_counts x3 s0 = some res → va_P E.1 vwCl (Header_tellStretch_w E a_this a_told a_counts x_lists x_row x_code v_toldCount c_told c_counts v_rowLength v_symbolLengths v_distanceLengths v_codeLengths) H → va_D A (Header_tellStretch_w E a_this a_told a_counts x_lists x_row x_code v_toldCount c_told c_counts v_rowLength v_symbolLengths v_distanceLengths v_codeLengths) → va_S A s.heap H locs → lv_has ls 7 [(0, .ref a_this), (1, .int x1), (3, .int x3)] → W p l e Header_tellStretch_rm s m args below meth c H locs 0 0 Q (F0 m 50 ls [.int s0]) := by
          intro v_toldCount c_told c_counts x3 s0 H locs ls hm hP hD hS hl
          rw [Header_tellStretch_50] at hm
          have h_90 : ∀ (v_toldCount : Int32) (c_told : Nat → Int32) (c_counts : Nat → Int32) (x3 : Int32) (x4 : Int32) (s0 : Int32) (H : Heap) (locs : List Loc) (ls : Array Slot), (Header_tellStretch_90 F (mW4 (Header_tellStretch_15 F x1) n_15)) v_toldCount c_told c_counts x3 x4 s0 = some res → va_P E.1 vwCl (Header_tellStretch_w E a_this a_told a_counts x_lists x_row x_code v_toldCount c_told c_counts v_rowLength v_symbolLengths v_distanceLengths v_codeLengths) H → va_D A (Header_tellStretch_w E a_this a_told a_counts x_lists x_row x_code v_toldCount c_told c_counts v_rowLength v_symbolLengths v_distanceLengths v_codeLengths) → va_S A s.heap H locs → lv_has ls 7 [(0, .ref a_this), (1, .int x1), (3, .int x3), (4, .int x4)] → W p l e Header_tellStretch_rm s m args below meth c H locs 0 0 Q (F0 m 90 ls [.int s0]) := by
            intro v_toldCount c_told c_counts x3 x4 s0 H locs ls hm hP hD hS hl
            rw [Header_tellStretch_90] at hm
            refine lv_istore (lv' := [(5, .int s0), (0, .ref a_this), (1, .int x1), (3, .int x3), (4, .int x4)]) hx hb d_Header_tellStretch_90 hl (by decide) rfl (fun ls hl => ?_)
            refine lv_iload_n hx hb d_Header_tellStretch_92 rfl (lv_at hl 3 rfl) ?_
            refine lv_iload hx hb d_Header_tellStretch_93 (lv_at hl 0 rfl) ?_
            refine va_mmin hx hb (hml.trans hl.1.symm) hown (hts _ tw_547) (hts _ tw_458) (hts _ tw_68) (hts _ tw_459) (Nat.le_of_ble_eq_true rfl) (Nat.le_of_ble_eq_true rfl) (Nat.le_of_ble_eq_true rfl) (Nat.le_of_ble_eq_true rfl) d_Header_tellStretch_95 ?_
            refine lv_topi (fun y6_1 ey6_1 => ?_)
            replace hm := mL_e hm y6_1 ey6_1
            refine lv_istore (lv' := [(6, .int y6_1), (5, .int s0), (0, .ref a_this), (1, .int x1), (3, .int x3), (4, .int x4)]) hx hb d_Header_tellStretch_98 hl (by decide) rfl (fun ls hl => ?_)
            refine lv_aload_n hx hb d_Header_tellStretch_100 rfl (lv_at hl 2 rfl) ?_
            refine lv_iload hx hb d_Header_tellStretch_101 (lv_at hl 5 rfl) ?_
            refine lv_iload hx hb d_Header_tellStretch_103 (lv_at hl 0 rfl) ?_
            refine lv_iload hx hb d_Header_tellStretch_105 (lv_at hl 5 rfl) ?_
            obtain ⟨r_2, hc107, hm⟩ := mR0_e hm
            refine xmi (wc := (P_repeatBase_w E)) [false, false, false] [] [] hP hD hS hA rfl (by decide) (by decide) 0 (by decide) (fun _ => rfl) (fun hPc hDc hFc => va_runSN (As := [.int x4]) (rest := [.int y6_1, .int x4, .ref a_this]) ⟨hx, hb, hml, hown, hts⟩ (c_P_repeatBase l E F H.size x4 (r_2, ()) hc107) ⟨(va_cnB 1 hts (x_g tw_567) rfl rfl rfl (nM_6 hN) (hts _ tw_66) (by decide +kernel) ⟨Nat.le_of_ble_eq_true rfl, Nat.le_of_ble_eq_true rfl⟩), (hts _ tw_566), trivial⟩ (xPS hPc hDc hFc hK hI hN hS) rfl rfl hl.1 rfl (lv_room (Nat.le_of_ble_eq_true rfl)) d_Header_tellStretch_107 ⟨Nat.le_of_ble_eq_true rfl, Nat.le_of_ble_eq_true rfl⟩) (fun r9 u9 H locs hw hP hD hS => ?_)
            have hw1 : r_2 = r9 := hw.1.symm
            subst hw1
            replace hP : va_P E.1 vwCl (Header_tellStretch_w E a_this a_told a_counts x_lists x_row x_code v_toldCount c_told c_counts v_rowLength v_symbolLengths v_distanceLengths v_codeLengths) H := hP
            replace hD : va_D A (Header_tellStretch_w E a_this a_told a_counts x_lists x_row x_code v_toldCount c_told c_counts v_rowLength v_symbolLengths v_distanceLengths v_codeLengths) := hD
            refine lv_isub hx hb d_Header_tellStretch_110 ?_
            obtain ⟨t_3, et_3⟩ : ∃ z : Int32, z = y6_1 - r_2 := ⟨_, rfl⟩
            rw [← et_3]
            replace hm := mL_e hm t_3 et_3
            obtain ⟨r_7, v_toldCount_4, c_told_5, c_counts_6, hc111, hm⟩ := mR3_e hm
            refine xmv (wc := (Header_tell_w E a_this a_told a_counts x_lists x_row x_code v_toldCount c_told c_counts v_rowLength v_symbolLengths v_distanceLengths v_codeLengths)) [true, true, true] [0, 1, 2] [0, 1, 2] hP hD hS hA rfl (by decide) (by decide) 3 (by decide) (fun _ => rfl) (fun hPc hDc hFc => va_runV (As := [.int x4, .int t_3]) (rest := []) ⟨hx, hb, hml, hown, hts⟩ (c_Header_tell l E F H.size a_this a_told a_counts x_lists x_row x_code v_toldCount c_told c_counts v_rowLength v_symbolLengths v_distanceLengths v_codeLengths x4 t_3 (r_7, v_toldCount_4, c_told_5, c_counts_6) hc111) (cwV 2 hts (x_gV tw_561 tw_563 tw_15 tw_73 tw_564) rfl rfl rfl (by decide +kernel) ⟨Nat.le_of_ble_eq_true rfl, Nat.le_of_ble_eq_true rfl⟩) (xPV 4 0 rfl rfl hPc hDc hFc hK hI hN hS) rfl rfl hl.1 rfl (lv_room (Nat.le_of_ble_eq_true rfl)) d_Header_tellStretch_111 ⟨Nat.le_of_ble_eq_true rfl, Nat.le_of_ble_eq_true rfl⟩) (fun u9 H locs hw hP hD hS => ?_)
            have hw2 : (v_toldCount_4, c_told_5, c_counts_6) = u9 := hw.symm
            subst hw2
            replace hP : va_P E.1 vwCl (Header_tellStretch_w E a_this a_told a_counts x_lists x_row x_code v_toldCount_4 c_told_5 c_counts_6 v_rowLength v_symbolLengths v_distanceLengths v_codeLengths) H := hP
            replace hD : va_D A (Header_tellStretch_w E a_this a_told a_counts x_lists x_row x_code v_toldCount_4 c_told_5 c_counts_6 v_rowLength v_symbolLengths v_distanceLengths v_codeLengths) := hD
            refine lv_iload_n hx hb d_Header_tellStretch_114 rfl (lv_at hl 4 rfl) ?_
            refine lv_iload hx hb d_Header_tellStretch_115 (lv_at hl 0 rfl) ?_
            refine lv_isub hx hb d_Header_tellStretch_117 ?_
            refine lv_topi (fun y3_8 ey3_8 => ?_)
            replace hm := mL_e hm y3_8 ey3_8
            refine lv_istore_n (lv' := [(3, .int y3_8), (6, .int y6_1), (5, .int s0), (0, .ref a_this), (1, .int x1), (4, .int x4)]) hx hb d_Header_tellStretch_118 rfl hl (by decide) rfl (fun ls hl => ?_)
            refine lv_goto (tgt := 15) hx hb d_Header_tellStretch_119 (by decide) ?_
            exact ih_15 _ _ _ _ H locs ls hm hP hD hS (lv_sub hl [3, 4, 0] rfl)
          refine lv_istore (lv' := [(4, .int s0), (0, .ref a_this), (1, .int x1), (3, .int x3)]) hx hb d_Header_tellStretch_50 hl (by decide) rfl (fun ls hl => ?_)
          refine lv_iload hx hb d_Header_tellStretch_52 (lv_at hl 0 rfl) ?_
          refine lv_bipush (v := 16) hx hb d_Header_tellStretch_54 (by decide) ?_
          refine lv_icmp_ge (tgt := 63) hx hb d_Header_tellStretch_56 (by decide) (fun c56 => ?_) (fun c56 => ?_)
          · replace hm := mC_t hm c56
            refine lv_iload hx hb d_Header_tellStretch_63 (lv_at hl 0 rfl) ?_
            refine lv_bipush (v := 16) hx hb d_Header_tellStretch_65 (by decide) ?_
            refine lv_icmp_ne (tgt := 75) hx hb d_Header_tellStretch_67 (by decide) (fun c67 => ?_) (fun c67 => ?_)
            · replace hm := mC_f hm c67
              refine lv_iload hx hb d_Header_tellStretch_75 (lv_at hl 0 rfl) ?_
              refine lv_bipush (v := 17) hx hb d_Header_tellStretch_77 (by decide) ?_
              refine lv_icmp_ne (tgt := 87) hx hb d_Header_tellStretch_79 (by decide) (fun c79 => ?_) (fun c79 => ?_)
              · replace hm := mC_f hm c79
                refine lv_sipush (v := 138) hx hb d_Header_tellStretch_87 (by decide) ?_
                exact h_90 _ _ _ _ _ _ H locs ls hm hP hD hS (lv_sub hl [1, 2, 3, 0] rfl)
              · replace hm := mC_t hm c79
                refine lv_bipush (v := 10) hx hb d_Header_tellStretch_82 (by decide) ?_
                refine lv_goto (tgt := 90) hx hb d_Header_tellStretch_84 (by decide) ?_
                exact h_90 _ _ _ _ _ _ H locs ls hm hP hD hS (lv_sub hl [1, 2, 3, 0] rfl)
            · replace hm := mC_t hm c67
              refine lv_bipush (v := 6) hx hb d_Header_tellStretch_70 (by decide) ?_
              refine lv_goto (tgt := 90) hx hb d_Header_tellStretch_72 (by decide) ?_
              exact h_90 _ _ _ _ _ _ H locs ls hm hP hD hS (lv_sub hl [1, 2, 3, 0] rfl)
          · replace hm := mC_f hm c56
            refine lv_iconst (v := 1) hx hb d_Header_tellStretch_59 (by decide) ?_
            refine lv_goto (tgt := 90) hx hb d_Header_tellStretch_60 (by decide) ?_
            exact h_90 _ _ _ _ _ _ H locs ls hm hP hD hS (lv_sub hl [1, 2, 3, 0] rfl)
        refine lv_iload_n hx hb d_Header_tellStretch_19 rfl (lv_at hl 2 rfl) ?_
        refine lv_iconst (v := 3) hx hb d_Header_tellStretch_20 (by decide) ?_
        refine lv_icmp_ge (tgt := 28) hx hb d_Header_tellStretch_21 (by decide) (fun c21 => ?_) (fun c21 => ?_)
        · replace hm := mC_t hm c21
          refine lv_iload_n hx hb d_Header_tellStretch_28 rfl (lv_at hl 1 rfl) ?_
          refine lv_if_le (tgt := 37) hx hb d_Header_tellStretch_29 (by decide) (fun c29 => ?_) (fun c29 => ?_)
          · replace hm := mC_t hm c29
            refine lv_iload_n hx hb d_Header_tellStretch_37 rfl (lv_at hl 2 rfl) ?_
            refine lv_bipush (v := 11) hx hb d_Header_tellStretch_38 (by decide) ?_
            refine lv_icmp_ge (tgt := 48) hx hb d_Header_tellStretch_40 (by decide) (fun c40 => ?_) (fun c40 => ?_)
            · replace hm := mC_t hm c40
              refine lv_bipush (v := 18) hx hb d_Header_tellStretch_48 (by decide) ?_
              exact h_50 _ _ _ _ _ H locs ls hm hP hD hS hl
            · replace hm := mC_f hm c40
              refine lv_bipush (v := 17) hx hb d_Header_tellStretch_43 (by decide) ?_
              refine lv_goto (tgt := 50) hx hb d_Header_tellStretch_45 (by decide) ?_
              exact h_50 _ _ _ _ _ H locs ls hm hP hD hS hl
          · replace hm := mC_f hm c29
            refine lv_bipush (v := 16) hx hb d_Header_tellStretch_32 (by decide) ?_
            refine lv_goto (tgt := 50) hx hb d_Header_tellStretch_34 (by decide) ?_
            exact h_50 _ _ _ _ _ H locs ls hm hP hD hS hl
        · replace hm := mC_f hm c21
          refine lv_iload_n hx hb d_Header_tellStretch_24 rfl (lv_at hl 1 rfl) ?_
          refine lv_goto (tgt := 50) hx hb d_Header_tellStretch_25 (by decide) ?_
          exact h_50 _ _ _ _ _ H locs ls hm hP hD hS hl
  refine lv_iload_n hx hb d_Header_tellStretch_0 rfl (lv_at hl 2 rfl) ?_
  refine lv_istore_n (lv' := [(3, .int x2), (0, .ref a_this), (1, .int x1), (2, .int x2)]) hx hb d_Header_tellStretch_1 rfl hl (by decide) rfl (fun ls hl => ?_)
  refine lv_iload_n hx hb d_Header_tellStretch_2 rfl (lv_at hl 2 rfl) ?_
  refine lv_if_le (tgt := 15) hx hb d_Header_tellStretch_3 (by decide) (fun c3 => ?_) (fun c3 => ?_)
  · replace hm := mC_t hm c3
    exact h_15 F _ _ _ _ H locs ls hm hP hD hS (lv_sub hl [1, 2, 0] rfl)
  · replace hm := mC_f hm c3
    refine lv_aload_n hx hb d_Header_tellStretch_6 rfl (lv_at hl 1 rfl) ?_
    refine lv_iload_n hx hb d_Header_tellStretch_7 rfl (lv_at hl 2 rfl) ?_
    refine lv_iconst (v := 0) hx hb d_Header_tellStretch_8 (by decide) ?_
    obtain ⟨r_12, v_toldCount_9, c_told_10, c_counts_11, hc9, hm⟩ := mR3_e hm
    refine xmv (wc := (Header_tell_w E a_this a_told a_counts x_lists x_row x_code v_toldCount c_told c_counts v_rowLength v_symbolLengths v_distanceLengths v_codeLengths)) [true, true, true] [0, 1, 2] [0, 1, 2] hP hD hS hA rfl (by decide) (by decide) 3 (by decide) (fun _ => rfl) (fun hPc hDc hFc => va_runV (As := [.int x1, .int 0]) (rest := []) ⟨hx, hb, hml, hown, hts⟩ (c_Header_tell l E F H.size a_this a_told a_counts x_lists x_row x_code v_toldCount c_told c_counts v_rowLength v_symbolLengths v_distanceLengths v_codeLengths x1 0 (r_12, v_toldCount_9, c_told_10, c_counts_11) hc9) (cwV 2 hts (x_gV tw_561 tw_563 tw_15 tw_73 tw_564) rfl rfl rfl (by decide +kernel) ⟨Nat.le_of_ble_eq_true rfl, Nat.le_of_ble_eq_true rfl⟩) (xPV 4 0 rfl rfl hPc hDc hFc hK hI hN hS) rfl rfl hl.1 rfl (lv_room (Nat.le_of_ble_eq_true rfl)) d_Header_tellStretch_9 ⟨Nat.le_of_ble_eq_true rfl, Nat.le_of_ble_eq_true rfl⟩) (fun u9 H locs hw hP hD hS => ?_)
    have hw2 : (v_toldCount_9, c_told_10, c_counts_11) = u9 := hw.symm
    subst hw2
    replace hP : va_P E.1 vwCl (Header_tellStretch_w E a_this a_told a_counts x_lists x_row x_code v_toldCount_9 c_told_10 c_counts_11 v_rowLength v_symbolLengths v_distanceLengths v_codeLengths) H := hP
    replace hD : va_D A (Header_tellStretch_w E a_this a_told a_counts x_lists x_row x_code v_toldCount_9 c_told_10 c_counts_11 v_rowLength v_symbolLengths v_distanceLengths v_codeLengths) := hD
    obtain ⟨y3_13, ey3_13⟩ : ∃ y : Int32, y = x2 + (-1) := ⟨_, rfl⟩
    replace hm := mL_e hm y3_13 ey3_13
    refine lv_iinc (v := y3_13) (lv' := [(3, .int y3_13), (0, .ref a_this), (1, .int x1), (2, .int x2)]) hx hb d_Header_tellStretch_12 hl (k := 0) rfl (by rw [ey3_13]; rfl) (by decide) rfl (fun ls hl => ?_)
    exact h_15 F _ _ _ _ H locs ls hm hP hD hS (lv_sub hl [1, 2, 0] rfl)
theorem d_Header_tellRow_0 : decode b_Header_tellRow 0 = .ok (.aload_n 0, 1) := by decide +kernel
theorem d_Header_tellRow_1 : decode b_Header_tellRow 1 = .ok (.getfield 22, 3) := by decide +kernel
theorem d_Header_tellRow_4 : decode b_Header_tellRow 4 = .ok (.iconst 0, 1) := by decide +kernel
theorem d_Header_tellRow_5 : decode b_Header_tellRow 5 = .ok (.invokestatic 93, 3) := by decide +kernel
theorem d_Header_tellRow_8 : decode b_Header_tellRow 8 = .ok (.aload_n 0, 1) := by decide +kernel
theorem d_Header_tellRow_9 : decode b_Header_tellRow 9 = .ok (.iconst 0, 1) := by decide +kernel
theorem d_Header_tellRow_10 : decode b_Header_tellRow 10 = .ok (.putfield 99, 3) := by decide +kernel
theorem d_Header_tellRow_13 : decode b_Header_tellRow 13 = .ok (.iconst 0, 1) := by decide +kernel
theorem d_Header_tellRow_14 : decode b_Header_tellRow 14 = .ok (.istore_n 1, 1) := by decide +kernel
theorem d_Header_tellRow_15 : decode b_Header_tellRow 15 = .ok (.iload_n 1, 1) := by decide +kernel
theorem d_Header_tellRow_16 : decode b_Header_tellRow 16 = .ok (.aload_n 0, 1) := by decide +kernel
theorem d_Header_tellRow_17 : decode b_Header_tellRow 17 = .ok (.getfield 90, 3) := by decide +kernel
theorem d_Header_tellRow_20 : decode b_Header_tellRow 20 = .ok (.if_icmp .ge 65, 3) := by decide +kernel
theorem d_Header_tellRow_23 : decode b_Header_tellRow 23 = .ok (.iload_n 1, 1) := by decide +kernel
theorem d_Header_tellRow_24 : decode b_Header_tellRow 24 = .ok (.aload_n 0, 1) := by decide +kernel
theorem d_Header_tellRow_25 : decode b_Header_tellRow 25 = .ok (.getfield 15, 3) := by decide +kernel
theorem d_Header_tellRow_28 : decode b_Header_tellRow 28 = .ok (.arraylength, 1) := by decide +kernel
theorem d_Header_tellRow_29 : decode b_Header_tellRow 29 = .ok (.if_icmp .ge 56, 3) := by decide +kernel
theorem d_Header_tellRow_32 : decode b_Header_tellRow 32 = .ok (.iconst 1, 1) := by decide +kernel
theorem d_Header_tellRow_33 : decode b_Header_tellRow 33 = .ok (.istore_n 2, 1) := by decide +kernel
theorem d_Header_tellRow_34 : decode b_Header_tellRow 34 = .ok (.iload_n 1, 1) := by decide +kernel
theorem d_Header_tellRow_35 : decode b_Header_tellRow 35 = .ok (.iload_n 2, 1) := by decide +kernel
theorem d_Header_tellRow_36 : decode b_Header_tellRow 36 = .ok (.iadd, 1) := by decide +kernel
theorem d_Header_tellRow_37 : decode b_Header_tellRow 37 = .ok (.aload_n 0, 1) := by decide +kernel
theorem d_Header_tellRow_38 : decode b_Header_tellRow 38 = .ok (.getfield 90, 3) := by decide +kernel
theorem d_Header_tellRow_41 : decode b_Header_tellRow 41 = .ok (.if_icmp .ge 26, 3) := by decide +kernel
theorem d_Header_tellRow_44 : decode b_Header_tellRow 44 = .ok (.aload_n 0, 1) := by decide +kernel
theorem d_Header_tellRow_45 : decode b_Header_tellRow 45 = .ok (.getfield 15, 3) := by decide +kernel
theorem d_Header_tellRow_48 : decode b_Header_tellRow 48 = .ok (.iload_n 1, 1) := by decide +kernel
theorem d_Header_tellRow_49 : decode b_Header_tellRow 49 = .ok (.iload_n 2, 1) := by decide +kernel
theorem d_Header_tellRow_50 : decode b_Header_tellRow 50 = .ok (.iadd, 1) := by decide +kernel
theorem d_Header_tellRow_51 : decode b_Header_tellRow 51 = .ok (.iaload, 1) := by decide +kernel
theorem d_Header_tellRow_52 : decode b_Header_tellRow 52 = .ok (.aload_n 0, 1) := by decide +kernel
theorem d_Header_tellRow_53 : decode b_Header_tellRow 53 = .ok (.getfield 15, 3) := by decide +kernel
theorem d_Header_tellRow_56 : decode b_Header_tellRow 56 = .ok (.iload_n 1, 1) := by decide +kernel
theorem d_Header_tellRow_57 : decode b_Header_tellRow 57 = .ok (.iaload, 1) := by decide +kernel
theorem d_Header_tellRow_58 : decode b_Header_tellRow 58 = .ok (.if_icmp .ne 9, 3) := by decide +kernel
theorem d_Header_tellRow_61 : decode b_Header_tellRow 61 = .ok (.iinc 2 1, 3) := by decide +kernel
theorem d_Header_tellRow_64 : decode b_Header_tellRow 64 = .ok (.goto (-30), 3) := by decide +kernel
theorem d_Header_tellRow_67 : decode b_Header_tellRow 67 = .ok (.aload_n 0, 1) := by decide +kernel
theorem d_Header_tellRow_68 : decode b_Header_tellRow 68 = .ok (.aload_n 0, 1) := by decide +kernel
theorem d_Header_tellRow_69 : decode b_Header_tellRow 69 = .ok (.getfield 15, 3) := by decide +kernel
theorem d_Header_tellRow_72 : decode b_Header_tellRow 72 = .ok (.iload_n 1, 1) := by decide +kernel
theorem d_Header_tellRow_73 : decode b_Header_tellRow 73 = .ok (.iaload, 1) := by decide +kernel
theorem d_Header_tellRow_74 : decode b_Header_tellRow 74 = .ok (.iload_n 2, 1) := by decide +kernel
theorem d_Header_tellRow_75 : decode b_Header_tellRow 75 = .ok (.invokevirtual 102, 3) := by decide +kernel
theorem d_Header_tellRow_78 : decode b_Header_tellRow 78 = .ok (.iload_n 1, 1) := by decide +kernel
theorem d_Header_tellRow_79 : decode b_Header_tellRow 79 = .ok (.iload_n 2, 1) := by decide +kernel
theorem d_Header_tellRow_80 : decode b_Header_tellRow 80 = .ok (.iadd, 1) := by decide +kernel
theorem d_Header_tellRow_81 : decode b_Header_tellRow 81 = .ok (.istore_n 1, 1) := by decide +kernel
theorem d_Header_tellRow_82 : decode b_Header_tellRow 82 = .ok (.goto (-67), 3) := by decide +kernel
theorem d_Header_tellRow_85 : decode b_Header_tellRow 85 = .ok (.return_, 1) := by decide +kernel
def Header_tellRow_67 (F : Nat) (c_row : Nat → Int32) (k_15 : Int32 → (Nat → Int32) → (Nat → Int32) → Int32 → Option (Unit × Int32 × (Nat → Int32) × (Nat → Int32))) (v_toldCount : Int32) (c_counts : Nat → Int32) (c_told : Nat → Int32) (x1 : Int32) (x2 : Int32) : Option (Unit × Int32 × (Nat → Int32) × (Nat → Int32)) :=
  mG x1 320 (mL (c_row x1.toNatClampNeg) fun t_1 => mR3 (Header_tellStretch F v_toldCount c_told c_counts t_1 x2) fun _ v_toldCount_2 c_told_3 c_counts_4 => mL (x1 + x2) fun y1_6 => k_15 v_toldCount_2 c_counts_4 c_told_3 y1_6)
def Header_tellRow_34 (F : Nat) (v_rowLength : Int32) (c_row : Nat → Int32) (k_67 : Int32 → (Nat → Int32) → (Nat → Int32) → Int32 → Int32 → Option (Unit × Int32 × (Nat → Int32) × (Nat → Int32))) (k_34 : Int32 → (Nat → Int32) → (Nat → Int32) → Int32 → Int32 → Option (Unit × Int32 × (Nat → Int32) × (Nat → Int32))) (v_toldCount : Int32) (c_counts : Nat → Int32) (c_told : Nat → Int32) (x1 : Int32) (x2 : Int32) : Option (Unit × Int32 × (Nat → Int32) × (Nat → Int32)) :=
  mC (v_rowLength ≤ (x1 + x2)) (k_67 v_toldCount c_counts c_told x1 x2) (mL (x1 + x2) fun i_7 => mG i_7 320 (mG x1 320 (mC ((c_row i_7.toNatClampNeg) = (c_row x1.toNatClampNeg)) (mL (x2 + 1) fun y2_8 => k_34 v_toldCount c_counts c_told x1 y2_8) (k_67 v_toldCount c_counts c_told x1 x2))))
def Header_tellRow_15 (F : Nat) (v_rowLength : Int32) (c_row : Nat → Int32) (k_15 : Int32 → (Nat → Int32) → (Nat → Int32) → Int32 → Option (Unit × Int32 × (Nat → Int32) × (Nat → Int32))) (v_toldCount : Int32) (c_counts : Nat → Int32) (c_told : Nat → Int32) (x1 : Int32) : Option (Unit × Int32 × (Nat → Int32) × (Nat → Int32)) :=
  mC (v_rowLength ≤ x1) (some ((), v_toldCount, c_counts, c_told)) (mC (320 ≤ x1) (some ((), v_toldCount, c_counts, c_told)) ((mW5 (Header_tellRow_34 F v_rowLength c_row (Header_tellRow_67 F c_row k_15)) F) v_toldCount c_counts c_told x1 1))
abbrev Header_tellRow_w (E : xE) (a_this : Nat) (a_counts : Nat) (a_row : Nat) (a_told : Nat) (x_lists : Value) (x_code : Value) (v_rowLength : Int32) (c_row : Nat → Int32) (v_toldCount : Int32) (c_counts : Nat → Int32) (c_told : Nat → Int32) (v_symbolLengths : Int32) (v_distanceLengths : Int32) (v_codeLengths : Int32) : va_W := [(a_this, .inr (4, [x_lists, .ref a_row, .ref a_told, .ref a_counts, x_code, .int v_rowLength, .int v_toldCount, .int v_symbolLengths, .int v_distanceLengths, .int v_codeLengths])), (a_counts, .inl (E.2.1, 19, .inl c_counts)), (a_row, .inl (E.2.1, 320, .inl c_row)), (a_told, .inl (E.2.1, 320, .inl c_told))]
def Header_tellRow (F : Nat) (v_rowLength : Int32) (c_row : Nat → Int32) (v_toldCount : Int32) (c_counts : Nat → Int32) (c_told : Nat → Int32) : Option (Unit × Int32 × (Nat → Int32) × (Nat → Int32)) :=
  mR1 (Arr_fill F 19 c_counts 0) fun _ c_p0_9 => (mW4 (Header_tellRow_15 F v_rowLength c_row) F) 0 c_p0_9 c_told 0
abbrev Header_tellRow_rm : Room := { frames := 2, cells := 0, slots := 0, locals := 48 }
set_option maxHeartbeats 4000000 in
set_option maxRecDepth 100000 in
theorem c_Header_tellRow (l : Launch) (E : xE) (F sz : Nat) (a_this : Nat) (a_counts : Nat) (a_row : Nat) (a_told : Nat) (x_lists : Value) (x_code : Value) (v_rowLength : Int32) (c_row : Nat → Int32) (v_toldCount : Int32) (c_counts : Nat → Int32) (c_told : Nat → Int32) (v_symbolLengths : Int32) (v_distanceLengths : Int32) (v_codeLengths : Int32) (res : Unit × Int32 × (Nat → Int32) × (Nat → Int32)) (hm : Header_tellRow F v_rowLength c_row v_toldCount c_counts c_told = some res) : Met l y_Header_tellRow (Cond.code y_Header_tellRow b_Header_tellRow 3 none :: x_tb) Header_tellRow_rm (va_Pc [.ref a_this] (xPre E (Header_tellRow_w E a_this a_counts a_row a_told x_lists x_code v_rowLength c_row v_toldCount c_counts c_told v_symbolLengths v_distanceLengths v_codeLengths) sz)) (xQv E (fun (u : Int32 × (Nat → Int32) × (Nat → Int32)) => u = res.2) (fun (u : Int32 × (Nat → Int32) × (Nat → Int32)) => (Header_tellRow_w E a_this a_counts a_row a_told x_lists x_code v_rowLength c_row u.1 u.2.1 u.2.2 v_symbolLengths v_distanceLengths v_codeLengths)) (va_A (Header_tellRow_w E a_this a_counts a_row a_told x_lists x_code v_rowLength c_row v_toldCount c_counts c_told v_symbolLengths v_distanceLengths v_codeLengths) sz)) 0 0 (va_A (Header_tellRow_w E a_this a_counts a_row a_told x_lists x_code v_rowLength c_row v_toldCount c_counts c_told v_symbolLengths v_distanceLengths v_codeLengths) sz) := by
  refine xEnV (by decide) (Nat.le_of_ble_eq_true rfl) ?_
  intro p e s m args below meth c A ls Q hx hb hnm hts hown hml hK hA hI hN hret hP hD hS hl
  replace hown : s.vm.findClass R_Header = some m.cls := hown
  replace hl : lv_has ls 3 [(0, .ref a_this)] := hl
  obtain ⟨H, eH⟩ : ∃ z, z = s.heap := ⟨_, rfl⟩
  obtain ⟨locs, eL⟩ : ∃ z : List Loc, z = [] := ⟨_, rfl⟩
  rw [show W p l e Header_tellRow_rm s m args below meth c s.heap [] 0 0 Q (F0 m 0 ls []) = W p l e Header_tellRow_rm s m args below meth c H locs 0 0 Q (F0 m 0 ls []) by rw [eH, eL]]
  replace hP : va_P E.1 vwCl (Header_tellRow_w E a_this a_counts a_row a_told x_lists x_code v_rowLength c_row v_toldCount c_counts c_told v_symbolLengths v_distanceLengths v_codeLengths) H := by rw [eH]; exact hP
  replace hS : va_S A s.heap H locs := by rw [eH, eL]; exact hS
  clear eH eL
  rw [Header_tellRow] at hm
  have h_15 : ∀ (n_15 : Nat) (v_toldCount : Int32) (c_counts : Nat → Int32) (c_told : Nat → Int32) (x1 : Int32) (H : Heap) (locs : List Loc) (ls : Array Slot), (mW4 (Header_tellRow_15 F v_rowLength c_row) n_15) v_toldCount c_counts c_told x1 = some res → va_P E.1 vwCl (Header_tellRow_w E a_this a_counts a_row a_told x_lists x_code v_rowLength c_row v_toldCount c_counts c_told v_symbolLengths v_distanceLengths v_codeLengths) H → va_D A (Header_tellRow_w E a_this a_counts a_row a_told x_lists x_code v_rowLength c_row v_toldCount c_counts c_told v_symbolLengths v_distanceLengths v_codeLengths) → va_S A s.heap H locs → lv_has ls 3 [(0, .ref a_this), (1, .int x1)] → W p l e Header_tellRow_rm s m args below meth c H locs 0 0 Q (F0 m 15 ls []) := by
    intro n_15
    induction n_15 with
    | zero => exact fun _ _ _ _ _ _ _ hm _ _ _ _ => (mW4_z hm).elim
    | succ n_15 ih_15 =>
      intro v_toldCount c_counts c_told x1 H locs ls hm hP hD hS hl
      replace hm := mW4_s hm
      rw [Header_tellRow_15] at hm
      refine lv_iload_n hx hb d_Header_tellRow_15 rfl (lv_at hl 1 rfl) ?_
      refine lv_aload_n hx hb d_Header_tellRow_16 rfl (lv_at hl 0 rfl) ?_
      refine va_get (D := E.1) (ci := 4) (v := .int v_rowLength) (C := R_Header) (T := F_Header) (N := 10) hx hb hts i_Header hown hK hP 0 rfl rfl 5 (by decide) (hts _ tw_207) (fun _ h9 => h9) rfl d_Header_tellRow_17 ?_
      refine lv_icmp_ge (tgt := 85) hx hb d_Header_tellRow_20 (by decide) (fun c20 => ?_) (fun c20 => ?_)
      · replace hm := mC_t hm c20
        replace hm := Option.some.inj hm
        subst hm
        exact hret d_Header_tellRow_85 (u := (v_toldCount, c_counts, c_told)) rfl hP hD hS
      · replace hm := mC_f hm c20
        refine lv_iload_n hx hb d_Header_tellRow_23 rfl (lv_at hl 1 rfl) ?_
        refine lv_aload_n hx hb d_Header_tellRow_24 rfl (lv_at hl 0 rfl) ?_
        refine va_get (D := E.1) (ci := 4) (v := .ref a_row) (C := R_Header) (T := F_Header) (N := 10) hx hb hts i_Header hown hK hP 0 rfl rfl 1 (by decide) (hts _ tw_203) (fun _ h9 => h9) rfl d_Header_tellRow_25 ?_
        refine va_alen (v := 320) hx hb hK hP 2 0 rfl rfl rfl d_Header_tellRow_28 ?_
        refine lv_icmp_ge (tgt := 85) hx hb d_Header_tellRow_29 (by decide) (fun c29 => ?_) (fun c29 => ?_)
        · replace hm := mC_t hm c29
          replace hm := Option.some.inj hm
          subst hm
          exact hret d_Header_tellRow_85 (u := (v_toldCount, c_counts, c_told)) rfl hP hD hS
        · replace hm := mC_f hm c29
          have h_67 : ∀ (v_toldCount : Int32) (c_counts : Nat → Int32) (c_told : Nat → Int32) (x1 : Int32) (x2 : Int32) (H : Heap) (locs : List Loc) (ls : Array Slot), (Header_tellRow_67 F c_row (mW4 (Header_tellRow_15 F v_rowLength c_row) n_15)) v_toldCount c_counts c_told x1 x2 = some res → va_P E.1 vwCl (Header_tellRow_w E a_this a_counts a_row a_told x_lists x_code v_rowLength c_row v_toldCount c_counts c_told v_symbolLengths v_distanceLengths v_codeLengths) H → va_D A (Header_tellRow_w E a_this a_counts a_row a_told x_lists x_code v_rowLength c_row v_toldCount c_counts c_told v_symbolLengths v_distanceLengths v_codeLengths) → va_S A s.heap H locs → lv_has ls 3 [(0, .ref a_this), (1, .int x1), (2, .int x2)] → W p l e Header_tellRow_rm s m args below meth c H locs 0 0 Q (F0 m 67 ls []) := by
            intro v_toldCount c_counts c_told x1 x2 H locs ls hm hP hD hS hl
            rw [Header_tellRow_67] at hm
            refine lv_aload_n hx hb d_Header_tellRow_67 rfl (lv_at hl 0 rfl) ?_
            refine lv_aload_n hx hb d_Header_tellRow_68 rfl (lv_at hl 0 rfl) ?_
            refine va_get (D := E.1) (ci := 4) (v := .ref a_row) (C := R_Header) (T := F_Header) (N := 10) hx hb hts i_Header hown hK hP 0 rfl rfl 1 (by decide) (hts _ tw_203) (fun _ h9 => h9) rfl d_Header_tellRow_69 ?_
            refine lv_iload_n hx hb d_Header_tellRow_72 rfl (lv_at hl 1 rfl) ?_
            obtain ⟨hi73, hm⟩ := mG_e hm
            refine va_iald hx hb hK hP 2 0 rfl rfl hi73 d_Header_tellRow_73 ?_
            refine lv_iload_n hx hb d_Header_tellRow_74 rfl (lv_at hl 2 rfl) ?_
            obtain ⟨t_1, et_1⟩ : ∃ z : Int32, z = c_row x1.toNatClampNeg := ⟨_, rfl⟩
            rw [← et_1]
            replace hm := mL_e hm t_1 et_1
            obtain ⟨r_5, v_toldCount_2, c_told_3, c_counts_4, hc75, hm⟩ := mR3_e hm
            refine xmv (wc := (Header_tellStretch_w E a_this a_told a_counts x_lists (.ref a_row) x_code v_toldCount c_told c_counts v_rowLength v_symbolLengths v_distanceLengths v_codeLengths)) [true, true, false, true] [0, 2, 1] [0, 2, 1] hP hD hS hA rfl (by decide) (by decide) 3 (by decide) (fun _ => rfl) (fun hPc hDc hFc => va_runV (As := [.int t_1, .int x2]) (rest := []) ⟨hx, hb, hml, hown, hts⟩ (c_Header_tellStretch l E F H.size a_this a_told a_counts x_lists (.ref a_row) x_code v_toldCount c_told c_counts v_rowLength v_symbolLengths v_distanceLengths v_codeLengths t_1 x2 (r_5, v_toldCount_2, c_told_3, c_counts_4) hc75) (cwV 2 hts (x_gV tw_557 tw_559 tw_14 tw_73 tw_560) rfl rfl rfl (by decide +kernel) ⟨Nat.le_of_ble_eq_true rfl, Nat.le_of_ble_eq_true rfl⟩) (xPV 4 0 rfl rfl hPc hDc hFc hK hI hN hS) rfl rfl hl.1 rfl (lv_room (Nat.le_of_ble_eq_true rfl)) d_Header_tellRow_75 ⟨Nat.le_of_ble_eq_true rfl, Nat.le_of_ble_eq_true rfl⟩) (fun u9 H locs hw hP hD hS => ?_)
            have hw2 : (v_toldCount_2, c_told_3, c_counts_4) = u9 := hw.symm
            subst hw2
            replace hP : va_P E.1 vwCl (Header_tellRow_w E a_this a_counts a_row a_told x_lists x_code v_rowLength c_row v_toldCount_2 c_counts_4 c_told_3 v_symbolLengths v_distanceLengths v_codeLengths) H := hP
            replace hD : va_D A (Header_tellRow_w E a_this a_counts a_row a_told x_lists x_code v_rowLength c_row v_toldCount_2 c_counts_4 c_told_3 v_symbolLengths v_distanceLengths v_codeLengths) := hD
            refine lv_iload_n hx hb d_Header_tellRow_78 rfl (lv_at hl 1 rfl) ?_
            refine lv_iload_n hx hb d_Header_tellRow_79 rfl (lv_at hl 2 rfl) ?_
            refine lv_iadd hx hb d_Header_tellRow_80 ?_
            refine lv_topi (fun y1_6 ey1_6 => ?_)
            replace hm := mL_e hm y1_6 ey1_6
            refine lv_istore_n (lv' := [(1, .int y1_6), (0, .ref a_this), (2, .int x2)]) hx hb d_Header_tellRow_81 rfl hl (by decide) rfl (fun ls hl => ?_)
            refine lv_goto (tgt := 15) hx hb d_Header_tellRow_82 (by decide) ?_
            exact ih_15 _ _ _ _ H locs ls hm hP hD hS (lv_sub hl [1, 0] rfl)
          have h_34 : ∀ (n_34 : Nat) (v_toldCount : Int32) (c_counts : Nat → Int32) (c_told : Nat → Int32) (x1 : Int32) (x2 : Int32) (H : Heap) (locs : List Loc) (ls : Array Slot), (mW5 (Header_tellRow_34 F v_rowLength c_row (Header_tellRow_67 F c_row (mW4 (Header_tellRow_15 F v_rowLength c_row) n_15))) n_34) v_toldCount c_counts c_told x1 x2 = some res → va_P E.1 vwCl (Header_tellRow_w E a_this a_counts a_row a_told x_lists x_code v_rowLength c_row v_toldCount c_counts c_told v_symbolLengths v_distanceLengths v_codeLengths) H → va_D A (Header_tellRow_w E a_this a_counts a_row a_told x_lists x_code v_rowLength c_row v_toldCount c_counts c_told v_symbolLengths v_distanceLengths v_codeLengths) → va_S A s.heap H locs → lv_has ls 3 [(0, .ref a_this), (1, .int x1), (2, .int x2)] → W p l e Header_tellRow_rm s m args below meth c H locs 0 0 Q (F0 m 34 ls []) := by
            intro n_34
            induction n_34 with
            | zero => exact fun _ _ _ _ _ _ _ _ hm _ _ _ _ => (mW5_z hm).elim
            | succ n_34 ih_34 =>
              intro v_toldCount c_counts c_told x1 x2 H locs ls hm hP hD hS hl
              replace hm := mW5_s hm
              rw [Header_tellRow_34] at hm
              refine lv_iload_n hx hb d_Header_tellRow_34 rfl (lv_at hl 1 rfl) ?_
              refine lv_iload_n hx hb d_Header_tellRow_35 rfl (lv_at hl 2 rfl) ?_
              refine lv_iadd hx hb d_Header_tellRow_36 ?_
              refine lv_aload_n hx hb d_Header_tellRow_37 rfl (lv_at hl 0 rfl) ?_
              refine va_get (D := E.1) (ci := 4) (v := .int v_rowLength) (C := R_Header) (T := F_Header) (N := 10) hx hb hts i_Header hown hK hP 0 rfl rfl 5 (by decide) (hts _ tw_207) (fun _ h9 => h9) rfl d_Header_tellRow_38 ?_
              refine lv_icmp_ge (tgt := 67) hx hb d_Header_tellRow_41 (by decide) (fun c41 => ?_) (fun c41 => ?_)
              · replace hm := mC_t hm c41
                exact h_67 _ _ _ _ _ H locs ls hm hP hD hS hl
              · replace hm := mC_f hm c41
                refine lv_aload_n hx hb d_Header_tellRow_44 rfl (lv_at hl 0 rfl) ?_
                refine va_get (D := E.1) (ci := 4) (v := .ref a_row) (C := R_Header) (T := F_Header) (N := 10) hx hb hts i_Header hown hK hP 0 rfl rfl 1 (by decide) (hts _ tw_203) (fun _ h9 => h9) rfl d_Header_tellRow_45 ?_
                refine lv_iload_n hx hb d_Header_tellRow_48 rfl (lv_at hl 1 rfl) ?_
                refine lv_iload_n hx hb d_Header_tellRow_49 rfl (lv_at hl 2 rfl) ?_
                refine lv_iadd hx hb d_Header_tellRow_50 ?_
                refine lv_topi (fun i_7 ei_7 => ?_)
                replace hm := mL_e hm i_7 ei_7
                obtain ⟨hi51, hm⟩ := mG_e hm
                refine va_iald hx hb hK hP 2 0 rfl rfl hi51 d_Header_tellRow_51 ?_
                refine lv_aload_n hx hb d_Header_tellRow_52 rfl (lv_at hl 0 rfl) ?_
                refine va_get (D := E.1) (ci := 4) (v := .ref a_row) (C := R_Header) (T := F_Header) (N := 10) hx hb hts i_Header hown hK hP 0 rfl rfl 1 (by decide) (hts _ tw_203) (fun _ h9 => h9) rfl d_Header_tellRow_53 ?_
                refine lv_iload_n hx hb d_Header_tellRow_56 rfl (lv_at hl 1 rfl) ?_
                obtain ⟨hi57, hm⟩ := mG_e hm
                refine va_iald hx hb hK hP 2 0 rfl rfl hi57 d_Header_tellRow_57 ?_
                refine lv_icmp_ne (tgt := 67) hx hb d_Header_tellRow_58 (by decide) (fun c58 => ?_) (fun c58 => ?_)
                · replace hm := mC_f hm c58
                  exact h_67 _ _ _ _ _ H locs ls hm hP hD hS hl
                · replace hm := mC_t hm c58
                  obtain ⟨y2_8, ey2_8⟩ : ∃ y : Int32, y = x2 + 1 := ⟨_, rfl⟩
                  replace hm := mL_e hm y2_8 ey2_8
                  refine lv_iinc (v := y2_8) (lv' := [(2, .int y2_8), (0, .ref a_this), (1, .int x1)]) hx hb d_Header_tellRow_61 hl (k := 2) rfl (by rw [ey2_8]; rfl) (by decide) rfl (fun ls hl => ?_)
                  refine lv_goto (tgt := 34) hx hb d_Header_tellRow_64 (by decide) ?_
                  exact ih_34 _ _ _ _ _ H locs ls hm hP hD hS (lv_sub hl [1, 2, 0] rfl)
          refine lv_iconst (v := 1) hx hb d_Header_tellRow_32 (by decide) ?_
          refine lv_istore_n (lv' := [(2, .int 1), (0, .ref a_this), (1, .int x1)]) hx hb d_Header_tellRow_33 rfl hl (by decide) rfl (fun ls hl => ?_)
          exact h_34 F _ _ _ _ _ H locs ls hm hP hD hS (lv_sub hl [1, 2, 0] rfl)
  refine lv_aload_n hx hb d_Header_tellRow_0 rfl (lv_at hl 0 rfl) ?_
  refine va_get (D := E.1) (ci := 4) (v := .ref a_counts) (C := R_Header) (T := F_Header) (N := 10) hx hb hts i_Header hown hK hP 0 rfl rfl 3 (by decide) (hts _ tw_205) (fun _ h9 => h9) rfl d_Header_tellRow_1 ?_
  refine lv_iconst (v := 0) hx hb d_Header_tellRow_4 (by decide) ?_
  obtain ⟨r_10, c_p0_9, hc5, hm⟩ := mR1_e hm
  refine xmv (wc := (Arr_fill_w E a_counts 19 c_counts)) [false, true, false, false] [0] [0] hP hD hS hA rfl (by decide) (by decide) 1 (by decide) (fun _ => rfl) (fun hPc hDc hFc => va_runS (As := [.ref a_counts, .int 0]) (rest := []) ⟨hx, hb, hml, hown, hts⟩ (c_Arr_fill l E F H.size a_counts 19 c_counts 0 (r_10, c_p0_9) hc5) (va_cwS 2 hts (x_gS tw_556 tw_239 tw_75 tw_240) rfl rfl rfl (by decide +kernel) ⟨Nat.le_of_ble_eq_true rfl, Nat.le_of_ble_eq_true rfl⟩) (xPS hPc hDc hFc hK hI hN hS) rfl rfl hl.1 rfl (lv_room (Nat.le_of_ble_eq_true rfl)) d_Header_tellRow_5 ⟨Nat.le_of_ble_eq_true rfl, Nat.le_of_ble_eq_true rfl⟩) (fun u9 H locs hw hP hD hS => ?_)
  have hw2 : c_p0_9 = u9 := hw.symm
  subst hw2
  replace hP : va_P E.1 vwCl (Header_tellRow_w E a_this a_counts a_row a_told x_lists x_code v_rowLength c_row v_toldCount c_p0_9 c_told v_symbolLengths v_distanceLengths v_codeLengths) H := hP
  replace hD : va_D A (Header_tellRow_w E a_this a_counts a_row a_told x_lists x_code v_rowLength c_row v_toldCount c_p0_9 c_told v_symbolLengths v_distanceLengths v_codeLengths) := hD
  refine lv_aload_n hx hb d_Header_tellRow_8 rfl (lv_at hl 0 rfl) ?_
  refine lv_iconst (v := 0) hx hb d_Header_tellRow_9 (by decide) ?_
  refine va_put (D := E.1) (ci := 4) (v := .int 0) (ty := .int) (C := R_Header) (T := F_Header) (N := 10) hx hb hts i_Header t_Header t_Header_ok n_Header hown hK hP hD hS 0 rfl rfl 6 (by decide) (hts _ tw_208) (fun _ h9 => h9) rfl (by decide +kernel) rfl rfl (Nat.le_of_ble_eq_true rfl) d_Header_tellRow_10 (fun H locs hP hD hS => ?_)
  replace hP : va_P E.1 vwCl (Header_tellRow_w E a_this a_counts a_row a_told x_lists x_code v_rowLength c_row 0 c_p0_9 c_told v_symbolLengths v_distanceLengths v_codeLengths) H := hP
  replace hD : va_D A (Header_tellRow_w E a_this a_counts a_row a_told x_lists x_code v_rowLength c_row 0 c_p0_9 c_told v_symbolLengths v_distanceLengths v_codeLengths) := hD
  refine lv_iconst (v := 0) hx hb d_Header_tellRow_13 (by decide) ?_
  refine lv_istore_n (lv' := [(1, .int 0), (0, .ref a_this)]) hx hb d_Header_tellRow_14 rfl hl (by decide) rfl (fun ls hl => ?_)
  exact h_15 F _ _ _ _ H locs ls hm hP hD hS (lv_sub hl [1, 0] rfl)
theorem d_Header_gather_0 : decode b_Header_gather 0 = .ok (.aload_n 0, 1) := by decide +kernel
theorem d_Header_gather_1 : decode b_Header_gather 1 = .ok (.sipush 257, 3) := by decide +kernel
theorem d_Header_gather_4 : decode b_Header_gather 4 = .ok (.aload_n 1, 1) := by decide +kernel
theorem d_Header_gather_5 : decode b_Header_gather 5 = .ok (.invokevirtual 71, 3) := by decide +kernel
theorem d_Header_gather_8 : decode b_Header_gather 8 = .ok (.invokestatic 75, 3) := by decide +kernel
theorem d_Header_gather_11 : decode b_Header_gather 11 = .ok (.putfield 81, 3) := by decide +kernel
theorem d_Header_gather_14 : decode b_Header_gather 14 = .ok (.aload_n 0, 1) := by decide +kernel
theorem d_Header_gather_15 : decode b_Header_gather 15 = .ok (.iconst 1, 1) := by decide +kernel
theorem d_Header_gather_16 : decode b_Header_gather 16 = .ok (.aload_n 2, 1) := by decide +kernel
theorem d_Header_gather_17 : decode b_Header_gather 17 = .ok (.invokevirtual 71, 3) := by decide +kernel
theorem d_Header_gather_20 : decode b_Header_gather 20 = .ok (.invokestatic 75, 3) := by decide +kernel
theorem d_Header_gather_23 : decode b_Header_gather 23 = .ok (.putfield 84, 3) := by decide +kernel
theorem d_Header_gather_26 : decode b_Header_gather 26 = .ok (.aload_n 0, 1) := by decide +kernel
theorem d_Header_gather_27 : decode b_Header_gather 27 = .ok (.aload_n 0, 1) := by decide +kernel
theorem d_Header_gather_28 : decode b_Header_gather 28 = .ok (.getfield 81, 3) := by decide +kernel
theorem d_Header_gather_31 : decode b_Header_gather 31 = .ok (.aload_n 0, 1) := by decide +kernel
theorem d_Header_gather_32 : decode b_Header_gather 32 = .ok (.getfield 84, 3) := by decide +kernel
theorem d_Header_gather_35 : decode b_Header_gather 35 = .ok (.iadd, 1) := by decide +kernel
theorem d_Header_gather_36 : decode b_Header_gather 36 = .ok (.aload_n 0, 1) := by decide +kernel
theorem d_Header_gather_37 : decode b_Header_gather 37 = .ok (.getfield 15, 3) := by decide +kernel
theorem d_Header_gather_40 : decode b_Header_gather 40 = .ok (.arraylength, 1) := by decide +kernel
theorem d_Header_gather_41 : decode b_Header_gather 41 = .ok (.invokestatic 87, 3) := by decide +kernel
theorem d_Header_gather_44 : decode b_Header_gather 44 = .ok (.putfield 90, 3) := by decide +kernel
theorem d_Header_gather_47 : decode b_Header_gather 47 = .ok (.iconst 0, 1) := by decide +kernel
theorem d_Header_gather_48 : decode b_Header_gather 48 = .ok (.istore_n 3, 1) := by decide +kernel
theorem d_Header_gather_49 : decode b_Header_gather 49 = .ok (.iload_n 3, 1) := by decide +kernel
theorem d_Header_gather_50 : decode b_Header_gather 50 = .ok (.aload_n 0, 1) := by decide +kernel
theorem d_Header_gather_51 : decode b_Header_gather 51 = .ok (.getfield 90, 3) := by decide +kernel
theorem d_Header_gather_54 : decode b_Header_gather 54 = .ok (.if_icmp .ge 41, 3) := by decide +kernel
theorem d_Header_gather_57 : decode b_Header_gather 57 = .ok (.aload_n 0, 1) := by decide +kernel
theorem d_Header_gather_58 : decode b_Header_gather 58 = .ok (.getfield 15, 3) := by decide +kernel
theorem d_Header_gather_61 : decode b_Header_gather 61 = .ok (.iload_n 3, 1) := by decide +kernel
theorem d_Header_gather_62 : decode b_Header_gather 62 = .ok (.iload_n 3, 1) := by decide +kernel
theorem d_Header_gather_63 : decode b_Header_gather 63 = .ok (.aload_n 0, 1) := by decide +kernel
theorem d_Header_gather_64 : decode b_Header_gather 64 = .ok (.getfield 81, 3) := by decide +kernel
theorem d_Header_gather_67 : decode b_Header_gather 67 = .ok (.if_icmp .ge 11, 3) := by decide +kernel
theorem d_Header_gather_70 : decode b_Header_gather 70 = .ok (.aload_n 1, 1) := by decide +kernel
theorem d_Header_gather_71 : decode b_Header_gather 71 = .ok (.iload_n 3, 1) := by decide +kernel
theorem d_Header_gather_72 : decode b_Header_gather 72 = .ok (.invokevirtual 60, 3) := by decide +kernel
theorem d_Header_gather_75 : decode b_Header_gather 75 = .ok (.goto 13, 3) := by decide +kernel
theorem d_Header_gather_78 : decode b_Header_gather 78 = .ok (.aload_n 2, 1) := by decide +kernel
theorem d_Header_gather_79 : decode b_Header_gather 79 = .ok (.iload_n 3, 1) := by decide +kernel
theorem d_Header_gather_80 : decode b_Header_gather 80 = .ok (.aload_n 0, 1) := by decide +kernel
theorem d_Header_gather_81 : decode b_Header_gather 81 = .ok (.getfield 81, 3) := by decide +kernel
theorem d_Header_gather_84 : decode b_Header_gather 84 = .ok (.isub, 1) := by decide +kernel
theorem d_Header_gather_85 : decode b_Header_gather 85 = .ok (.invokevirtual 60, 3) := by decide +kernel
theorem d_Header_gather_88 : decode b_Header_gather 88 = .ok (.iastore, 1) := by decide +kernel
theorem d_Header_gather_89 : decode b_Header_gather 89 = .ok (.iinc 3 1, 3) := by decide +kernel
theorem d_Header_gather_92 : decode b_Header_gather 92 = .ok (.goto (-43), 3) := by decide +kernel
theorem d_Header_gather_95 : decode b_Header_gather 95 = .ok (.return_, 1) := by decide +kernel
def Header_gather_88 (F : Nat) (k_49 : Int32 → Int32 → Int32 → (Nat → Int32) → Int32 → Option (Unit × Int32 × Int32 × Int32 × (Nat → Int32))) (v_rowLength : Int32) (v_symbolLengths : Int32) (v_distanceLengths : Int32) (c_row : Nat → Int32) (x3 : Int32) (s1 : Int32) (s2 : Int32) : Option (Unit × Int32 × Int32 × Int32 × (Nat → Int32)) :=
  mG s1 320 (mL (upd c_row s1.toNatClampNeg s2) fun c_1 => mL (x3 + 1) fun y3_2 => k_49 v_rowLength v_symbolLengths v_distanceLengths c_1 y3_2)
def Header_gather_49 (F : Nat) (n_p1_lengths : Nat) (n_p2_lengths : Nat) (c_p1_lengths : Nat → Int32) (c_p2_lengths : Nat → Int32) (k_49 : Int32 → Int32 → Int32 → (Nat → Int32) → Int32 → Option (Unit × Int32 × Int32 × Int32 × (Nat → Int32))) (v_rowLength : Int32) (v_symbolLengths : Int32) (v_distanceLengths : Int32) (c_row : Nat → Int32) (x3 : Int32) : Option (Unit × Int32 × Int32 × Int32 × (Nat → Int32)) :=
  mC (v_rowLength ≤ x3) (some ((), v_rowLength, v_symbolLengths, v_distanceLengths, c_row)) (mC (v_symbolLengths ≤ x3) (mL (x3 - v_symbolLengths) fun t_3 => mR0 (Code_lengthOf F n_p2_lengths c_p2_lengths t_3) fun r_4 => (Header_gather_88 F k_49) v_rowLength v_symbolLengths v_distanceLengths c_row x3 x3 r_4) (mR0 (Code_lengthOf F n_p1_lengths c_p1_lengths x3) fun r_5 => (Header_gather_88 F k_49) v_rowLength v_symbolLengths v_distanceLengths c_row x3 x3 r_5))
abbrev Header_gather_w (E : xE) (a_p1 : Nat) (a_p1_lengths : Nat) (a_this : Nat) (a_p2 : Nat) (a_p2_lengths : Nat) (a_row : Nat) (n_p1_lengths : Nat) (n_p2_lengths : Nat) (x_p1_codes : Value) (x_p1_next : Value) (x_lists : Value) (x_told : Value) (x_counts : Value) (x_code : Value) (x_p2_codes : Value) (x_p2_next : Value) (c_p1_lengths : Nat → Int32) (c_p2_lengths : Nat → Int32) (v_rowLength : Int32) (v_symbolLengths : Int32) (v_distanceLengths : Int32) (c_row : Nat → Int32) (v_toldCount : Int32) (v_codeLengths : Int32) : va_W := [(a_p1, .inr (3, [.ref a_p1_lengths, x_p1_codes, x_p1_next])), (a_p1_lengths, .inl (E.2.1, n_p1_lengths, .inl c_p1_lengths)), (a_this, .inr (4, [x_lists, .ref a_row, x_told, x_counts, x_code, .int v_rowLength, .int v_toldCount, .int v_symbolLengths, .int v_distanceLengths, .int v_codeLengths])), (a_p2, .inr (3, [.ref a_p2_lengths, x_p2_codes, x_p2_next])), (a_p2_lengths, .inl (E.2.1, n_p2_lengths, .inl c_p2_lengths)), (a_row, .inl (E.2.1, 320, .inl c_row))]
def Header_gather (F : Nat) (n_p1_lengths : Nat) (n_p2_lengths : Nat) (c_p1_lengths : Nat → Int32) (c_p2_lengths : Nat → Int32) (v_rowLength : Int32) (v_symbolLengths : Int32) (v_distanceLengths : Int32) (c_row : Nat → Int32) : Option (Unit × Int32 × Int32 × Int32 × (Nat → Int32)) :=
  mR0 (Code_used F n_p1_lengths c_p1_lengths) fun r_6 => mL (if 257 < r_6 then r_6 else 257) fun v_7 => mR0 (Code_used F n_p2_lengths c_p2_lengths) fun r_8 => mL (if 1 < r_8 then r_8 else 1) fun v_9 => mL (v_7 + v_9) fun t_10 => mL (if 320 < t_10 then 320 else t_10) fun v_11 => (mW5 (Header_gather_49 F n_p1_lengths n_p2_lengths c_p1_lengths c_p2_lengths) F) v_11 v_7 v_9 c_row 0
abbrev Header_gather_rm : Room := { frames := 1, cells := 0, slots := 0, locals := 21 }
set_option maxHeartbeats 4000000 in
set_option maxRecDepth 100000 in
theorem c_Header_gather (l : Launch) (E : xE) (F sz : Nat) (a_p1 : Nat) (a_p1_lengths : Nat) (a_this : Nat) (a_p2 : Nat) (a_p2_lengths : Nat) (a_row : Nat) (n_p1_lengths : Nat) (n_p2_lengths : Nat) (x_p1_codes : Value) (x_p1_next : Value) (x_lists : Value) (x_told : Value) (x_counts : Value) (x_code : Value) (x_p2_codes : Value) (x_p2_next : Value) (c_p1_lengths : Nat → Int32) (c_p2_lengths : Nat → Int32) (v_rowLength : Int32) (v_symbolLengths : Int32) (v_distanceLengths : Int32) (c_row : Nat → Int32) (v_toldCount : Int32) (v_codeLengths : Int32) (res : Unit × Int32 × Int32 × Int32 × (Nat → Int32)) (hm : Header_gather F n_p1_lengths n_p2_lengths c_p1_lengths c_p2_lengths v_rowLength v_symbolLengths v_distanceLengths c_row = some res) : Met l y_Header_gather (Cond.code y_Header_gather b_Header_gather 4 none :: x_tb) Header_gather_rm (va_Pc [.ref a_this, .ref a_p1, .ref a_p2] (xPre E (Header_gather_w E a_p1 a_p1_lengths a_this a_p2 a_p2_lengths a_row n_p1_lengths n_p2_lengths x_p1_codes x_p1_next x_lists x_told x_counts x_code x_p2_codes x_p2_next c_p1_lengths c_p2_lengths v_rowLength v_symbolLengths v_distanceLengths c_row v_toldCount v_codeLengths) sz)) (xQv E (fun (u : Int32 × Int32 × Int32 × (Nat → Int32)) => u = res.2) (fun (u : Int32 × Int32 × Int32 × (Nat → Int32)) => (Header_gather_w E a_p1 a_p1_lengths a_this a_p2 a_p2_lengths a_row n_p1_lengths n_p2_lengths x_p1_codes x_p1_next x_lists x_told x_counts x_code x_p2_codes x_p2_next c_p1_lengths c_p2_lengths u.1 u.2.1 u.2.2.1 u.2.2.2 v_toldCount v_codeLengths)) (va_A (Header_gather_w E a_p1 a_p1_lengths a_this a_p2 a_p2_lengths a_row n_p1_lengths n_p2_lengths x_p1_codes x_p1_next x_lists x_told x_counts x_code x_p2_codes x_p2_next c_p1_lengths c_p2_lengths v_rowLength v_symbolLengths v_distanceLengths c_row v_toldCount v_codeLengths) sz)) 0 0 (va_A (Header_gather_w E a_p1 a_p1_lengths a_this a_p2 a_p2_lengths a_row n_p1_lengths n_p2_lengths x_p1_codes x_p1_next x_lists x_told x_counts x_code x_p2_codes x_p2_next c_p1_lengths c_p2_lengths v_rowLength v_symbolLengths v_distanceLengths c_row v_toldCount v_codeLengths) sz) := by
  refine xEnV (by decide) (Nat.le_of_ble_eq_true rfl) ?_
  intro p e s m args below meth c A ls Q hx hb hnm hts hown hml hK hA hI hN hret hP hD hS hl
  replace hown : s.vm.findClass R_Header = some m.cls := hown
  replace hl : lv_has ls 4 [(0, .ref a_this), (1, .ref a_p1), (2, .ref a_p2)] := hl
  obtain ⟨H, eH⟩ : ∃ z, z = s.heap := ⟨_, rfl⟩
  obtain ⟨locs, eL⟩ : ∃ z : List Loc, z = [] := ⟨_, rfl⟩
  rw [show W p l e Header_gather_rm s m args below meth c s.heap [] 0 0 Q (F0 m 0 ls []) = W p l e Header_gather_rm s m args below meth c H locs 0 0 Q (F0 m 0 ls []) by rw [eH, eL]]
  replace hP : va_P E.1 vwCl (Header_gather_w E a_p1 a_p1_lengths a_this a_p2 a_p2_lengths a_row n_p1_lengths n_p2_lengths x_p1_codes x_p1_next x_lists x_told x_counts x_code x_p2_codes x_p2_next c_p1_lengths c_p2_lengths v_rowLength v_symbolLengths v_distanceLengths c_row v_toldCount v_codeLengths) H := by rw [eH]; exact hP
  replace hS : va_S A s.heap H locs := by rw [eH, eL]; exact hS
  clear eH eL
  rw [Header_gather] at hm
  have h_49 : ∀ (n_49 : Nat) (v_rowLength : Int32) (v_symbolLengths : Int32) (v_distanceLengths : Int32) (c_row : Nat → Int32) (x3 : Int32) (H : Heap) (locs : List Loc) (ls : Array Slot), (mW5 (Header_gather_49 F n_p1_lengths n_p2_lengths c_p1_lengths c_p2_lengths) n_49) v_rowLength v_symbolLengths v_distanceLengths c_row x3 = some res → va_P E.1 vwCl (Header_gather_w E a_p1 a_p1_lengths a_this a_p2 a_p2_lengths a_row n_p1_lengths n_p2_lengths x_p1_codes x_p1_next x_lists x_told x_counts x_code x_p2_codes x_p2_next c_p1_lengths c_p2_lengths v_rowLength v_symbolLengths v_distanceLengths c_row v_toldCount v_codeLengths) H → va_D A (Header_gather_w E a_p1 a_p1_lengths a_this a_p2 a_p2_lengths a_row n_p1_lengths n_p2_lengths x_p1_codes x_p1_next x_lists x_told x_counts x_code x_p2_codes x_p2_next c_p1_lengths c_p2_lengths v_rowLength v_symbolLengths v_distanceLengths c_row v_toldCount v_codeLengths) → va_S A s.heap H locs → lv_has ls 4 [(0, .ref a_this), (1, .ref a_p1), (2, .ref a_p2), (3, .int x3)] → W p l e Header_gather_rm s m args below meth c H locs 0 0 Q (F0 m 49 ls []) := by
    intro n_49
    induction n_49 with
    | zero => exact fun _ _ _ _ _ _ _ _ hm _ _ _ _ => (mW5_z hm).elim
    | succ n_49 ih_49 =>
      intro v_rowLength v_symbolLengths v_distanceLengths c_row x3 H locs ls hm hP hD hS hl
      replace hm := mW5_s hm
      rw [Header_gather_49] at hm
      refine lv_iload_n hx hb d_Header_gather_49 rfl (lv_at hl 3 rfl) ?_
      refine lv_aload_n hx hb d_Header_gather_50 rfl (lv_at hl 0 rfl) ?_
      refine va_get (D := E.1) (ci := 4) (v := .int v_rowLength) (C := R_Header) (T := F_Header) (N := 10) hx hb hts i_Header hown hK hP 2 rfl rfl 5 (by decide) (hts _ tw_207) (fun _ h9 => h9) rfl d_Header_gather_51 ?_
      refine lv_icmp_ge (tgt := 95) hx hb d_Header_gather_54 (by decide) (fun c54 => ?_) (fun c54 => ?_)
      · replace hm := mC_t hm c54
        replace hm := Option.some.inj hm
        subst hm
        exact hret d_Header_gather_95 (u := (v_rowLength, v_symbolLengths, v_distanceLengths, c_row)) rfl hP hD hS
      · replace hm := mC_f hm c54
        have h_88 : ∀ (v_rowLength : Int32) (v_symbolLengths : Int32) (v_distanceLengths : Int32) (c_row : Nat → Int32) (x3 : Int32) (s1 : Int32) (s2 : Int32) (H : Heap) (locs : List Loc) (ls : Array Slot), (Header_gather_88 F (mW5 (Header_gather_49 F n_p1_lengths n_p2_lengths c_p1_lengths c_p2_lengths) n_49)) v_rowLength v_symbolLengths v_distanceLengths c_row x3 s1 s2 = some res → va_P E.1 vwCl (Header_gather_w E a_p1 a_p1_lengths a_this a_p2 a_p2_lengths a_row n_p1_lengths n_p2_lengths x_p1_codes x_p1_next x_lists x_told x_counts x_code x_p2_codes x_p2_next c_p1_lengths c_p2_lengths v_rowLength v_symbolLengths v_distanceLengths c_row v_toldCount v_codeLengths) H → va_D A (Header_gather_w E a_p1 a_p1_lengths a_this a_p2 a_p2_lengths a_row n_p1_lengths n_p2_lengths x_p1_codes x_p1_next x_lists x_told x_counts x_code x_p2_codes x_p2_next c_p1_lengths c_p2_lengths v_rowLength v_symbolLengths v_distanceLengths c_row v_toldCount v_codeLengths) → va_S A s.heap H locs → lv_has ls 4 [(0, .ref a_this), (1, .ref a_p1), (2, .ref a_p2), (3, .int x3)] → W p l e Header_gather_rm s m args below meth c H locs 0 0 Q (F0 m 88 ls [.int s2, .int s1, .ref a_row]) := by
          intro v_rowLength v_symbolLengths v_distanceLengths c_row x3 s1 s2 H locs ls hm hP hD hS hl
          rw [Header_gather_88] at hm
          obtain ⟨hi88, hm⟩ := mG_e hm
          obtain ⟨c_1, ec_1⟩ : ∃ z : Nat → Int32, z = upd c_row s1.toNatClampNeg s2 := ⟨_, rfl⟩
          replace hm := mL_e hm c_1 ec_1
          refine va_iast hx hb hK hP hD hS 5 0 rfl rfl hi88 d_Header_gather_88 (fun H locs hP hD hS => ?_)
          rw [← ec_1] at hP hD
          replace hP : va_P E.1 vwCl (Header_gather_w E a_p1 a_p1_lengths a_this a_p2 a_p2_lengths a_row n_p1_lengths n_p2_lengths x_p1_codes x_p1_next x_lists x_told x_counts x_code x_p2_codes x_p2_next c_p1_lengths c_p2_lengths v_rowLength v_symbolLengths v_distanceLengths c_1 v_toldCount v_codeLengths) H := hP
          replace hD : va_D A (Header_gather_w E a_p1 a_p1_lengths a_this a_p2 a_p2_lengths a_row n_p1_lengths n_p2_lengths x_p1_codes x_p1_next x_lists x_told x_counts x_code x_p2_codes x_p2_next c_p1_lengths c_p2_lengths v_rowLength v_symbolLengths v_distanceLengths c_1 v_toldCount v_codeLengths) := hD
          obtain ⟨y3_2, ey3_2⟩ : ∃ y : Int32, y = x3 + 1 := ⟨_, rfl⟩
          replace hm := mL_e hm y3_2 ey3_2
          refine lv_iinc (v := y3_2) (lv' := [(3, .int y3_2), (0, .ref a_this), (1, .ref a_p1), (2, .ref a_p2)]) hx hb d_Header_gather_89 hl (k := 3) rfl (by rw [ey3_2]; rfl) (by decide) rfl (fun ls hl => ?_)
          refine lv_goto (tgt := 49) hx hb d_Header_gather_92 (by decide) ?_
          exact ih_49 _ _ _ _ _ H locs ls hm hP hD hS (lv_sub hl [1, 2, 3, 0] rfl)
        refine lv_aload_n hx hb d_Header_gather_57 rfl (lv_at hl 0 rfl) ?_
        refine va_get (D := E.1) (ci := 4) (v := .ref a_row) (C := R_Header) (T := F_Header) (N := 10) hx hb hts i_Header hown hK hP 2 rfl rfl 1 (by decide) (hts _ tw_203) (fun _ h9 => h9) rfl d_Header_gather_58 ?_
        refine lv_iload_n hx hb d_Header_gather_61 rfl (lv_at hl 3 rfl) ?_
        refine lv_iload_n hx hb d_Header_gather_62 rfl (lv_at hl 3 rfl) ?_
        refine lv_aload_n hx hb d_Header_gather_63 rfl (lv_at hl 0 rfl) ?_
        refine va_get (D := E.1) (ci := 4) (v := .int v_symbolLengths) (C := R_Header) (T := F_Header) (N := 10) hx hb hts i_Header hown hK hP 2 rfl rfl 7 (by decide) (hts _ tw_209) (fun _ h9 => h9) rfl d_Header_gather_64 ?_
        refine lv_icmp_ge (tgt := 78) hx hb d_Header_gather_67 (by decide) (fun c67 => ?_) (fun c67 => ?_)
        · replace hm := mC_t hm c67
          refine lv_aload_n hx hb d_Header_gather_78 rfl (lv_at hl 2 rfl) ?_
          refine lv_iload_n hx hb d_Header_gather_79 rfl (lv_at hl 3 rfl) ?_
          refine lv_aload_n hx hb d_Header_gather_80 rfl (lv_at hl 0 rfl) ?_
          refine va_get (D := E.1) (ci := 4) (v := .int v_symbolLengths) (C := R_Header) (T := F_Header) (N := 10) hx hb hts i_Header hown hK hP 2 rfl rfl 7 (by decide) (hts _ tw_209) (fun _ h9 => h9) rfl d_Header_gather_81 ?_
          refine lv_isub hx hb d_Header_gather_84 ?_
          obtain ⟨t_3, et_3⟩ : ∃ z : Int32, z = x3 - v_symbolLengths := ⟨_, rfl⟩
          rw [← et_3]
          replace hm := mL_e hm t_3 et_3
          obtain ⟨r_4, hc85, hm⟩ := mR0_e hm
          refine xmi (wc := (Code_lengthOf_w E a_p2 a_p2_lengths n_p2_lengths x_p2_codes x_p2_next c_p2_lengths)) [false, false, false, true, true, false] [0, 1] [0, 1] hP hD hS hA rfl (by decide) (by decide) 2 (by decide) (fun _ => rfl) (fun hPc hDc hFc => va_runV (As := [.int t_3]) (rest := [.int x3, .ref a_row]) ⟨hx, hb, hml, hown, hts⟩ (c_Code_lengthOf l E F H.size a_p2 a_p2_lengths n_p2_lengths x_p2_codes x_p2_next c_p2_lengths t_3 (r_4, ()) hc85) (cwV 1 hts (x_gV tw_548 tw_549 tw_550 tw_74 tw_551) rfl rfl rfl (by decide +kernel) ⟨Nat.le_of_ble_eq_true rfl, Nat.le_of_ble_eq_true rfl⟩) (xPV 3 0 rfl rfl hPc hDc hFc hK hI hN hS) rfl rfl hl.1 rfl (lv_room (Nat.le_of_ble_eq_true rfl)) d_Header_gather_85 ⟨Nat.le_of_ble_eq_true rfl, Nat.le_of_ble_eq_true rfl⟩) (fun r9 u9 H locs hw hP hD hS => ?_)
          have hw1 : r_4 = r9 := hw.1.symm
          subst hw1
          replace hP : va_P E.1 vwCl (Header_gather_w E a_p1 a_p1_lengths a_this a_p2 a_p2_lengths a_row n_p1_lengths n_p2_lengths x_p1_codes x_p1_next x_lists x_told x_counts x_code x_p2_codes x_p2_next c_p1_lengths c_p2_lengths v_rowLength v_symbolLengths v_distanceLengths c_row v_toldCount v_codeLengths) H := hP
          replace hD : va_D A (Header_gather_w E a_p1 a_p1_lengths a_this a_p2 a_p2_lengths a_row n_p1_lengths n_p2_lengths x_p1_codes x_p1_next x_lists x_told x_counts x_code x_p2_codes x_p2_next c_p1_lengths c_p2_lengths v_rowLength v_symbolLengths v_distanceLengths c_row v_toldCount v_codeLengths) := hD
          exact h_88 _ _ _ _ _ _ _ H locs ls hm hP hD hS hl
        · replace hm := mC_f hm c67
          refine lv_aload_n hx hb d_Header_gather_70 rfl (lv_at hl 1 rfl) ?_
          refine lv_iload_n hx hb d_Header_gather_71 rfl (lv_at hl 3 rfl) ?_
          obtain ⟨r_5, hc72, hm⟩ := mR0_e hm
          refine xmi (wc := (Code_lengthOf_w E a_p1 a_p1_lengths n_p1_lengths x_p1_codes x_p1_next c_p1_lengths)) [true, true, false, false, false, false] [0, 1] [0, 1] hP hD hS hA rfl (by decide) (by decide) 2 (by decide) (fun _ => rfl) (fun hPc hDc hFc => va_runV (As := [.int x3]) (rest := [.int x3, .ref a_row]) ⟨hx, hb, hml, hown, hts⟩ (c_Code_lengthOf l E F H.size a_p1 a_p1_lengths n_p1_lengths x_p1_codes x_p1_next c_p1_lengths x3 (r_5, ()) hc72) (cwV 1 hts (x_gV tw_548 tw_549 tw_550 tw_74 tw_551) rfl rfl rfl (by decide +kernel) ⟨Nat.le_of_ble_eq_true rfl, Nat.le_of_ble_eq_true rfl⟩) (xPV 3 0 rfl rfl hPc hDc hFc hK hI hN hS) rfl rfl hl.1 rfl (lv_room (Nat.le_of_ble_eq_true rfl)) d_Header_gather_72 ⟨Nat.le_of_ble_eq_true rfl, Nat.le_of_ble_eq_true rfl⟩) (fun r9 u9 H locs hw hP hD hS => ?_)
          have hw1 : r_5 = r9 := hw.1.symm
          subst hw1
          replace hP : va_P E.1 vwCl (Header_gather_w E a_p1 a_p1_lengths a_this a_p2 a_p2_lengths a_row n_p1_lengths n_p2_lengths x_p1_codes x_p1_next x_lists x_told x_counts x_code x_p2_codes x_p2_next c_p1_lengths c_p2_lengths v_rowLength v_symbolLengths v_distanceLengths c_row v_toldCount v_codeLengths) H := hP
          replace hD : va_D A (Header_gather_w E a_p1 a_p1_lengths a_this a_p2 a_p2_lengths a_row n_p1_lengths n_p2_lengths x_p1_codes x_p1_next x_lists x_told x_counts x_code x_p2_codes x_p2_next c_p1_lengths c_p2_lengths v_rowLength v_symbolLengths v_distanceLengths c_row v_toldCount v_codeLengths) := hD
          refine lv_goto (tgt := 88) hx hb d_Header_gather_75 (by decide) ?_
          exact h_88 _ _ _ _ _ _ _ H locs ls hm hP hD hS hl
  refine lv_aload_n hx hb d_Header_gather_0 rfl (lv_at hl 0 rfl) ?_
  refine lv_sipush (v := 257) hx hb d_Header_gather_1 (by decide) ?_
  refine lv_aload_n hx hb d_Header_gather_4 rfl (lv_at hl 1 rfl) ?_
  obtain ⟨r_6, hc5, hm⟩ := mR0_e hm
  refine xmi (wc := (Code_used_w E a_p1 a_p1_lengths n_p1_lengths x_p1_codes x_p1_next c_p1_lengths)) [true, true, false, false, false, false] [0, 1] [0, 1] hP hD hS hA rfl (by decide) (by decide) 2 (by decide) (fun _ => rfl) (fun hPc hDc hFc => va_runV (As := []) (rest := [.int 257, .ref a_this]) ⟨hx, hb, hml, hown, hts⟩ (c_Code_used l E F H.size a_p1 a_p1_lengths n_p1_lengths x_p1_codes x_p1_next c_p1_lengths (r_6, ()) hc5) (cwV 0 hts (x_gV tw_542 tw_543 tw_544 tw_74 tw_545) rfl rfl rfl (by decide +kernel) ⟨Nat.le_of_ble_eq_true rfl, Nat.le_of_ble_eq_true rfl⟩) (xPV 3 0 rfl rfl hPc hDc hFc hK hI hN hS) rfl rfl hl.1 rfl (lv_room (Nat.le_of_ble_eq_true rfl)) d_Header_gather_5 ⟨Nat.le_of_ble_eq_true rfl, Nat.le_of_ble_eq_true rfl⟩) (fun r9 u9 H locs hw hP hD hS => ?_)
  have hw1 : r_6 = r9 := hw.1.symm
  subst hw1
  replace hP : va_P E.1 vwCl (Header_gather_w E a_p1 a_p1_lengths a_this a_p2 a_p2_lengths a_row n_p1_lengths n_p2_lengths x_p1_codes x_p1_next x_lists x_told x_counts x_code x_p2_codes x_p2_next c_p1_lengths c_p2_lengths v_rowLength v_symbolLengths v_distanceLengths c_row v_toldCount v_codeLengths) H := hP
  replace hD : va_D A (Header_gather_w E a_p1 a_p1_lengths a_this a_p2 a_p2_lengths a_row n_p1_lengths n_p2_lengths x_p1_codes x_p1_next x_lists x_told x_counts x_code x_p2_codes x_p2_next c_p1_lengths c_p2_lengths v_rowLength v_symbolLengths v_distanceLengths c_row v_toldCount v_codeLengths) := hD
  refine va_mmax hx hb (hml.trans hl.1.symm) hown (hts _ tw_546) (hts _ tw_97) (hts _ tw_68) (hts _ tw_98) (Nat.le_of_ble_eq_true rfl) (Nat.le_of_ble_eq_true rfl) (Nat.le_of_ble_eq_true rfl) (Nat.le_of_ble_eq_true rfl) d_Header_gather_8 ?_
  refine lv_topi (fun v_7 ev_7 => ?_)
  replace hm := mL_e hm v_7 ev_7
  refine va_put (D := E.1) (ci := 4) (v := .int v_7) (ty := .int) (C := R_Header) (T := F_Header) (N := 10) hx hb hts i_Header t_Header t_Header_ok n_Header hown hK hP hD hS 2 rfl rfl 7 (by decide) (hts _ tw_209) (fun _ h9 => h9) rfl (by decide +kernel) rfl rfl (Nat.le_of_ble_eq_true rfl) d_Header_gather_11 (fun H locs hP hD hS => ?_)
  replace hP : va_P E.1 vwCl (Header_gather_w E a_p1 a_p1_lengths a_this a_p2 a_p2_lengths a_row n_p1_lengths n_p2_lengths x_p1_codes x_p1_next x_lists x_told x_counts x_code x_p2_codes x_p2_next c_p1_lengths c_p2_lengths v_rowLength v_7 v_distanceLengths c_row v_toldCount v_codeLengths) H := hP
  replace hD : va_D A (Header_gather_w E a_p1 a_p1_lengths a_this a_p2 a_p2_lengths a_row n_p1_lengths n_p2_lengths x_p1_codes x_p1_next x_lists x_told x_counts x_code x_p2_codes x_p2_next c_p1_lengths c_p2_lengths v_rowLength v_7 v_distanceLengths c_row v_toldCount v_codeLengths) := hD
  refine lv_aload_n hx hb d_Header_gather_14 rfl (lv_at hl 0 rfl) ?_
  refine lv_iconst (v := 1) hx hb d_Header_gather_15 (by decide) ?_
  refine lv_aload_n hx hb d_Header_gather_16 rfl (lv_at hl 2 rfl) ?_
  obtain ⟨r_8, hc17, hm⟩ := mR0_e hm
  refine xmi (wc := (Code_used_w E a_p2 a_p2_lengths n_p2_lengths x_p2_codes x_p2_next c_p2_lengths)) [false, false, false, true, true, false] [0, 1] [0, 1] hP hD hS hA rfl (by decide) (by decide) 2 (by decide) (fun _ => rfl) (fun hPc hDc hFc => va_runV (As := []) (rest := [.int 1, .ref a_this]) ⟨hx, hb, hml, hown, hts⟩ (c_Code_used l E F H.size a_p2 a_p2_lengths n_p2_lengths x_p2_codes x_p2_next c_p2_lengths (r_8, ()) hc17) (cwV 0 hts (x_gV tw_542 tw_543 tw_544 tw_74 tw_545) rfl rfl rfl (by decide +kernel) ⟨Nat.le_of_ble_eq_true rfl, Nat.le_of_ble_eq_true rfl⟩) (xPV 3 0 rfl rfl hPc hDc hFc hK hI hN hS) rfl rfl hl.1 rfl (lv_room (Nat.le_of_ble_eq_true rfl)) d_Header_gather_17 ⟨Nat.le_of_ble_eq_true rfl, Nat.le_of_ble_eq_true rfl⟩) (fun r9 u9 H locs hw hP hD hS => ?_)
  have hw1 : r_8 = r9 := hw.1.symm
  subst hw1
  replace hP : va_P E.1 vwCl (Header_gather_w E a_p1 a_p1_lengths a_this a_p2 a_p2_lengths a_row n_p1_lengths n_p2_lengths x_p1_codes x_p1_next x_lists x_told x_counts x_code x_p2_codes x_p2_next c_p1_lengths c_p2_lengths v_rowLength v_7 v_distanceLengths c_row v_toldCount v_codeLengths) H := hP
  replace hD : va_D A (Header_gather_w E a_p1 a_p1_lengths a_this a_p2 a_p2_lengths a_row n_p1_lengths n_p2_lengths x_p1_codes x_p1_next x_lists x_told x_counts x_code x_p2_codes x_p2_next c_p1_lengths c_p2_lengths v_rowLength v_7 v_distanceLengths c_row v_toldCount v_codeLengths) := hD
  refine va_mmax hx hb (hml.trans hl.1.symm) hown (hts _ tw_546) (hts _ tw_97) (hts _ tw_68) (hts _ tw_98) (Nat.le_of_ble_eq_true rfl) (Nat.le_of_ble_eq_true rfl) (Nat.le_of_ble_eq_true rfl) (Nat.le_of_ble_eq_true rfl) d_Header_gather_20 ?_
  refine lv_topi (fun v_9 ev_9 => ?_)
  replace hm := mL_e hm v_9 ev_9
  refine va_put (D := E.1) (ci := 4) (v := .int v_9) (ty := .int) (C := R_Header) (T := F_Header) (N := 10) hx hb hts i_Header t_Header t_Header_ok n_Header hown hK hP hD hS 2 rfl rfl 8 (by decide) (hts _ tw_210) (fun _ h9 => h9) rfl (by decide +kernel) rfl rfl (Nat.le_of_ble_eq_true rfl) d_Header_gather_23 (fun H locs hP hD hS => ?_)
  replace hP : va_P E.1 vwCl (Header_gather_w E a_p1 a_p1_lengths a_this a_p2 a_p2_lengths a_row n_p1_lengths n_p2_lengths x_p1_codes x_p1_next x_lists x_told x_counts x_code x_p2_codes x_p2_next c_p1_lengths c_p2_lengths v_rowLength v_7 v_9 c_row v_toldCount v_codeLengths) H := hP
  replace hD : va_D A (Header_gather_w E a_p1 a_p1_lengths a_this a_p2 a_p2_lengths a_row n_p1_lengths n_p2_lengths x_p1_codes x_p1_next x_lists x_told x_counts x_code x_p2_codes x_p2_next c_p1_lengths c_p2_lengths v_rowLength v_7 v_9 c_row v_toldCount v_codeLengths) := hD
  refine lv_aload_n hx hb d_Header_gather_26 rfl (lv_at hl 0 rfl) ?_
  refine lv_aload_n hx hb d_Header_gather_27 rfl (lv_at hl 0 rfl) ?_
  refine va_get (D := E.1) (ci := 4) (v := .int v_7) (C := R_Header) (T := F_Header) (N := 10) hx hb hts i_Header hown hK hP 2 rfl rfl 7 (by decide) (hts _ tw_209) (fun _ h9 => h9) rfl d_Header_gather_28 ?_
  refine lv_aload_n hx hb d_Header_gather_31 rfl (lv_at hl 0 rfl) ?_
  refine va_get (D := E.1) (ci := 4) (v := .int v_9) (C := R_Header) (T := F_Header) (N := 10) hx hb hts i_Header hown hK hP 2 rfl rfl 8 (by decide) (hts _ tw_210) (fun _ h9 => h9) rfl d_Header_gather_32 ?_
  refine lv_iadd hx hb d_Header_gather_35 ?_
  refine lv_aload_n hx hb d_Header_gather_36 rfl (lv_at hl 0 rfl) ?_
  refine va_get (D := E.1) (ci := 4) (v := .ref a_row) (C := R_Header) (T := F_Header) (N := 10) hx hb hts i_Header hown hK hP 2 rfl rfl 1 (by decide) (hts _ tw_203) (fun _ h9 => h9) rfl d_Header_gather_37 ?_
  refine va_alen (v := 320) hx hb hK hP 5 0 rfl rfl rfl d_Header_gather_40 ?_
  obtain ⟨t_10, et_10⟩ : ∃ z : Int32, z = v_7 + v_9 := ⟨_, rfl⟩
  rw [← et_10]
  replace hm := mL_e hm t_10 et_10
  refine va_mmin hx hb (hml.trans hl.1.symm) hown (hts _ tw_547) (hts _ tw_458) (hts _ tw_68) (hts _ tw_459) (Nat.le_of_ble_eq_true rfl) (Nat.le_of_ble_eq_true rfl) (Nat.le_of_ble_eq_true rfl) (Nat.le_of_ble_eq_true rfl) d_Header_gather_41 ?_
  refine lv_topi (fun v_11 ev_11 => ?_)
  replace hm := mL_e hm v_11 ev_11
  refine va_put (D := E.1) (ci := 4) (v := .int v_11) (ty := .int) (C := R_Header) (T := F_Header) (N := 10) hx hb hts i_Header t_Header t_Header_ok n_Header hown hK hP hD hS 2 rfl rfl 5 (by decide) (hts _ tw_207) (fun _ h9 => h9) rfl (by decide +kernel) rfl rfl (Nat.le_of_ble_eq_true rfl) d_Header_gather_44 (fun H locs hP hD hS => ?_)
  replace hP : va_P E.1 vwCl (Header_gather_w E a_p1 a_p1_lengths a_this a_p2 a_p2_lengths a_row n_p1_lengths n_p2_lengths x_p1_codes x_p1_next x_lists x_told x_counts x_code x_p2_codes x_p2_next c_p1_lengths c_p2_lengths v_11 v_7 v_9 c_row v_toldCount v_codeLengths) H := hP
  replace hD : va_D A (Header_gather_w E a_p1 a_p1_lengths a_this a_p2 a_p2_lengths a_row n_p1_lengths n_p2_lengths x_p1_codes x_p1_next x_lists x_told x_counts x_code x_p2_codes x_p2_next c_p1_lengths c_p2_lengths v_11 v_7 v_9 c_row v_toldCount v_codeLengths) := hD
  refine lv_iconst (v := 0) hx hb d_Header_gather_47 (by decide) ?_
  refine lv_istore_n (lv' := [(3, .int 0), (0, .ref a_this), (1, .ref a_p1), (2, .ref a_p2)]) hx hb d_Header_gather_48 rfl hl (by decide) rfl (fun ls hl => ?_)
  exact h_49 F _ _ _ _ _ H locs ls hm hP hD hS (lv_sub hl [1, 2, 3, 0] rfl)
theorem d_Header_plan_0 : decode b_Header_plan 0 = .ok (.aload_n 0, 1) := by decide +kernel
theorem d_Header_plan_1 : decode b_Header_plan 1 = .ok (.aload_n 1, 1) := by decide +kernel
theorem d_Header_plan_2 : decode b_Header_plan 2 = .ok (.aload_n 2, 1) := by decide +kernel
theorem d_Header_plan_3 : decode b_Header_plan 3 = .ok (.invokevirtual 34, 3) := by decide +kernel
theorem d_Header_plan_6 : decode b_Header_plan 6 = .ok (.aload_n 0, 1) := by decide +kernel
theorem d_Header_plan_7 : decode b_Header_plan 7 = .ok (.invokevirtual 38, 3) := by decide +kernel
theorem d_Header_plan_10 : decode b_Header_plan 10 = .ok (.aload_n 0, 1) := by decide +kernel
theorem d_Header_plan_11 : decode b_Header_plan 11 = .ok (.getfield 9, 3) := by decide +kernel
theorem d_Header_plan_14 : decode b_Header_plan 14 = .ok (.aload_n 0, 1) := by decide +kernel
theorem d_Header_plan_15 : decode b_Header_plan 15 = .ok (.getfield 22, 3) := by decide +kernel
theorem d_Header_plan_18 : decode b_Header_plan 18 = .ok (.bipush 7, 2) := by decide +kernel
theorem d_Header_plan_20 : decode b_Header_plan 20 = .ok (.aload_n 0, 1) := by decide +kernel
theorem d_Header_plan_21 : decode b_Header_plan 21 = .ok (.getfield 30, 3) := by decide +kernel
theorem d_Header_plan_24 : decode b_Header_plan 24 = .ok (.getfield 41, 3) := by decide +kernel
theorem d_Header_plan_27 : decode b_Header_plan 27 = .ok (.invokevirtual 44, 3) := by decide +kernel
theorem d_Header_plan_30 : decode b_Header_plan 30 = .ok (.aload_n 0, 1) := by decide +kernel
theorem d_Header_plan_31 : decode b_Header_plan 31 = .ok (.getfield 30, 3) := by decide +kernel
theorem d_Header_plan_34 : decode b_Header_plan 34 = .ok (.invokevirtual 50, 3) := by decide +kernel
theorem d_Header_plan_37 : decode b_Header_plan 37 = .ok (.aload_n 0, 1) := by decide +kernel
theorem d_Header_plan_38 : decode b_Header_plan 38 = .ok (.getstatic 53, 3) := by decide +kernel
theorem d_Header_plan_41 : decode b_Header_plan 41 = .ok (.arraylength, 1) := by decide +kernel
theorem d_Header_plan_42 : decode b_Header_plan 42 = .ok (.putfield 56, 3) := by decide +kernel
theorem d_Header_plan_45 : decode b_Header_plan 45 = .ok (.aload_n 0, 1) := by decide +kernel
theorem d_Header_plan_46 : decode b_Header_plan 46 = .ok (.getfield 56, 3) := by decide +kernel
theorem d_Header_plan_49 : decode b_Header_plan 49 = .ok (.iconst 4, 1) := by decide +kernel
theorem d_Header_plan_50 : decode b_Header_plan 50 = .ok (.if_icmp .le 36, 3) := by decide +kernel
theorem d_Header_plan_53 : decode b_Header_plan 53 = .ok (.aload_n 0, 1) := by decide +kernel
theorem d_Header_plan_54 : decode b_Header_plan 54 = .ok (.getfield 30, 3) := by decide +kernel
theorem d_Header_plan_57 : decode b_Header_plan 57 = .ok (.getstatic 53, 3) := by decide +kernel
theorem d_Header_plan_60 : decode b_Header_plan 60 = .ok (.aload_n 0, 1) := by decide +kernel
theorem d_Header_plan_61 : decode b_Header_plan 61 = .ok (.getfield 56, 3) := by decide +kernel
theorem d_Header_plan_64 : decode b_Header_plan 64 = .ok (.iconst 1, 1) := by decide +kernel
theorem d_Header_plan_65 : decode b_Header_plan 65 = .ok (.isub, 1) := by decide +kernel
theorem d_Header_plan_66 : decode b_Header_plan 66 = .ok (.iaload, 1) := by decide +kernel
theorem d_Header_plan_67 : decode b_Header_plan 67 = .ok (.invokevirtual 60, 3) := by decide +kernel
theorem d_Header_plan_70 : decode b_Header_plan 70 = .ok (.ifCond .ne 16, 3) := by decide +kernel
theorem d_Header_plan_73 : decode b_Header_plan 73 = .ok (.aload_n 0, 1) := by decide +kernel
theorem d_Header_plan_74 : decode b_Header_plan 74 = .ok (.dup, 1) := by decide +kernel
theorem d_Header_plan_75 : decode b_Header_plan 75 = .ok (.getfield 56, 3) := by decide +kernel
theorem d_Header_plan_78 : decode b_Header_plan 78 = .ok (.iconst 1, 1) := by decide +kernel
theorem d_Header_plan_79 : decode b_Header_plan 79 = .ok (.isub, 1) := by decide +kernel
theorem d_Header_plan_80 : decode b_Header_plan 80 = .ok (.putfield 56, 3) := by decide +kernel
theorem d_Header_plan_83 : decode b_Header_plan 83 = .ok (.goto (-38), 3) := by decide +kernel
theorem d_Header_plan_86 : decode b_Header_plan 86 = .ok (.bipush 14, 2) := by decide +kernel
theorem d_Header_plan_88 : decode b_Header_plan 88 = .ok (.iconst 3, 1) := by decide +kernel
theorem d_Header_plan_89 : decode b_Header_plan 89 = .ok (.aload_n 0, 1) := by decide +kernel
theorem d_Header_plan_90 : decode b_Header_plan 90 = .ok (.getfield 56, 3) := by decide +kernel
theorem d_Header_plan_93 : decode b_Header_plan 93 = .ok (.imul, 1) := by decide +kernel
theorem d_Header_plan_94 : decode b_Header_plan 94 = .ok (.iadd, 1) := by decide +kernel
theorem d_Header_plan_95 : decode b_Header_plan 95 = .ok (.aload_n 0, 1) := by decide +kernel
theorem d_Header_plan_96 : decode b_Header_plan 96 = .ok (.getfield 30, 3) := by decide +kernel
theorem d_Header_plan_99 : decode b_Header_plan 99 = .ok (.aload_n 0, 1) := by decide +kernel
theorem d_Header_plan_100 : decode b_Header_plan 100 = .ok (.getfield 22, 3) := by decide +kernel
theorem d_Header_plan_103 : decode b_Header_plan 103 = .ok (.invokevirtual 64, 3) := by decide +kernel
theorem d_Header_plan_106 : decode b_Header_plan 106 = .ok (.iadd, 1) := by decide +kernel
theorem d_Header_plan_107 : decode b_Header_plan 107 = .ok (.istore_n 3, 1) := by decide +kernel
theorem d_Header_plan_108 : decode b_Header_plan 108 = .ok (.bipush 16, 2) := by decide +kernel
theorem d_Header_plan_110 : decode b_Header_plan 110 = .ok (.istore 4, 2) := by decide +kernel
theorem d_Header_plan_112 : decode b_Header_plan 112 = .ok (.iload 4, 2) := by decide +kernel
theorem d_Header_plan_114 : decode b_Header_plan 114 = .ok (.aload_n 0, 1) := by decide +kernel
theorem d_Header_plan_115 : decode b_Header_plan 115 = .ok (.getfield 22, 3) := by decide +kernel
theorem d_Header_plan_118 : decode b_Header_plan 118 = .ok (.arraylength, 1) := by decide +kernel
theorem d_Header_plan_119 : decode b_Header_plan 119 = .ok (.if_icmp .ge 25, 3) := by decide +kernel
theorem d_Header_plan_122 : decode b_Header_plan 122 = .ok (.iload_n 3, 1) := by decide +kernel
theorem d_Header_plan_123 : decode b_Header_plan 123 = .ok (.aload_n 0, 1) := by decide +kernel
theorem d_Header_plan_124 : decode b_Header_plan 124 = .ok (.getfield 22, 3) := by decide +kernel
theorem d_Header_plan_127 : decode b_Header_plan 127 = .ok (.iload 4, 2) := by decide +kernel
theorem d_Header_plan_129 : decode b_Header_plan 129 = .ok (.iaload, 1) := by decide +kernel
theorem d_Header_plan_130 : decode b_Header_plan 130 = .ok (.iload 4, 2) := by decide +kernel
theorem d_Header_plan_132 : decode b_Header_plan 132 = .ok (.invokestatic 68, 3) := by decide +kernel
theorem d_Header_plan_135 : decode b_Header_plan 135 = .ok (.imul, 1) := by decide +kernel
theorem d_Header_plan_136 : decode b_Header_plan 136 = .ok (.iadd, 1) := by decide +kernel
theorem d_Header_plan_137 : decode b_Header_plan 137 = .ok (.istore_n 3, 1) := by decide +kernel
theorem d_Header_plan_138 : decode b_Header_plan 138 = .ok (.iinc 4 1, 3) := by decide +kernel
theorem d_Header_plan_141 : decode b_Header_plan 141 = .ok (.goto (-29), 3) := by decide +kernel
theorem d_Header_plan_144 : decode b_Header_plan 144 = .ok (.iload_n 3, 1) := by decide +kernel
theorem d_Header_plan_145 : decode b_Header_plan 145 = .ok (.ireturn, 1) := by decide +kernel
def Header_plan_112 (F : Nat) (k_112 : Int32 → Int32 → Int32 → Int32 → Int32 → (Nat → Int32) → (Nat → Int32) → (Nat → Int32) → (Nat → Int32) → Int32 → (Nat → Int32) → (Nat → Int32) → (Nat → Int32) → (Nat → Int32) → (Nat → Nat → Int32) → (Nat → Int32) → (Nat → Int32) → Int32 → Int32 → Option (Int32 × Int32 × Int32 × Int32 × Int32 × Int32 × (Nat → Int32) × (Nat → Int32) × (Nat → Int32) × (Nat → Int32) × Int32 × (Nat → Int32) × (Nat → Int32) × (Nat → Int32) × (Nat → Int32) × (Nat → Nat → Int32) × (Nat → Int32) × (Nat → Int32))) (v_rowLength : Int32) (v_toldCount : Int32) (v_symbolLengths : Int32) (v_distanceLengths : Int32) (v_codeLengths : Int32) (c_row : Nat → Int32) (c_counts : Nat → Int32) (c_told : Nat → Int32) (c_code_lengths : Nat → Int32) (v_lists_many : Int32) (c_lists_counts : Nat → Int32) (c_lists_symbols : Nat → Int32) (c_lists_itemsBefore : Nat → Int32) (c_lists_items : Nat → Int32) (c_lists_pairs : Nat → Nat → Int32) (c_code_next : Nat → Int32) (c_code_codes : Nat → Int32) (x3 : Int32) (x4 : Int32) : Option (Int32 × Int32 × Int32 × Int32 × Int32 × Int32 × (Nat → Int32) × (Nat → Int32) × (Nat → Int32) × (Nat → Int32) × Int32 × (Nat → Int32) × (Nat → Int32) × (Nat → Int32) × (Nat → Int32) × (Nat → Nat → Int32) × (Nat → Int32) × (Nat → Int32)) :=
  mC (19 ≤ x4) (some (x3, v_rowLength, v_toldCount, v_symbolLengths, v_distanceLengths, v_codeLengths, c_row, c_counts, c_told, c_code_lengths, v_lists_many, c_lists_counts, c_lists_symbols, c_lists_itemsBefore, c_lists_items, c_lists_pairs, c_code_next, c_code_codes)) (mG x4 19 (mR0 (P_repeatExtra F x4) fun r_1 => mL (x3 + ((c_counts x4.toNatClampNeg) * r_1)) fun y3_2 => mL (x4 + 1) fun y4_3 => k_112 v_rowLength v_toldCount v_symbolLengths v_distanceLengths v_codeLengths c_row c_counts c_told c_code_lengths v_lists_many c_lists_counts c_lists_symbols c_lists_itemsBefore c_lists_items c_lists_pairs c_code_next c_code_codes y3_2 y4_3))
def Header_plan_86 (F : Nat) (n_code_lengths : Nat) (v_rowLength : Int32) (v_toldCount : Int32) (v_symbolLengths : Int32) (v_distanceLengths : Int32) (v_codeLengths : Int32) (c_row : Nat → Int32) (c_counts : Nat → Int32) (c_told : Nat → Int32) (c_code_lengths : Nat → Int32) (v_lists_many : Int32) (c_lists_counts : Nat → Int32) (c_lists_symbols : Nat → Int32) (c_lists_itemsBefore : Nat → Int32) (c_lists_items : Nat → Int32) (c_lists_pairs : Nat → Nat → Int32) (c_code_next : Nat → Int32) (c_code_codes : Nat → Int32) : Option (Int32 × Int32 × Int32 × Int32 × Int32 × Int32 × (Nat → Int32) × (Nat → Int32) × (Nat → Int32) × (Nat → Int32) × Int32 × (Nat → Int32) × (Nat → Int32) × (Nat → Int32) × (Nat → Int32) × (Nat → Nat → Int32) × (Nat → Int32) × (Nat → Int32)) :=
  mR0 (Code_bitsFor F n_code_lengths 19 c_code_lengths c_counts) fun r_4 => mL ((14 + (3 * v_codeLengths)) + r_4) fun y3_5 => (mW19 (Header_plan_112 F) F) v_rowLength v_toldCount v_symbolLengths v_distanceLengths v_codeLengths c_row c_counts c_told c_code_lengths v_lists_many c_lists_counts c_lists_symbols c_lists_itemsBefore c_lists_items c_lists_pairs c_code_next c_code_codes y3_5 16
def Header_plan_45 (F : Nat) (n_code_lengths : Nat) (k_86 : Int32 → Int32 → Int32 → Int32 → Int32 → (Nat → Int32) → (Nat → Int32) → (Nat → Int32) → (Nat → Int32) → Int32 → (Nat → Int32) → (Nat → Int32) → (Nat → Int32) → (Nat → Int32) → (Nat → Nat → Int32) → (Nat → Int32) → (Nat → Int32) → Option (Int32 × Int32 × Int32 × Int32 × Int32 × Int32 × (Nat → Int32) × (Nat → Int32) × (Nat → Int32) × (Nat → Int32) × Int32 × (Nat → Int32) × (Nat → Int32) × (Nat → Int32) × (Nat → Int32) × (Nat → Nat → Int32) × (Nat → Int32) × (Nat → Int32))) (k_45 : Int32 → Int32 → Int32 → Int32 → Int32 → (Nat → Int32) → (Nat → Int32) → (Nat → Int32) → (Nat → Int32) → Int32 → (Nat → Int32) → (Nat → Int32) → (Nat → Int32) → (Nat → Int32) → (Nat → Nat → Int32) → (Nat → Int32) → (Nat → Int32) → Option (Int32 × Int32 × Int32 × Int32 × Int32 × Int32 × (Nat → Int32) × (Nat → Int32) × (Nat → Int32) × (Nat → Int32) × Int32 × (Nat → Int32) × (Nat → Int32) × (Nat → Int32) × (Nat → Int32) × (Nat → Nat → Int32) × (Nat → Int32) × (Nat → Int32))) (v_rowLength : Int32) (v_toldCount : Int32) (v_symbolLengths : Int32) (v_distanceLengths : Int32) (v_codeLengths : Int32) (c_row : Nat → Int32) (c_counts : Nat → Int32) (c_told : Nat → Int32) (c_code_lengths : Nat → Int32) (v_lists_many : Int32) (c_lists_counts : Nat → Int32) (c_lists_symbols : Nat → Int32) (c_lists_itemsBefore : Nat → Int32) (c_lists_items : Nat → Int32) (c_lists_pairs : Nat → Nat → Int32) (c_code_next : Nat → Int32) (c_code_codes : Nat → Int32) : Option (Int32 × Int32 × Int32 × Int32 × Int32 × Int32 × (Nat → Int32) × (Nat → Int32) × (Nat → Int32) × (Nat → Int32) × Int32 × (Nat → Int32) × (Nat → Int32) × (Nat → Int32) × (Nat → Int32) × (Nat → Nat → Int32) × (Nat → Int32) × (Nat → Int32)) :=
  mC (v_codeLengths ≤ 4) (k_86 v_rowLength v_toldCount v_symbolLengths v_distanceLengths v_codeLengths c_row c_counts c_told c_code_lengths v_lists_many c_lists_counts c_lists_symbols c_lists_itemsBefore c_lists_items c_lists_pairs c_code_next c_code_codes) (mL (v_codeLengths - 1) fun i_6 => mG i_6 19 (mL (tb_order i_6.toNatClampNeg) fun t_7 => mR0 (Code_lengthOf F n_code_lengths c_code_lengths t_7) fun r_8 => mC (r_8 = 0) (mL (v_codeLengths - 1) fun v_9 => k_45 v_rowLength v_toldCount v_symbolLengths v_distanceLengths v_9 c_row c_counts c_told c_code_lengths v_lists_many c_lists_counts c_lists_symbols c_lists_itemsBefore c_lists_items c_lists_pairs c_code_next c_code_codes) (k_86 v_rowLength v_toldCount v_symbolLengths v_distanceLengths v_codeLengths c_row c_counts c_told c_code_lengths v_lists_many c_lists_counts c_lists_symbols c_lists_itemsBefore c_lists_items c_lists_pairs c_code_next c_code_codes)))
abbrev Header_plan_w (E : xE) (a_p1 : Nat) (a_p1_lengths : Nat) (a_this : Nat) (a_p2 : Nat) (a_p2_lengths : Nat) (a_row : Nat) (a_counts : Nat) (a_told : Nat) (a_code : Nat) (a_code_lengths : Nat) (a_lists : Nat) (a_lists_counts : Nat) (a_lists_symbols : Nat) (a_lists_itemsBefore : Nat) (a_lists_items : Nat) (a_lists_pairs : Nat) (a_code_next : Nat) (a_code_codes : Nat) (d_lists_pairs : Nat → Nat) (n_p1_lengths : Nat) (n_p2_lengths : Nat) (n_code_lengths : Nat) (n_code_codes : Nat) (x_p1_codes : Value) (x_p1_next : Value) (x_p2_codes : Value) (x_p2_next : Value) (c_p1_lengths : Nat → Int32) (c_p2_lengths : Nat → Int32) (v_rowLength : Int32) (v_toldCount : Int32) (v_symbolLengths : Int32) (v_distanceLengths : Int32) (v_codeLengths : Int32) (c_row : Nat → Int32) (c_counts : Nat → Int32) (c_told : Nat → Int32) (c_code_lengths : Nat → Int32) (v_lists_many : Int32) (c_lists_counts : Nat → Int32) (c_lists_symbols : Nat → Int32) (c_lists_itemsBefore : Nat → Int32) (c_lists_items : Nat → Int32) (c_lists_pairs : Nat → Nat → Int32) (c_code_next : Nat → Int32) (c_code_codes : Nat → Int32) : va_W := [(a_p1, .inr (3, [.ref a_p1_lengths, x_p1_codes, x_p1_next])), (a_p1_lengths, .inl (E.2.1, n_p1_lengths, .inl c_p1_lengths)), (a_this, .inr (4, [.ref a_lists, .ref a_row, .ref a_told, .ref a_counts, .ref a_code, .int v_rowLength, .int v_toldCount, .int v_symbolLengths, .int v_distanceLengths, .int v_codeLengths])), (a_p2, .inr (3, [.ref a_p2_lengths, x_p2_codes, x_p2_next])), (a_p2_lengths, .inl (E.2.1, n_p2_lengths, .inl c_p2_lengths)), (a_row, .inl (E.2.1, 320, .inl c_row)), (a_counts, .inl (E.2.1, 19, .inl c_counts)), (a_told, .inl (E.2.1, 320, .inl c_told)), (a_code, .inr (3, [.ref a_code_lengths, .ref a_code_codes, .ref a_code_next])), (a_code_lengths, .inl (E.2.1, n_code_lengths, .inl c_code_lengths)), (a_lists, .inr (5, [.ref a_lists_symbols, .ref a_lists_counts, .ref a_lists_pairs, .ref a_lists_items, .ref a_lists_itemsBefore, .int v_lists_many])), (a_lists_counts, .inl (E.2.1, 288, .inl c_lists_counts)), (a_lists_symbols, .inl (E.2.1, 288, .inl c_lists_symbols)), (a_lists_itemsBefore, .inl (E.2.1, 576, .inl c_lists_itemsBefore)), (a_lists_items, .inl (E.2.1, 576, .inl c_lists_items)), (a_lists_pairs, .inl (E.2.2.2.1, 15, .inr (.inr (.inr (.inr (fun j => some (d_lists_pairs j))))))), (d_lists_pairs 0, .inl (E.2.2.1, 576, .inl (c_lists_pairs 0))), (d_lists_pairs 1, .inl (E.2.2.1, 576, .inl (c_lists_pairs 1))), (d_lists_pairs 2, .inl (E.2.2.1, 576, .inl (c_lists_pairs 2))), (d_lists_pairs 3, .inl (E.2.2.1, 576, .inl (c_lists_pairs 3))), (d_lists_pairs 4, .inl (E.2.2.1, 576, .inl (c_lists_pairs 4))), (d_lists_pairs 5, .inl (E.2.2.1, 576, .inl (c_lists_pairs 5))), (d_lists_pairs 6, .inl (E.2.2.1, 576, .inl (c_lists_pairs 6))), (d_lists_pairs 7, .inl (E.2.2.1, 576, .inl (c_lists_pairs 7))), (d_lists_pairs 8, .inl (E.2.2.1, 576, .inl (c_lists_pairs 8))), (d_lists_pairs 9, .inl (E.2.2.1, 576, .inl (c_lists_pairs 9))), (d_lists_pairs 10, .inl (E.2.2.1, 576, .inl (c_lists_pairs 10))), (d_lists_pairs 11, .inl (E.2.2.1, 576, .inl (c_lists_pairs 11))), (d_lists_pairs 12, .inl (E.2.2.1, 576, .inl (c_lists_pairs 12))), (d_lists_pairs 13, .inl (E.2.2.1, 576, .inl (c_lists_pairs 13))), (d_lists_pairs 14, .inl (E.2.2.1, 576, .inl (c_lists_pairs 14))), (a_code_next, .inl (E.2.1, 16, .inl c_code_next)), (a_code_codes, .inl (E.2.1, n_code_codes, .inl c_code_codes))]
def Header_plan (F : Nat) (n_p1_lengths : Nat) (n_p2_lengths : Nat) (n_code_lengths : Nat) (n_code_codes : Nat) (c_p1_lengths : Nat → Int32) (c_p2_lengths : Nat → Int32) (v_rowLength : Int32) (v_toldCount : Int32) (v_symbolLengths : Int32) (v_distanceLengths : Int32) (v_codeLengths : Int32) (c_row : Nat → Int32) (c_counts : Nat → Int32) (c_told : Nat → Int32) (c_code_lengths : Nat → Int32) (v_lists_many : Int32) (c_lists_counts : Nat → Int32) (c_lists_symbols : Nat → Int32) (c_lists_itemsBefore : Nat → Int32) (c_lists_items : Nat → Int32) (c_lists_pairs : Nat → Nat → Int32) (c_code_next : Nat → Int32) (c_code_codes : Nat → Int32) : Option (Int32 × Int32 × Int32 × Int32 × Int32 × Int32 × (Nat → Int32) × (Nat → Int32) × (Nat → Int32) × (Nat → Int32) × Int32 × (Nat → Int32) × (Nat → Int32) × (Nat → Int32) × (Nat → Int32) × (Nat → Nat → Int32) × (Nat → Int32) × (Nat → Int32)) :=
  mR4 (Header_gather F n_p1_lengths n_p2_lengths c_p1_lengths c_p2_lengths v_rowLength v_symbolLengths v_distanceLengths c_row) fun _ v_rowLength_10 v_symbolLengths_11 v_distanceLengths_12 c_row_13 => mR3 (Header_tellRow F v_rowLength_10 c_row_13 v_toldCount c_counts c_told) fun _ v_toldCount_15 c_counts_16 c_told_17 => mR7 (Lists_fit F n_code_lengths 19 c_counts_16 c_code_lengths v_lists_many c_lists_counts c_lists_symbols c_lists_itemsBefore c_lists_items c_lists_pairs 7) fun _ c_p3_19 v_many_20 c_counts_21 c_symbols_22 c_itemsBefore_23 c_items_24 c_pairs_25 => mR2 (Code_assign F n_code_lengths n_code_codes c_p3_19 c_code_next c_code_codes) fun _ c_next_29 c_codes_30 => (mW17 (Header_plan_45 F n_code_lengths (Header_plan_86 F n_code_lengths)) F) v_rowLength_10 v_toldCount_15 v_symbolLengths_11 v_distanceLengths_12 19 c_row_13 c_counts_16 c_told_17 c_p3_19 v_many_20 c_counts_21 c_symbols_22 c_itemsBefore_23 c_items_24 c_pairs_25 c_next_29 c_codes_30
abbrev Header_plan_rm : Room := { frames := 3, cells := 0, slots := 0, locals := 72 }
set_option maxHeartbeats 4000000 in
set_option maxRecDepth 100000 in
theorem c_Header_plan (l : Launch) (E : xE) (F sz : Nat) (a_p1 : Nat) (a_p1_lengths : Nat) (a_this : Nat) (a_p2 : Nat) (a_p2_lengths : Nat) (a_row : Nat) (a_counts : Nat) (a_told : Nat) (a_code : Nat) (a_code_lengths : Nat) (a_lists : Nat) (a_lists_counts : Nat) (a_lists_symbols : Nat) (a_lists_itemsBefore : Nat) (a_lists_items : Nat) (a_lists_pairs : Nat) (a_code_next : Nat) (a_code_codes : Nat) (d_lists_pairs : Nat → Nat) (n_p1_lengths : Nat) (n_p2_lengths : Nat) (n_code_lengths : Nat) (n_code_codes : Nat) (x_p1_codes : Value) (x_p1_next : Value) (x_p2_codes : Value) (x_p2_next : Value) (c_p1_lengths : Nat → Int32) (c_p2_lengths : Nat → Int32) (v_rowLength : Int32) (v_toldCount : Int32) (v_symbolLengths : Int32) (v_distanceLengths : Int32) (v_codeLengths : Int32) (c_row : Nat → Int32) (c_counts : Nat → Int32) (c_told : Nat → Int32) (c_code_lengths : Nat → Int32) (v_lists_many : Int32) (c_lists_counts : Nat → Int32) (c_lists_symbols : Nat → Int32) (c_lists_itemsBefore : Nat → Int32) (c_lists_items : Nat → Int32) (c_lists_pairs : Nat → Nat → Int32) (c_code_next : Nat → Int32) (c_code_codes : Nat → Int32) (res : Int32 × Int32 × Int32 × Int32 × Int32 × Int32 × (Nat → Int32) × (Nat → Int32) × (Nat → Int32) × (Nat → Int32) × Int32 × (Nat → Int32) × (Nat → Int32) × (Nat → Int32) × (Nat → Int32) × (Nat → Nat → Int32) × (Nat → Int32) × (Nat → Int32)) (hm : Header_plan F n_p1_lengths n_p2_lengths n_code_lengths n_code_codes c_p1_lengths c_p2_lengths v_rowLength v_toldCount v_symbolLengths v_distanceLengths v_codeLengths c_row c_counts c_told c_code_lengths v_lists_many c_lists_counts c_lists_symbols c_lists_itemsBefore c_lists_items c_lists_pairs c_code_next c_code_codes = some res) : Met l y_Header_plan (Cond.code y_Header_plan b_Header_plan 5 (some .int) :: x_tb) Header_plan_rm (va_Pc [.ref a_this, .ref a_p1, .ref a_p2] (xPre E (Header_plan_w E a_p1 a_p1_lengths a_this a_p2 a_p2_lengths a_row a_counts a_told a_code a_code_lengths a_lists a_lists_counts a_lists_symbols a_lists_itemsBefore a_lists_items a_lists_pairs a_code_next a_code_codes d_lists_pairs n_p1_lengths n_p2_lengths n_code_lengths n_code_codes x_p1_codes x_p1_next x_p2_codes x_p2_next c_p1_lengths c_p2_lengths v_rowLength v_toldCount v_symbolLengths v_distanceLengths v_codeLengths c_row c_counts c_told c_code_lengths v_lists_many c_lists_counts c_lists_symbols c_lists_itemsBefore c_lists_items c_lists_pairs c_code_next c_code_codes) sz)) (xQi E (fun (r : Int32) (u : (Int32 × Int32 × Int32 × Int32 × Int32 × (Nat → Int32) × (Nat → Int32) × (Nat → Int32) × (Nat → Int32) × Int32 × (Nat → Int32) × (Nat → Int32) × (Nat → Int32) × (Nat → Int32) × (Nat → Nat → Int32) × (Nat → Int32) × (Nat → Int32)) × Nat × Nat) => r = res.1 ∧ u.1 = res.2) (fun (u : (Int32 × Int32 × Int32 × Int32 × Int32 × (Nat → Int32) × (Nat → Int32) × (Nat → Int32) × (Nat → Int32) × Int32 × (Nat → Int32) × (Nat → Int32) × (Nat → Int32) × (Nat → Int32) × (Nat → Nat → Int32) × (Nat → Int32) × (Nat → Int32)) × Nat × Nat) => (Header_plan_w E a_p1 a_p1_lengths a_this a_p2 a_p2_lengths a_row a_counts a_told a_code a_code_lengths a_lists a_lists_counts a_lists_symbols u.2.1 u.2.2 a_lists_pairs a_code_next a_code_codes d_lists_pairs n_p1_lengths n_p2_lengths n_code_lengths n_code_codes x_p1_codes x_p1_next x_p2_codes x_p2_next c_p1_lengths c_p2_lengths u.1.1 u.1.2.1 u.1.2.2.1 u.1.2.2.2.1 u.1.2.2.2.2.1 u.1.2.2.2.2.2.1 u.1.2.2.2.2.2.2.1 u.1.2.2.2.2.2.2.2.1 u.1.2.2.2.2.2.2.2.2.1 u.1.2.2.2.2.2.2.2.2.2.1 u.1.2.2.2.2.2.2.2.2.2.2.1 u.1.2.2.2.2.2.2.2.2.2.2.2.1 u.1.2.2.2.2.2.2.2.2.2.2.2.2.1 u.1.2.2.2.2.2.2.2.2.2.2.2.2.2.1 u.1.2.2.2.2.2.2.2.2.2.2.2.2.2.2.1 u.1.2.2.2.2.2.2.2.2.2.2.2.2.2.2.2.1 u.1.2.2.2.2.2.2.2.2.2.2.2.2.2.2.2.2)) (va_A (Header_plan_w E a_p1 a_p1_lengths a_this a_p2 a_p2_lengths a_row a_counts a_told a_code a_code_lengths a_lists a_lists_counts a_lists_symbols a_lists_itemsBefore a_lists_items a_lists_pairs a_code_next a_code_codes d_lists_pairs n_p1_lengths n_p2_lengths n_code_lengths n_code_codes x_p1_codes x_p1_next x_p2_codes x_p2_next c_p1_lengths c_p2_lengths v_rowLength v_toldCount v_symbolLengths v_distanceLengths v_codeLengths c_row c_counts c_told c_code_lengths v_lists_many c_lists_counts c_lists_symbols c_lists_itemsBefore c_lists_items c_lists_pairs c_code_next c_code_codes) sz)) 0 0 (va_A (Header_plan_w E a_p1 a_p1_lengths a_this a_p2 a_p2_lengths a_row a_counts a_told a_code a_code_lengths a_lists a_lists_counts a_lists_symbols a_lists_itemsBefore a_lists_items a_lists_pairs a_code_next a_code_codes d_lists_pairs n_p1_lengths n_p2_lengths n_code_lengths n_code_codes x_p1_codes x_p1_next x_p2_codes x_p2_next c_p1_lengths c_p2_lengths v_rowLength v_toldCount v_symbolLengths v_distanceLengths v_codeLengths c_row c_counts c_told c_code_lengths v_lists_many c_lists_counts c_lists_symbols c_lists_itemsBefore c_lists_items c_lists_pairs c_code_next c_code_codes) sz) := by
  refine xEnI (by decide) (Nat.le_of_ble_eq_true rfl) ?_
  intro p e s m args below meth c A ls Q hx hb hnm hts hown hml hK hA hI hN hret hP hD hS hl
  replace hown : s.vm.findClass R_Header = some m.cls := hown
  replace hl : lv_has ls 5 [(0, .ref a_this), (1, .ref a_p1), (2, .ref a_p2)] := hl
  obtain ⟨H, eH⟩ : ∃ z, z = s.heap := ⟨_, rfl⟩
  obtain ⟨locs, eL⟩ : ∃ z : List Loc, z = [] := ⟨_, rfl⟩
  rw [show W p l e Header_plan_rm s m args below meth c s.heap [] 0 0 Q (F0 m 0 ls []) = W p l e Header_plan_rm s m args below meth c H locs 0 0 Q (F0 m 0 ls []) by rw [eH, eL]]
  replace hP : va_P E.1 vwCl (Header_plan_w E a_p1 a_p1_lengths a_this a_p2 a_p2_lengths a_row a_counts a_told a_code a_code_lengths a_lists a_lists_counts a_lists_symbols a_lists_itemsBefore a_lists_items a_lists_pairs a_code_next a_code_codes d_lists_pairs n_p1_lengths n_p2_lengths n_code_lengths n_code_codes x_p1_codes x_p1_next x_p2_codes x_p2_next c_p1_lengths c_p2_lengths v_rowLength v_toldCount v_symbolLengths v_distanceLengths v_codeLengths c_row c_counts c_told c_code_lengths v_lists_many c_lists_counts c_lists_symbols c_lists_itemsBefore c_lists_items c_lists_pairs c_code_next c_code_codes) H := by rw [eH]; exact hP
  replace hS : va_S A s.heap H locs := by rw [eH, eL]; exact hS
  clear eH eL
  rw [Header_plan] at hm
  have h_86 : ∀ (v_rowLength : Int32) (v_toldCount : Int32) (v_symbolLengths : Int32) (v_distanceLengths : Int32) (v_codeLengths : Int32) (c_row : Nat → Int32) (c_counts : Nat → Int32) (c_told : Nat → Int32) (c_code_lengths : Nat → Int32) (v_lists_many : Int32) (c_lists_counts : Nat → Int32) (c_lists_symbols : Nat → Int32) (c_lists_itemsBefore : Nat → Int32) (c_lists_items : Nat → Int32) (c_lists_pairs : Nat → Nat → Int32) (c_code_next : Nat → Int32) (c_code_codes : Nat → Int32) (b_lists_itemsBefore : Nat) (b_lists_items : Nat) (H : Heap) (locs : List Loc) (ls : Array Slot), (Header_plan_86 F n_code_lengths) v_rowLength v_toldCount v_symbolLengths v_distanceLengths v_codeLengths c_row c_counts c_told c_code_lengths v_lists_many c_lists_counts c_lists_symbols c_lists_itemsBefore c_lists_items c_lists_pairs c_code_next c_code_codes = some res → va_P E.1 vwCl (Header_plan_w E a_p1 a_p1_lengths a_this a_p2 a_p2_lengths a_row a_counts a_told a_code a_code_lengths a_lists a_lists_counts a_lists_symbols b_lists_itemsBefore b_lists_items a_lists_pairs a_code_next a_code_codes d_lists_pairs n_p1_lengths n_p2_lengths n_code_lengths n_code_codes x_p1_codes x_p1_next x_p2_codes x_p2_next c_p1_lengths c_p2_lengths v_rowLength v_toldCount v_symbolLengths v_distanceLengths v_codeLengths c_row c_counts c_told c_code_lengths v_lists_many c_lists_counts c_lists_symbols c_lists_itemsBefore c_lists_items c_lists_pairs c_code_next c_code_codes) H → va_D A (Header_plan_w E a_p1 a_p1_lengths a_this a_p2 a_p2_lengths a_row a_counts a_told a_code a_code_lengths a_lists a_lists_counts a_lists_symbols b_lists_itemsBefore b_lists_items a_lists_pairs a_code_next a_code_codes d_lists_pairs n_p1_lengths n_p2_lengths n_code_lengths n_code_codes x_p1_codes x_p1_next x_p2_codes x_p2_next c_p1_lengths c_p2_lengths v_rowLength v_toldCount v_symbolLengths v_distanceLengths v_codeLengths c_row c_counts c_told c_code_lengths v_lists_many c_lists_counts c_lists_symbols c_lists_itemsBefore c_lists_items c_lists_pairs c_code_next c_code_codes) → va_S A s.heap H locs → lv_has ls 5 [(0, .ref a_this)] → W p l e Header_plan_rm s m args below meth c H locs 0 0 Q (F0 m 86 ls []) := by
    intro v_rowLength v_toldCount v_symbolLengths v_distanceLengths v_codeLengths c_row c_counts c_told c_code_lengths v_lists_many c_lists_counts c_lists_symbols c_lists_itemsBefore c_lists_items c_lists_pairs c_code_next c_code_codes b_lists_itemsBefore b_lists_items H locs ls hm hP hD hS hl
    rw [Header_plan_86] at hm
    have h_112 : ∀ (n_112 : Nat) (v_rowLength : Int32) (v_toldCount : Int32) (v_symbolLengths : Int32) (v_distanceLengths : Int32) (v_codeLengths : Int32) (c_row : Nat → Int32) (c_counts : Nat → Int32) (c_told : Nat → Int32) (c_code_lengths : Nat → Int32) (v_lists_many : Int32) (c_lists_counts : Nat → Int32) (c_lists_symbols : Nat → Int32) (c_lists_itemsBefore : Nat → Int32) (c_lists_items : Nat → Int32) (c_lists_pairs : Nat → Nat → Int32) (c_code_next : Nat → Int32) (c_code_codes : Nat → Int32) (x3 : Int32) (x4 : Int32) (b_lists_itemsBefore : Nat) (b_lists_items : Nat) (H : Heap) (locs : List Loc) (ls : Array Slot), (mW19 (Header_plan_112 F) n_112) v_rowLength v_toldCount v_symbolLengths v_distanceLengths v_codeLengths c_row c_counts c_told c_code_lengths v_lists_many c_lists_counts c_lists_symbols c_lists_itemsBefore c_lists_items c_lists_pairs c_code_next c_code_codes x3 x4 = some res → va_P E.1 vwCl (Header_plan_w E a_p1 a_p1_lengths a_this a_p2 a_p2_lengths a_row a_counts a_told a_code a_code_lengths a_lists a_lists_counts a_lists_symbols b_lists_itemsBefore b_lists_items a_lists_pairs a_code_next a_code_codes d_lists_pairs n_p1_lengths n_p2_lengths n_code_lengths n_code_codes x_p1_codes x_p1_next x_p2_codes x_p2_next c_p1_lengths c_p2_lengths v_rowLength v_toldCount v_symbolLengths v_distanceLengths v_codeLengths c_row c_counts c_told c_code_lengths v_lists_many c_lists_counts c_lists_symbols c_lists_itemsBefore c_lists_items c_lists_pairs c_code_next c_code_codes) H → va_D A (Header_plan_w E a_p1 a_p1_lengths a_this a_p2 a_p2_lengths a_row a_counts a_told a_code a_code_lengths a_lists a_lists_counts a_lists_symbols b_lists_itemsBefore b_lists_items a_lists_pairs a_code_next a_code_codes d_lists_pairs n_p1_lengths n_p2_lengths n_code_lengths n_code_codes x_p1_codes x_p1_next x_p2_codes x_p2_next c_p1_lengths c_p2_lengths v_rowLength v_toldCount v_symbolLengths v_distanceLengths v_codeLengths c_row c_counts c_told c_code_lengths v_lists_many c_lists_counts c_lists_symbols c_lists_itemsBefore c_lists_items c_lists_pairs c_code_next c_code_codes) → va_S A s.heap H locs → lv_has ls 5 [(0, .ref a_this), (3, .int x3), (4, .int x4)] → W p l e Header_plan_rm s m args below meth c H locs 0 0 Q (F0 m 112 ls []) := by
      intro n_112
      induction n_112 with
      | zero => exact fun _ _ _ _ _ _ _ _ _ _ _ _ _ _ _ _ _ _ _ _ _ _ _ _ hm _ _ _ _ => (mW19_z hm).elim
      | succ n_112 ih_112 =>
        intro v_rowLength v_toldCount v_symbolLengths v_distanceLengths v_codeLengths c_row c_counts c_told c_code_lengths v_lists_many c_lists_counts c_lists_symbols c_lists_itemsBefore c_lists_items c_lists_pairs c_code_next c_code_codes x3 x4 b_lists_itemsBefore b_lists_items H locs ls hm hP hD hS hl
        replace hm := mW19_s hm
        rw [Header_plan_112] at hm
        refine lv_iload hx hb d_Header_plan_112 (lv_at hl 2 rfl) ?_
        refine lv_aload_n hx hb d_Header_plan_114 rfl (lv_at hl 0 rfl) ?_
        refine va_get (D := E.1) (ci := 4) (v := .ref a_counts) (C := R_Header) (T := F_Header) (N := 10) hx hb hts i_Header hown hK hP 2 rfl rfl 3 (by decide) (hts _ tw_205) (fun _ h9 => h9) rfl d_Header_plan_115 ?_
        refine va_alen (v := 19) hx hb hK hP 6 0 rfl rfl rfl d_Header_plan_118 ?_
        refine lv_icmp_ge (tgt := 144) hx hb d_Header_plan_119 (by decide) (fun c119 => ?_) (fun c119 => ?_)
        · replace hm := mC_t hm c119
          refine lv_iload_n hx hb d_Header_plan_144 rfl (lv_at hl 1 rfl) ?_
          replace hm := Option.some.inj hm
          subst hm
          exact hret d_Header_plan_145 (u := ((v_rowLength, v_toldCount, v_symbolLengths, v_distanceLengths, v_codeLengths, c_row, c_counts, c_told, c_code_lengths, v_lists_many, c_lists_counts, c_lists_symbols, c_lists_itemsBefore, c_lists_items, c_lists_pairs, c_code_next, c_code_codes), b_lists_itemsBefore, b_lists_items)) ⟨rfl, rfl⟩ hP hD hS
        · replace hm := mC_f hm c119
          refine lv_iload_n hx hb d_Header_plan_122 rfl (lv_at hl 1 rfl) ?_
          refine lv_aload_n hx hb d_Header_plan_123 rfl (lv_at hl 0 rfl) ?_
          refine va_get (D := E.1) (ci := 4) (v := .ref a_counts) (C := R_Header) (T := F_Header) (N := 10) hx hb hts i_Header hown hK hP 2 rfl rfl 3 (by decide) (hts _ tw_205) (fun _ h9 => h9) rfl d_Header_plan_124 ?_
          refine lv_iload hx hb d_Header_plan_127 (lv_at hl 2 rfl) ?_
          obtain ⟨hi129, hm⟩ := mG_e hm
          refine va_iald hx hb hK hP 6 0 rfl rfl hi129 d_Header_plan_129 ?_
          refine lv_iload hx hb d_Header_plan_130 (lv_at hl 2 rfl) ?_
          obtain ⟨r_1, hc132, hm⟩ := mR0_e hm
          refine xmi (wc := (P_repeatExtra_w E)) [false, false, false, false, false, false, false, false, false, false, false, false, false, false, false, false, false, false, false, false, false, false, false, false, false, false, false, false, false, false, false, false, false] [] [] hP hD hS hA rfl (by decide) (by decide) 0 (by decide) (fun _ => rfl) (fun hPc hDc hFc => va_runSN (As := [.int x4]) (rest := [.int (c_counts x4.toNatClampNeg), .int x3]) ⟨hx, hb, hml, hown, hts⟩ (c_P_repeatExtra l E F H.size x4 (r_1, ()) hc132) ⟨(va_cnB 1 hts (x_g tw_575) rfl rfl rfl (nM_7 hN) (hts _ tw_66) (by decide +kernel) ⟨Nat.le_of_ble_eq_true rfl, Nat.le_of_ble_eq_true rfl⟩), (hts _ tw_574), trivial⟩ (xPS hPc hDc hFc hK hI hN hS) rfl rfl hl.1 rfl (lv_room (Nat.le_of_ble_eq_true rfl)) d_Header_plan_132 ⟨Nat.le_of_ble_eq_true rfl, Nat.le_of_ble_eq_true rfl⟩) (fun r9 u9 H locs hw hP hD hS => ?_)
          have hw1 : r_1 = r9 := hw.1.symm
          subst hw1
          replace hP : va_P E.1 vwCl (Header_plan_w E a_p1 a_p1_lengths a_this a_p2 a_p2_lengths a_row a_counts a_told a_code a_code_lengths a_lists a_lists_counts a_lists_symbols b_lists_itemsBefore b_lists_items a_lists_pairs a_code_next a_code_codes d_lists_pairs n_p1_lengths n_p2_lengths n_code_lengths n_code_codes x_p1_codes x_p1_next x_p2_codes x_p2_next c_p1_lengths c_p2_lengths v_rowLength v_toldCount v_symbolLengths v_distanceLengths v_codeLengths c_row c_counts c_told c_code_lengths v_lists_many c_lists_counts c_lists_symbols c_lists_itemsBefore c_lists_items c_lists_pairs c_code_next c_code_codes) H := hP
          replace hD : va_D A (Header_plan_w E a_p1 a_p1_lengths a_this a_p2 a_p2_lengths a_row a_counts a_told a_code a_code_lengths a_lists a_lists_counts a_lists_symbols b_lists_itemsBefore b_lists_items a_lists_pairs a_code_next a_code_codes d_lists_pairs n_p1_lengths n_p2_lengths n_code_lengths n_code_codes x_p1_codes x_p1_next x_p2_codes x_p2_next c_p1_lengths c_p2_lengths v_rowLength v_toldCount v_symbolLengths v_distanceLengths v_codeLengths c_row c_counts c_told c_code_lengths v_lists_many c_lists_counts c_lists_symbols c_lists_itemsBefore c_lists_items c_lists_pairs c_code_next c_code_codes) := hD
          refine lv_imul hx hb d_Header_plan_135 ?_
          refine lv_iadd hx hb d_Header_plan_136 ?_
          refine lv_topi (fun y3_2 ey3_2 => ?_)
          replace hm := mL_e hm y3_2 ey3_2
          refine lv_istore_n (lv' := [(3, .int y3_2), (0, .ref a_this), (4, .int x4)]) hx hb d_Header_plan_137 rfl hl (by decide) rfl (fun ls hl => ?_)
          obtain ⟨y4_3, ey4_3⟩ : ∃ y : Int32, y = x4 + 1 := ⟨_, rfl⟩
          replace hm := mL_e hm y4_3 ey4_3
          refine lv_iinc (v := y4_3) (lv' := [(4, .int y4_3), (3, .int y3_2), (0, .ref a_this)]) hx hb d_Header_plan_138 hl (k := 2) rfl (by rw [ey4_3]; rfl) (by decide) rfl (fun ls hl => ?_)
          refine lv_goto (tgt := 112) hx hb d_Header_plan_141 (by decide) ?_
          exact ih_112 _ _ _ _ _ _ _ _ _ _ _ _ _ _ _ _ _ _ _ b_lists_itemsBefore b_lists_items H locs ls hm hP hD hS (lv_sub hl [2, 1, 0] rfl)
    refine lv_bipush (v := 14) hx hb d_Header_plan_86 (by decide) ?_
    refine lv_iconst (v := 3) hx hb d_Header_plan_88 (by decide) ?_
    refine lv_aload_n hx hb d_Header_plan_89 rfl (lv_at hl 0 rfl) ?_
    refine va_get (D := E.1) (ci := 4) (v := .int v_codeLengths) (C := R_Header) (T := F_Header) (N := 10) hx hb hts i_Header hown hK hP 2 rfl rfl 9 (by decide) (hts _ tw_211) (fun _ h9 => h9) rfl d_Header_plan_90 ?_
    refine lv_imul hx hb d_Header_plan_93 ?_
    refine lv_iadd hx hb d_Header_plan_94 ?_
    refine lv_aload_n hx hb d_Header_plan_95 rfl (lv_at hl 0 rfl) ?_
    refine va_get (D := E.1) (ci := 4) (v := .ref a_code) (C := R_Header) (T := F_Header) (N := 10) hx hb hts i_Header hown hK hP 2 rfl rfl 4 (by decide) (hts _ tw_206) (fun _ h9 => h9) rfl d_Header_plan_96 ?_
    refine lv_aload_n hx hb d_Header_plan_99 rfl (lv_at hl 0 rfl) ?_
    refine va_get (D := E.1) (ci := 4) (v := .ref a_counts) (C := R_Header) (T := F_Header) (N := 10) hx hb hts i_Header hown hK hP 2 rfl rfl 3 (by decide) (hts _ tw_205) (fun _ h9 => h9) rfl d_Header_plan_100 ?_
    obtain ⟨r_4, hc103, hm⟩ := mR0_e hm
    refine xmi (wc := (Code_bitsFor_w E a_code a_code_lengths a_counts n_code_lengths 19 (.ref a_code_codes) (.ref a_code_next) c_code_lengths c_counts)) [false, false, false, false, false, false, true, false, true, true, false, false, false, false, false, false, false, false, false, false, false, false, false, false, false, false, false, false, false, false, false, false, false] [1, 2, 0] [2, 0, 1] hP hD hS hA rfl (by decide) (by decide) 3 (by decide) (fun _ => rfl) (fun hPc hDc hFc => va_runV (As := [.ref a_counts]) (rest := [.int (14 + (3 * v_codeLengths))]) ⟨hx, hb, hml, hown, hts⟩ (c_Code_bitsFor l E F H.size a_code a_code_lengths a_counts n_code_lengths 19 (.ref a_code_codes) (.ref a_code_next) c_code_lengths c_counts (r_4, ()) hc103) (cwV 1 hts (x_gV tw_572 tw_531 tw_532 tw_74 tw_533) rfl rfl rfl (by decide +kernel) ⟨Nat.le_of_ble_eq_true rfl, Nat.le_of_ble_eq_true rfl⟩) (xPV 3 0 rfl rfl hPc hDc hFc hK hI hN hS) rfl rfl hl.1 rfl (lv_room (Nat.le_of_ble_eq_true rfl)) d_Header_plan_103 ⟨Nat.le_of_ble_eq_true rfl, Nat.le_of_ble_eq_true rfl⟩) (fun r9 u9 H locs hw hP hD hS => ?_)
    have hw1 : r_4 = r9 := hw.1.symm
    subst hw1
    replace hP : va_P E.1 vwCl (Header_plan_w E a_p1 a_p1_lengths a_this a_p2 a_p2_lengths a_row a_counts a_told a_code a_code_lengths a_lists a_lists_counts a_lists_symbols b_lists_itemsBefore b_lists_items a_lists_pairs a_code_next a_code_codes d_lists_pairs n_p1_lengths n_p2_lengths n_code_lengths n_code_codes x_p1_codes x_p1_next x_p2_codes x_p2_next c_p1_lengths c_p2_lengths v_rowLength v_toldCount v_symbolLengths v_distanceLengths v_codeLengths c_row c_counts c_told c_code_lengths v_lists_many c_lists_counts c_lists_symbols c_lists_itemsBefore c_lists_items c_lists_pairs c_code_next c_code_codes) H := hP
    replace hD : va_D A (Header_plan_w E a_p1 a_p1_lengths a_this a_p2 a_p2_lengths a_row a_counts a_told a_code a_code_lengths a_lists a_lists_counts a_lists_symbols b_lists_itemsBefore b_lists_items a_lists_pairs a_code_next a_code_codes d_lists_pairs n_p1_lengths n_p2_lengths n_code_lengths n_code_codes x_p1_codes x_p1_next x_p2_codes x_p2_next c_p1_lengths c_p2_lengths v_rowLength v_toldCount v_symbolLengths v_distanceLengths v_codeLengths c_row c_counts c_told c_code_lengths v_lists_many c_lists_counts c_lists_symbols c_lists_itemsBefore c_lists_items c_lists_pairs c_code_next c_code_codes) := hD
    refine lv_iadd hx hb d_Header_plan_106 ?_
    refine lv_topi (fun y3_5 ey3_5 => ?_)
    replace hm := mL_e hm y3_5 ey3_5
    refine lv_istore_n (lv' := [(3, .int y3_5), (0, .ref a_this)]) hx hb d_Header_plan_107 rfl hl (by decide) rfl (fun ls hl => ?_)
    refine lv_bipush (v := 16) hx hb d_Header_plan_108 (by decide) ?_
    refine lv_istore (lv' := [(4, .int 16), (3, .int y3_5), (0, .ref a_this)]) hx hb d_Header_plan_110 hl (by decide) rfl (fun ls hl => ?_)
    exact h_112 F _ _ _ _ _ _ _ _ _ _ _ _ _ _ _ _ _ _ _ b_lists_itemsBefore b_lists_items H locs ls hm hP hD hS (lv_sub hl [2, 1, 0] rfl)
  have h_45 : ∀ (n_45 : Nat) (v_rowLength : Int32) (v_toldCount : Int32) (v_symbolLengths : Int32) (v_distanceLengths : Int32) (v_codeLengths : Int32) (c_row : Nat → Int32) (c_counts : Nat → Int32) (c_told : Nat → Int32) (c_code_lengths : Nat → Int32) (v_lists_many : Int32) (c_lists_counts : Nat → Int32) (c_lists_symbols : Nat → Int32) (c_lists_itemsBefore : Nat → Int32) (c_lists_items : Nat → Int32) (c_lists_pairs : Nat → Nat → Int32) (c_code_next : Nat → Int32) (c_code_codes : Nat → Int32) (b_lists_itemsBefore : Nat) (b_lists_items : Nat) (H : Heap) (locs : List Loc) (ls : Array Slot), (mW17 (Header_plan_45 F n_code_lengths (Header_plan_86 F n_code_lengths)) n_45) v_rowLength v_toldCount v_symbolLengths v_distanceLengths v_codeLengths c_row c_counts c_told c_code_lengths v_lists_many c_lists_counts c_lists_symbols c_lists_itemsBefore c_lists_items c_lists_pairs c_code_next c_code_codes = some res → va_P E.1 vwCl (Header_plan_w E a_p1 a_p1_lengths a_this a_p2 a_p2_lengths a_row a_counts a_told a_code a_code_lengths a_lists a_lists_counts a_lists_symbols b_lists_itemsBefore b_lists_items a_lists_pairs a_code_next a_code_codes d_lists_pairs n_p1_lengths n_p2_lengths n_code_lengths n_code_codes x_p1_codes x_p1_next x_p2_codes x_p2_next c_p1_lengths c_p2_lengths v_rowLength v_toldCount v_symbolLengths v_distanceLengths v_codeLengths c_row c_counts c_told c_code_lengths v_lists_many c_lists_counts c_lists_symbols c_lists_itemsBefore c_lists_items c_lists_pairs c_code_next c_code_codes) H → va_D A (Header_plan_w E a_p1 a_p1_lengths a_this a_p2 a_p2_lengths a_row a_counts a_told a_code a_code_lengths a_lists a_lists_counts a_lists_symbols b_lists_itemsBefore b_lists_items a_lists_pairs a_code_next a_code_codes d_lists_pairs n_p1_lengths n_p2_lengths n_code_lengths n_code_codes x_p1_codes x_p1_next x_p2_codes x_p2_next c_p1_lengths c_p2_lengths v_rowLength v_toldCount v_symbolLengths v_distanceLengths v_codeLengths c_row c_counts c_told c_code_lengths v_lists_many c_lists_counts c_lists_symbols c_lists_itemsBefore c_lists_items c_lists_pairs c_code_next c_code_codes) → va_S A s.heap H locs → lv_has ls 5 [(0, .ref a_this)] → W p l e Header_plan_rm s m args below meth c H locs 0 0 Q (F0 m 45 ls []) := by
    intro n_45
    induction n_45 with
    | zero => exact fun _ _ _ _ _ _ _ _ _ _ _ _ _ _ _ _ _ _ _ _ _ _ hm _ _ _ _ => (mW17_z hm).elim
    | succ n_45 ih_45 =>
      intro v_rowLength v_toldCount v_symbolLengths v_distanceLengths v_codeLengths c_row c_counts c_told c_code_lengths v_lists_many c_lists_counts c_lists_symbols c_lists_itemsBefore c_lists_items c_lists_pairs c_code_next c_code_codes b_lists_itemsBefore b_lists_items H locs ls hm hP hD hS hl
      replace hm := mW17_s hm
      rw [Header_plan_45] at hm
      refine lv_aload_n hx hb d_Header_plan_45 rfl (lv_at hl 0 rfl) ?_
      refine va_get (D := E.1) (ci := 4) (v := .int v_codeLengths) (C := R_Header) (T := F_Header) (N := 10) hx hb hts i_Header hown hK hP 2 rfl rfl 9 (by decide) (hts _ tw_211) (fun _ h9 => h9) rfl d_Header_plan_46 ?_
      refine lv_iconst (v := 4) hx hb d_Header_plan_49 (by decide) ?_
      refine lv_icmp_le (tgt := 86) hx hb d_Header_plan_50 (by decide) (fun c50 => ?_) (fun c50 => ?_)
      · replace hm := mC_t hm c50
        exact h_86 _ _ _ _ _ _ _ _ _ _ _ _ _ _ _ _ _ b_lists_itemsBefore b_lists_items H locs ls hm hP hD hS hl
      · replace hm := mC_f hm c50
        refine lv_aload_n hx hb d_Header_plan_53 rfl (lv_at hl 0 rfl) ?_
        refine va_get (D := E.1) (ci := 4) (v := .ref a_code) (C := R_Header) (T := F_Header) (N := 10) hx hb hts i_Header hown hK hP 2 rfl rfl 4 (by decide) (hts _ tw_206) (fun _ h9 => h9) rfl d_Header_plan_54 ?_
        refine va_getsN hx hb hI.1 hS hown (va_Nw.use rfl (nF_2 hN)) (fun _ h9 => h9) d_Header_plan_57 ?_
        refine lv_aload_n hx hb d_Header_plan_60 rfl (lv_at hl 0 rfl) ?_
        refine va_get (D := E.1) (ci := 4) (v := .int v_codeLengths) (C := R_Header) (T := F_Header) (N := 10) hx hb hts i_Header hown hK hP 2 rfl rfl 9 (by decide) (hts _ tw_211) (fun _ h9 => h9) rfl d_Header_plan_61 ?_
        refine lv_iconst (v := 1) hx hb d_Header_plan_64 (by decide) ?_
        refine lv_isub hx hb d_Header_plan_65 ?_
        refine lv_topi (fun i_6 ei_6 => ?_)
        replace hm := mL_e hm i_6 ei_6
        obtain ⟨hi66, hm⟩ := mG_e hm
        refine va_ti hx hb hI.2 hS hi66 (v := .int (tb_order i_6.toNatClampNeg)) rfl d_Header_plan_66 ?_
        obtain ⟨t_7, et_7⟩ : ∃ z : Int32, z = tb_order i_6.toNatClampNeg := ⟨_, rfl⟩
        rw [← et_7]
        replace hm := mL_e hm t_7 et_7
        obtain ⟨r_8, hc67, hm⟩ := mR0_e hm
        refine xmi (wc := (Code_lengthOf_w E a_code a_code_lengths n_code_lengths (.ref a_code_codes) (.ref a_code_next) c_code_lengths)) [false, false, false, false, false, false, false, false, true, true, false, false, false, false, false, false, false, false, false, false, false, false, false, false, false, false, false, false, false, false, false, false, false] [0, 1] [0, 1] hP hD hS hA rfl (by decide) (by decide) 2 (by decide) (fun _ => rfl) (fun hPc hDc hFc => va_runV (As := [.int t_7]) (rest := []) ⟨hx, hb, hml, hown, hts⟩ (c_Code_lengthOf l E F H.size a_code a_code_lengths n_code_lengths (.ref a_code_codes) (.ref a_code_next) c_code_lengths t_7 (r_8, ()) hc67) (cwV 1 hts (x_gV tw_548 tw_549 tw_550 tw_74 tw_551) rfl rfl rfl (by decide +kernel) ⟨Nat.le_of_ble_eq_true rfl, Nat.le_of_ble_eq_true rfl⟩) (xPV 3 0 rfl rfl hPc hDc hFc hK hI hN hS) rfl rfl hl.1 rfl (lv_room (Nat.le_of_ble_eq_true rfl)) d_Header_plan_67 ⟨Nat.le_of_ble_eq_true rfl, Nat.le_of_ble_eq_true rfl⟩) (fun r9 u9 H locs hw hP hD hS => ?_)
        have hw1 : r_8 = r9 := hw.1.symm
        subst hw1
        replace hP : va_P E.1 vwCl (Header_plan_w E a_p1 a_p1_lengths a_this a_p2 a_p2_lengths a_row a_counts a_told a_code a_code_lengths a_lists a_lists_counts a_lists_symbols b_lists_itemsBefore b_lists_items a_lists_pairs a_code_next a_code_codes d_lists_pairs n_p1_lengths n_p2_lengths n_code_lengths n_code_codes x_p1_codes x_p1_next x_p2_codes x_p2_next c_p1_lengths c_p2_lengths v_rowLength v_toldCount v_symbolLengths v_distanceLengths v_codeLengths c_row c_counts c_told c_code_lengths v_lists_many c_lists_counts c_lists_symbols c_lists_itemsBefore c_lists_items c_lists_pairs c_code_next c_code_codes) H := hP
        replace hD : va_D A (Header_plan_w E a_p1 a_p1_lengths a_this a_p2 a_p2_lengths a_row a_counts a_told a_code a_code_lengths a_lists a_lists_counts a_lists_symbols b_lists_itemsBefore b_lists_items a_lists_pairs a_code_next a_code_codes d_lists_pairs n_p1_lengths n_p2_lengths n_code_lengths n_code_codes x_p1_codes x_p1_next x_p2_codes x_p2_next c_p1_lengths c_p2_lengths v_rowLength v_toldCount v_symbolLengths v_distanceLengths v_codeLengths c_row c_counts c_told c_code_lengths v_lists_many c_lists_counts c_lists_symbols c_lists_itemsBefore c_lists_items c_lists_pairs c_code_next c_code_codes) := hD
        refine lv_if_ne (tgt := 86) hx hb d_Header_plan_70 (by decide) (fun c70 => ?_) (fun c70 => ?_)
        · replace hm := mC_f hm c70
          exact h_86 _ _ _ _ _ _ _ _ _ _ _ _ _ _ _ _ _ b_lists_itemsBefore b_lists_items H locs ls hm hP hD hS hl
        · replace hm := mC_t hm c70
          refine lv_aload_n hx hb d_Header_plan_73 rfl (lv_at hl 0 rfl) ?_
          refine lv_dup hx hb d_Header_plan_74 rfl ?_
          refine va_get (D := E.1) (ci := 4) (v := .int v_codeLengths) (C := R_Header) (T := F_Header) (N := 10) hx hb hts i_Header hown hK hP 2 rfl rfl 9 (by decide) (hts _ tw_211) (fun _ h9 => h9) rfl d_Header_plan_75 ?_
          refine lv_iconst (v := 1) hx hb d_Header_plan_78 (by decide) ?_
          refine lv_isub hx hb d_Header_plan_79 ?_
          refine lv_topi (fun v_9 ev_9 => ?_)
          replace hm := mL_e hm v_9 ev_9
          refine va_put (D := E.1) (ci := 4) (v := .int v_9) (ty := .int) (C := R_Header) (T := F_Header) (N := 10) hx hb hts i_Header t_Header t_Header_ok n_Header hown hK hP hD hS 2 rfl rfl 9 (by decide) (hts _ tw_211) (fun _ h9 => h9) rfl (by decide +kernel) rfl rfl (Nat.le_of_ble_eq_true rfl) d_Header_plan_80 (fun H locs hP hD hS => ?_)
          replace hP : va_P E.1 vwCl (Header_plan_w E a_p1 a_p1_lengths a_this a_p2 a_p2_lengths a_row a_counts a_told a_code a_code_lengths a_lists a_lists_counts a_lists_symbols b_lists_itemsBefore b_lists_items a_lists_pairs a_code_next a_code_codes d_lists_pairs n_p1_lengths n_p2_lengths n_code_lengths n_code_codes x_p1_codes x_p1_next x_p2_codes x_p2_next c_p1_lengths c_p2_lengths v_rowLength v_toldCount v_symbolLengths v_distanceLengths v_9 c_row c_counts c_told c_code_lengths v_lists_many c_lists_counts c_lists_symbols c_lists_itemsBefore c_lists_items c_lists_pairs c_code_next c_code_codes) H := hP
          replace hD : va_D A (Header_plan_w E a_p1 a_p1_lengths a_this a_p2 a_p2_lengths a_row a_counts a_told a_code a_code_lengths a_lists a_lists_counts a_lists_symbols b_lists_itemsBefore b_lists_items a_lists_pairs a_code_next a_code_codes d_lists_pairs n_p1_lengths n_p2_lengths n_code_lengths n_code_codes x_p1_codes x_p1_next x_p2_codes x_p2_next c_p1_lengths c_p2_lengths v_rowLength v_toldCount v_symbolLengths v_distanceLengths v_9 c_row c_counts c_told c_code_lengths v_lists_many c_lists_counts c_lists_symbols c_lists_itemsBefore c_lists_items c_lists_pairs c_code_next c_code_codes) := hD
          refine lv_goto (tgt := 45) hx hb d_Header_plan_83 (by decide) ?_
          exact ih_45 _ _ _ _ _ _ _ _ _ _ _ _ _ _ _ _ _ b_lists_itemsBefore b_lists_items H locs ls hm hP hD hS hl
  refine lv_aload_n hx hb d_Header_plan_0 rfl (lv_at hl 0 rfl) ?_
  refine lv_aload_n hx hb d_Header_plan_1 rfl (lv_at hl 1 rfl) ?_
  refine lv_aload_n hx hb d_Header_plan_2 rfl (lv_at hl 2 rfl) ?_
  obtain ⟨r_14, v_rowLength_10, v_symbolLengths_11, v_distanceLengths_12, c_row_13, hc3, hm⟩ := mR4_e hm
  refine xmv (wc := (Header_gather_w E a_p1 a_p1_lengths a_this a_p2 a_p2_lengths a_row n_p1_lengths n_p2_lengths x_p1_codes x_p1_next (.ref a_lists) (.ref a_told) (.ref a_counts) (.ref a_code) x_p2_codes x_p2_next c_p1_lengths c_p2_lengths v_rowLength v_symbolLengths v_distanceLengths c_row v_toldCount v_codeLengths)) [true, true, true, true, true, true, false, false, false, false, false, false, false, false, false, false, false, false, false, false, false, false, false, false, false, false, false, false, false, false, false, false, false] [0, 1, 2, 3, 4, 5] [0, 1, 2, 3, 4, 5] hP hD hS hA rfl (by decide) (by decide) 6 (by decide) (fun _ => rfl) (fun hPc hDc hFc => va_runV (As := [.ref a_p1, .ref a_p2]) (rest := []) ⟨hx, hb, hml, hown, hts⟩ (c_Header_gather l E F H.size a_p1 a_p1_lengths a_this a_p2 a_p2_lengths a_row n_p1_lengths n_p2_lengths x_p1_codes x_p1_next (.ref a_lists) (.ref a_told) (.ref a_counts) (.ref a_code) x_p2_codes x_p2_next c_p1_lengths c_p2_lengths v_rowLength v_symbolLengths v_distanceLengths c_row v_toldCount v_codeLengths (r_14, v_rowLength_10, v_symbolLengths_11, v_distanceLengths_12, c_row_13) hc3) (cwV 2 hts (x_gV tw_538 tw_540 tw_12 tw_73 tw_541) rfl rfl rfl (by decide +kernel) ⟨Nat.le_of_ble_eq_true rfl, Nat.le_of_ble_eq_true rfl⟩) (xPV 4 2 rfl rfl hPc hDc hFc hK hI hN hS) rfl rfl hl.1 rfl (lv_room (Nat.le_of_ble_eq_true rfl)) d_Header_plan_3 ⟨Nat.le_of_ble_eq_true rfl, Nat.le_of_ble_eq_true rfl⟩) (fun u9 H locs hw hP hD hS => ?_)
  have hw2 : (v_rowLength_10, v_symbolLengths_11, v_distanceLengths_12, c_row_13) = u9 := hw.symm
  subst hw2
  replace hP : va_P E.1 vwCl (Header_plan_w E a_p1 a_p1_lengths a_this a_p2 a_p2_lengths a_row a_counts a_told a_code a_code_lengths a_lists a_lists_counts a_lists_symbols a_lists_itemsBefore a_lists_items a_lists_pairs a_code_next a_code_codes d_lists_pairs n_p1_lengths n_p2_lengths n_code_lengths n_code_codes x_p1_codes x_p1_next x_p2_codes x_p2_next c_p1_lengths c_p2_lengths v_rowLength_10 v_toldCount v_symbolLengths_11 v_distanceLengths_12 v_codeLengths c_row_13 c_counts c_told c_code_lengths v_lists_many c_lists_counts c_lists_symbols c_lists_itemsBefore c_lists_items c_lists_pairs c_code_next c_code_codes) H := hP
  replace hD : va_D A (Header_plan_w E a_p1 a_p1_lengths a_this a_p2 a_p2_lengths a_row a_counts a_told a_code a_code_lengths a_lists a_lists_counts a_lists_symbols a_lists_itemsBefore a_lists_items a_lists_pairs a_code_next a_code_codes d_lists_pairs n_p1_lengths n_p2_lengths n_code_lengths n_code_codes x_p1_codes x_p1_next x_p2_codes x_p2_next c_p1_lengths c_p2_lengths v_rowLength_10 v_toldCount v_symbolLengths_11 v_distanceLengths_12 v_codeLengths c_row_13 c_counts c_told c_code_lengths v_lists_many c_lists_counts c_lists_symbols c_lists_itemsBefore c_lists_items c_lists_pairs c_code_next c_code_codes) := hD
  refine lv_aload_n hx hb d_Header_plan_6 rfl (lv_at hl 0 rfl) ?_
  obtain ⟨r_18, v_toldCount_15, c_counts_16, c_told_17, hc7, hm⟩ := mR3_e hm
  refine xmv (wc := (Header_tellRow_w E a_this a_counts a_row a_told (.ref a_lists) (.ref a_code) v_rowLength_10 c_row_13 v_toldCount c_counts c_told v_symbolLengths_11 v_distanceLengths_12 v_codeLengths)) [false, false, true, false, false, true, true, true, false, false, false, false, false, false, false, false, false, false, false, false, false, false, false, false, false, false, false, false, false, false, false, false, false] [0, 2, 1, 3] [0, 2, 1, 3] hP hD hS hA rfl (by decide) (by decide) 4 (by decide) (fun _ => rfl) (fun hPc hDc hFc => va_runV (As := []) (rest := []) ⟨hx, hb, hml, hown, hts⟩ (c_Header_tellRow l E F H.size a_this a_counts a_row a_told (.ref a_lists) (.ref a_code) v_rowLength_10 c_row_13 v_toldCount c_counts c_told v_symbolLengths_11 v_distanceLengths_12 v_codeLengths (r_18, v_toldCount_15, c_counts_16, c_told_17) hc7) (cwV 0 hts (x_gV tw_552 tw_554 tw_13 tw_73 tw_555) rfl rfl rfl (by decide +kernel) ⟨Nat.le_of_ble_eq_true rfl, Nat.le_of_ble_eq_true rfl⟩) (xPV 4 0 rfl rfl hPc hDc hFc hK hI hN hS) rfl rfl hl.1 rfl (lv_room (Nat.le_of_ble_eq_true rfl)) d_Header_plan_7 ⟨Nat.le_of_ble_eq_true rfl, Nat.le_of_ble_eq_true rfl⟩) (fun u9 H locs hw hP hD hS => ?_)
  have hw2 : (v_toldCount_15, c_counts_16, c_told_17) = u9 := hw.symm
  subst hw2
  replace hP : va_P E.1 vwCl (Header_plan_w E a_p1 a_p1_lengths a_this a_p2 a_p2_lengths a_row a_counts a_told a_code a_code_lengths a_lists a_lists_counts a_lists_symbols a_lists_itemsBefore a_lists_items a_lists_pairs a_code_next a_code_codes d_lists_pairs n_p1_lengths n_p2_lengths n_code_lengths n_code_codes x_p1_codes x_p1_next x_p2_codes x_p2_next c_p1_lengths c_p2_lengths v_rowLength_10 v_toldCount_15 v_symbolLengths_11 v_distanceLengths_12 v_codeLengths c_row_13 c_counts_16 c_told_17 c_code_lengths v_lists_many c_lists_counts c_lists_symbols c_lists_itemsBefore c_lists_items c_lists_pairs c_code_next c_code_codes) H := hP
  replace hD : va_D A (Header_plan_w E a_p1 a_p1_lengths a_this a_p2 a_p2_lengths a_row a_counts a_told a_code a_code_lengths a_lists a_lists_counts a_lists_symbols a_lists_itemsBefore a_lists_items a_lists_pairs a_code_next a_code_codes d_lists_pairs n_p1_lengths n_p2_lengths n_code_lengths n_code_codes x_p1_codes x_p1_next x_p2_codes x_p2_next c_p1_lengths c_p2_lengths v_rowLength_10 v_toldCount_15 v_symbolLengths_11 v_distanceLengths_12 v_codeLengths c_row_13 c_counts_16 c_told_17 c_code_lengths v_lists_many c_lists_counts c_lists_symbols c_lists_itemsBefore c_lists_items c_lists_pairs c_code_next c_code_codes) := hD
  refine lv_aload_n hx hb d_Header_plan_10 rfl (lv_at hl 0 rfl) ?_
  refine va_get (D := E.1) (ci := 4) (v := .ref a_lists) (C := R_Header) (T := F_Header) (N := 10) hx hb hts i_Header hown hK hP 2 rfl rfl 0 (by decide) (hts _ tw_202) (fun _ h9 => h9) rfl d_Header_plan_11 ?_
  refine lv_aload_n hx hb d_Header_plan_14 rfl (lv_at hl 0 rfl) ?_
  refine va_get (D := E.1) (ci := 4) (v := .ref a_counts) (C := R_Header) (T := F_Header) (N := 10) hx hb hts i_Header hown hK hP 2 rfl rfl 3 (by decide) (hts _ tw_205) (fun _ h9 => h9) rfl d_Header_plan_15 ?_
  refine lv_bipush (v := 7) hx hb d_Header_plan_18 (by decide) ?_
  refine lv_aload_n hx hb d_Header_plan_20 rfl (lv_at hl 0 rfl) ?_
  refine va_get (D := E.1) (ci := 4) (v := .ref a_code) (C := R_Header) (T := F_Header) (N := 10) hx hb hts i_Header hown hK hP 2 rfl rfl 4 (by decide) (hts _ tw_206) (fun _ h9 => h9) rfl d_Header_plan_21 ?_
  refine va_getN (D := E.1) (ci := 3) (v := .ref a_code_lengths) (C := R_Code) (T := F_Code) (N := 3) hx hb hts i_Code hown hK hP 8 rfl rfl 0 (by decide) (va_Nw.use rfl (nF_1 hN)) (fun _ h9 => h9) rfl d_Header_plan_24 ?_
  obtain ⟨r_26, c_p3_19, v_many_20, c_counts_21, c_symbols_22, c_itemsBefore_23, c_items_24, c_pairs_25, hc27, hm⟩ := mR7_e hm
  refine xmv (wc := (Lists_fit_w E a_code_lengths a_lists a_counts a_lists_counts a_lists_symbols a_lists_itemsBefore a_lists_items a_lists_pairs d_lists_pairs n_code_lengths 19 c_counts_16 c_code_lengths v_lists_many c_lists_counts c_lists_symbols c_lists_itemsBefore c_lists_items c_lists_pairs)) [false, false, false, false, false, false, true, false, false, true, true, true, true, true, true, true, true, true, true, true, true, true, true, true, true, true, true, true, true, true, true, false, false] [1, 2, 0, 3, 4, 5, 6, 7, 8, 9, 10, 11, 12, 13, 14, 15, 16, 17, 18, 19, 20, 21, 22] [2, 0, 1, 3, 4, 5, 6, 7, 8, 9, 10, 11, 12, 13, 14, 15, 16, 17, 18, 19, 20, 21, 22] hP hD hS hA rfl (by decide) (by decide) 23 (by decide) (fun _ => rfl) (fun hPc hDc hFc => va_runV (As := [.ref a_counts, .int 7, .ref a_code_lengths]) (rest := []) ⟨hx, hb, hml, hown, hts⟩ (c_Lists_fit l E F H.size a_code_lengths a_lists a_counts a_lists_counts a_lists_symbols a_lists_itemsBefore a_lists_items a_lists_pairs d_lists_pairs n_code_lengths 19 c_counts_16 c_code_lengths v_lists_many c_lists_counts c_lists_symbols c_lists_itemsBefore c_lists_items c_lists_pairs 7 (r_26, c_p3_19, v_many_20, c_counts_21, c_symbols_22, c_itemsBefore_23, c_items_24, c_pairs_25) hc27) (cwV 3 hts (x_gV tw_568 tw_498 tw_499 tw_72 tw_500) rfl rfl rfl (by decide +kernel) ⟨Nat.le_of_ble_eq_true rfl, Nat.le_of_ble_eq_true rfl⟩) (xPV 5 1 rfl rfl hPc hDc hFc hK hI hN hS) rfl rfl hl.1 rfl (lv_room (Nat.le_of_ble_eq_true rfl)) d_Header_plan_27 ⟨Nat.le_of_ble_eq_true rfl, Nat.le_of_ble_eq_true rfl⟩) (fun u9 H locs hw hP hD hS => ?_)
  obtain ⟨u9, b_27, b_28⟩ := u9
  have hw2 : (c_p3_19, v_many_20, c_counts_21, c_symbols_22, c_itemsBefore_23, c_items_24, c_pairs_25) = u9 := hw.symm
  subst hw2
  replace hP : va_P E.1 vwCl (Header_plan_w E a_p1 a_p1_lengths a_this a_p2 a_p2_lengths a_row a_counts a_told a_code a_code_lengths a_lists a_lists_counts a_lists_symbols b_27 b_28 a_lists_pairs a_code_next a_code_codes d_lists_pairs n_p1_lengths n_p2_lengths n_code_lengths n_code_codes x_p1_codes x_p1_next x_p2_codes x_p2_next c_p1_lengths c_p2_lengths v_rowLength_10 v_toldCount_15 v_symbolLengths_11 v_distanceLengths_12 v_codeLengths c_row_13 c_counts_16 c_told_17 c_p3_19 v_many_20 c_counts_21 c_symbols_22 c_itemsBefore_23 c_items_24 c_pairs_25 c_code_next c_code_codes) H := hP
  replace hD : va_D A (Header_plan_w E a_p1 a_p1_lengths a_this a_p2 a_p2_lengths a_row a_counts a_told a_code a_code_lengths a_lists a_lists_counts a_lists_symbols b_27 b_28 a_lists_pairs a_code_next a_code_codes d_lists_pairs n_p1_lengths n_p2_lengths n_code_lengths n_code_codes x_p1_codes x_p1_next x_p2_codes x_p2_next c_p1_lengths c_p2_lengths v_rowLength_10 v_toldCount_15 v_symbolLengths_11 v_distanceLengths_12 v_codeLengths c_row_13 c_counts_16 c_told_17 c_p3_19 v_many_20 c_counts_21 c_symbols_22 c_itemsBefore_23 c_items_24 c_pairs_25 c_code_next c_code_codes) := hD
  refine lv_aload_n hx hb d_Header_plan_30 rfl (lv_at hl 0 rfl) ?_
  refine va_get (D := E.1) (ci := 4) (v := .ref a_code) (C := R_Header) (T := F_Header) (N := 10) hx hb hts i_Header hown hK hP 2 rfl rfl 4 (by decide) (hts _ tw_206) (fun _ h9 => h9) rfl d_Header_plan_31 ?_
  obtain ⟨r_31, c_next_29, c_codes_30, hc34, hm⟩ := mR2_e hm
  refine xmv (wc := (Code_assign_w E a_code a_code_next a_code_lengths a_code_codes n_code_lengths n_code_codes c_p3_19 c_code_next c_code_codes)) [false, false, false, false, false, false, false, false, true, true, false, false, false, false, false, false, false, false, false, false, false, false, false, false, false, false, false, false, false, false, false, true, true] [0, 2, 1, 3] [0, 2, 1, 3] hP hD hS hA rfl (by decide) (by decide) 4 (by decide) (fun _ => rfl) (fun hPc hDc hFc => va_runV (As := []) (rest := []) ⟨hx, hb, hml, hown, hts⟩ (c_Code_assign l E F H.size a_code a_code_next a_code_lengths a_code_codes n_code_lengths n_code_codes c_p3_19 c_code_next c_code_codes (r_31, c_next_29, c_codes_30) hc34) (cwV 0 hts (x_gV tw_569 tw_242 tw_243 tw_74 tw_244) rfl rfl rfl (by decide +kernel) ⟨Nat.le_of_ble_eq_true rfl, Nat.le_of_ble_eq_true rfl⟩) (xPV 3 0 rfl rfl hPc hDc hFc hK hI hN hS) rfl rfl hl.1 rfl (lv_room (Nat.le_of_ble_eq_true rfl)) d_Header_plan_34 ⟨Nat.le_of_ble_eq_true rfl, Nat.le_of_ble_eq_true rfl⟩) (fun u9 H locs hw hP hD hS => ?_)
  have hw2 : (c_next_29, c_codes_30) = u9 := hw.symm
  subst hw2
  replace hP : va_P E.1 vwCl (Header_plan_w E a_p1 a_p1_lengths a_this a_p2 a_p2_lengths a_row a_counts a_told a_code a_code_lengths a_lists a_lists_counts a_lists_symbols b_27 b_28 a_lists_pairs a_code_next a_code_codes d_lists_pairs n_p1_lengths n_p2_lengths n_code_lengths n_code_codes x_p1_codes x_p1_next x_p2_codes x_p2_next c_p1_lengths c_p2_lengths v_rowLength_10 v_toldCount_15 v_symbolLengths_11 v_distanceLengths_12 v_codeLengths c_row_13 c_counts_16 c_told_17 c_p3_19 v_many_20 c_counts_21 c_symbols_22 c_itemsBefore_23 c_items_24 c_pairs_25 c_next_29 c_codes_30) H := hP
  replace hD : va_D A (Header_plan_w E a_p1 a_p1_lengths a_this a_p2 a_p2_lengths a_row a_counts a_told a_code a_code_lengths a_lists a_lists_counts a_lists_symbols b_27 b_28 a_lists_pairs a_code_next a_code_codes d_lists_pairs n_p1_lengths n_p2_lengths n_code_lengths n_code_codes x_p1_codes x_p1_next x_p2_codes x_p2_next c_p1_lengths c_p2_lengths v_rowLength_10 v_toldCount_15 v_symbolLengths_11 v_distanceLengths_12 v_codeLengths c_row_13 c_counts_16 c_told_17 c_p3_19 v_many_20 c_counts_21 c_symbols_22 c_itemsBefore_23 c_items_24 c_pairs_25 c_next_29 c_codes_30) := hD
  refine lv_aload_n hx hb d_Header_plan_37 rfl (lv_at hl 0 rfl) ?_
  refine va_getsN hx hb hI.1 hS hown (va_Nw.use rfl (nF_2 hN)) (fun _ h9 => h9) d_Header_plan_38 ?_
  refine va_tlen (v := 19) hx hb hI.2 hS rfl d_Header_plan_41 ?_
  refine va_put (D := E.1) (ci := 4) (v := .int 19) (ty := .int) (C := R_Header) (T := F_Header) (N := 10) hx hb hts i_Header t_Header t_Header_ok n_Header hown hK hP hD hS 2 rfl rfl 9 (by decide) (hts _ tw_211) (fun _ h9 => h9) rfl (by decide +kernel) rfl rfl (Nat.le_of_ble_eq_true rfl) d_Header_plan_42 (fun H locs hP hD hS => ?_)
  replace hP : va_P E.1 vwCl (Header_plan_w E a_p1 a_p1_lengths a_this a_p2 a_p2_lengths a_row a_counts a_told a_code a_code_lengths a_lists a_lists_counts a_lists_symbols b_27 b_28 a_lists_pairs a_code_next a_code_codes d_lists_pairs n_p1_lengths n_p2_lengths n_code_lengths n_code_codes x_p1_codes x_p1_next x_p2_codes x_p2_next c_p1_lengths c_p2_lengths v_rowLength_10 v_toldCount_15 v_symbolLengths_11 v_distanceLengths_12 19 c_row_13 c_counts_16 c_told_17 c_p3_19 v_many_20 c_counts_21 c_symbols_22 c_itemsBefore_23 c_items_24 c_pairs_25 c_next_29 c_codes_30) H := hP
  replace hD : va_D A (Header_plan_w E a_p1 a_p1_lengths a_this a_p2 a_p2_lengths a_row a_counts a_told a_code a_code_lengths a_lists a_lists_counts a_lists_symbols b_27 b_28 a_lists_pairs a_code_next a_code_codes d_lists_pairs n_p1_lengths n_p2_lengths n_code_lengths n_code_codes x_p1_codes x_p1_next x_p2_codes x_p2_next c_p1_lengths c_p2_lengths v_rowLength_10 v_toldCount_15 v_symbolLengths_11 v_distanceLengths_12 19 c_row_13 c_counts_16 c_told_17 c_p3_19 v_many_20 c_counts_21 c_symbols_22 c_itemsBefore_23 c_items_24 c_pairs_25 c_next_29 c_codes_30) := hD
  exact h_45 F _ _ _ _ _ _ _ _ _ _ _ _ _ _ _ _ _ b_27 b_28 H locs ls hm hP hD hS (lv_sub hl [0] rfl)
theorem d_Header_write_0 : decode b_Header_write 0 = .ok (.aload_n 1, 1) := by decide +kernel
theorem d_Header_write_1 : decode b_Header_write 1 = .ok (.aload_n 0, 1) := by decide +kernel
theorem d_Header_write_2 : decode b_Header_write 2 = .ok (.getfield 81, 3) := by decide +kernel
theorem d_Header_write_5 : decode b_Header_write 5 = .ok (.sipush 257, 3) := by decide +kernel
theorem d_Header_write_8 : decode b_Header_write 8 = .ok (.isub, 1) := by decide +kernel
theorem d_Header_write_9 : decode b_Header_write 9 = .ok (.iconst 5, 1) := by decide +kernel
theorem d_Header_write_10 : decode b_Header_write 10 = .ok (.invokevirtual 112, 3) := by decide +kernel
theorem d_Header_write_13 : decode b_Header_write 13 = .ok (.aload_n 1, 1) := by decide +kernel
theorem d_Header_write_14 : decode b_Header_write 14 = .ok (.aload_n 0, 1) := by decide +kernel
theorem d_Header_write_15 : decode b_Header_write 15 = .ok (.getfield 84, 3) := by decide +kernel
theorem d_Header_write_18 : decode b_Header_write 18 = .ok (.iconst 1, 1) := by decide +kernel
theorem d_Header_write_19 : decode b_Header_write 19 = .ok (.isub, 1) := by decide +kernel
theorem d_Header_write_20 : decode b_Header_write 20 = .ok (.iconst 5, 1) := by decide +kernel
theorem d_Header_write_21 : decode b_Header_write 21 = .ok (.invokevirtual 112, 3) := by decide +kernel
theorem d_Header_write_24 : decode b_Header_write 24 = .ok (.aload_n 1, 1) := by decide +kernel
theorem d_Header_write_25 : decode b_Header_write 25 = .ok (.aload_n 0, 1) := by decide +kernel
theorem d_Header_write_26 : decode b_Header_write 26 = .ok (.getfield 56, 3) := by decide +kernel
theorem d_Header_write_29 : decode b_Header_write 29 = .ok (.iconst 4, 1) := by decide +kernel
theorem d_Header_write_30 : decode b_Header_write 30 = .ok (.isub, 1) := by decide +kernel
theorem d_Header_write_31 : decode b_Header_write 31 = .ok (.iconst 4, 1) := by decide +kernel
theorem d_Header_write_32 : decode b_Header_write 32 = .ok (.invokevirtual 112, 3) := by decide +kernel
theorem d_Header_write_35 : decode b_Header_write 35 = .ok (.iconst 0, 1) := by decide +kernel
theorem d_Header_write_36 : decode b_Header_write 36 = .ok (.istore_n 2, 1) := by decide +kernel
theorem d_Header_write_37 : decode b_Header_write 37 = .ok (.iload_n 2, 1) := by decide +kernel
theorem d_Header_write_38 : decode b_Header_write 38 = .ok (.aload_n 0, 1) := by decide +kernel
theorem d_Header_write_39 : decode b_Header_write 39 = .ok (.getfield 56, 3) := by decide +kernel
theorem d_Header_write_42 : decode b_Header_write 42 = .ok (.if_icmp .ge 34, 3) := by decide +kernel
theorem d_Header_write_45 : decode b_Header_write 45 = .ok (.iload_n 2, 1) := by decide +kernel
theorem d_Header_write_46 : decode b_Header_write 46 = .ok (.getstatic 53, 3) := by decide +kernel
theorem d_Header_write_49 : decode b_Header_write 49 = .ok (.arraylength, 1) := by decide +kernel
theorem d_Header_write_50 : decode b_Header_write 50 = .ok (.if_icmp .ge 26, 3) := by decide +kernel
theorem d_Header_write_53 : decode b_Header_write 53 = .ok (.aload_n 1, 1) := by decide +kernel
theorem d_Header_write_54 : decode b_Header_write 54 = .ok (.aload_n 0, 1) := by decide +kernel
theorem d_Header_write_55 : decode b_Header_write 55 = .ok (.getfield 30, 3) := by decide +kernel
theorem d_Header_write_58 : decode b_Header_write 58 = .ok (.getstatic 53, 3) := by decide +kernel
theorem d_Header_write_61 : decode b_Header_write 61 = .ok (.iload_n 2, 1) := by decide +kernel
theorem d_Header_write_62 : decode b_Header_write 62 = .ok (.iaload, 1) := by decide +kernel
theorem d_Header_write_63 : decode b_Header_write 63 = .ok (.invokevirtual 60, 3) := by decide +kernel
theorem d_Header_write_66 : decode b_Header_write 66 = .ok (.iconst 3, 1) := by decide +kernel
theorem d_Header_write_67 : decode b_Header_write 67 = .ok (.invokevirtual 112, 3) := by decide +kernel
theorem d_Header_write_70 : decode b_Header_write 70 = .ok (.iinc 2 1, 3) := by decide +kernel
theorem d_Header_write_73 : decode b_Header_write 73 = .ok (.goto (-36), 3) := by decide +kernel
theorem d_Header_write_76 : decode b_Header_write 76 = .ok (.iconst 0, 1) := by decide +kernel
theorem d_Header_write_77 : decode b_Header_write 77 = .ok (.istore_n 2, 1) := by decide +kernel
theorem d_Header_write_78 : decode b_Header_write 78 = .ok (.iload_n 2, 1) := by decide +kernel
theorem d_Header_write_79 : decode b_Header_write 79 = .ok (.aload_n 0, 1) := by decide +kernel
theorem d_Header_write_80 : decode b_Header_write 80 = .ok (.getfield 99, 3) := by decide +kernel
theorem d_Header_write_83 : decode b_Header_write 83 = .ok (.if_icmp .ge 54, 3) := by decide +kernel
theorem d_Header_write_86 : decode b_Header_write 86 = .ok (.iload_n 2, 1) := by decide +kernel
theorem d_Header_write_87 : decode b_Header_write 87 = .ok (.aload_n 0, 1) := by decide +kernel
theorem d_Header_write_88 : decode b_Header_write 88 = .ok (.getfield 19, 3) := by decide +kernel
theorem d_Header_write_91 : decode b_Header_write 91 = .ok (.arraylength, 1) := by decide +kernel
theorem d_Header_write_92 : decode b_Header_write 92 = .ok (.if_icmp .ge 45, 3) := by decide +kernel
theorem d_Header_write_95 : decode b_Header_write 95 = .ok (.aload_n 0, 1) := by decide +kernel
theorem d_Header_write_96 : decode b_Header_write 96 = .ok (.getfield 19, 3) := by decide +kernel
theorem d_Header_write_99 : decode b_Header_write 99 = .ok (.iload_n 2, 1) := by decide +kernel
theorem d_Header_write_100 : decode b_Header_write 100 = .ok (.iaload, 1) := by decide +kernel
theorem d_Header_write_101 : decode b_Header_write 101 = .ok (.bipush 32, 2) := by decide +kernel
theorem d_Header_write_103 : decode b_Header_write 103 = .ok (.irem, 1) := by decide +kernel
theorem d_Header_write_104 : decode b_Header_write 104 = .ok (.istore_n 3, 1) := by decide +kernel
theorem d_Header_write_105 : decode b_Header_write 105 = .ok (.aload_n 0, 1) := by decide +kernel
theorem d_Header_write_106 : decode b_Header_write 106 = .ok (.getfield 30, 3) := by decide +kernel
theorem d_Header_write_109 : decode b_Header_write 109 = .ok (.aload_n 1, 1) := by decide +kernel
theorem d_Header_write_110 : decode b_Header_write 110 = .ok (.iload_n 3, 1) := by decide +kernel
theorem d_Header_write_111 : decode b_Header_write 111 = .ok (.invokevirtual 117, 3) := by decide +kernel
theorem d_Header_write_114 : decode b_Header_write 114 = .ok (.aload_n 1, 1) := by decide +kernel
theorem d_Header_write_115 : decode b_Header_write 115 = .ok (.aload_n 0, 1) := by decide +kernel
theorem d_Header_write_116 : decode b_Header_write 116 = .ok (.getfield 19, 3) := by decide +kernel
theorem d_Header_write_119 : decode b_Header_write 119 = .ok (.iload_n 2, 1) := by decide +kernel
theorem d_Header_write_120 : decode b_Header_write 120 = .ok (.iaload, 1) := by decide +kernel
theorem d_Header_write_121 : decode b_Header_write 121 = .ok (.bipush 32, 2) := by decide +kernel
theorem d_Header_write_123 : decode b_Header_write 123 = .ok (.idiv, 1) := by decide +kernel
theorem d_Header_write_124 : decode b_Header_write 124 = .ok (.iload_n 3, 1) := by decide +kernel
theorem d_Header_write_125 : decode b_Header_write 125 = .ok (.invokestatic 68, 3) := by decide +kernel
theorem d_Header_write_128 : decode b_Header_write 128 = .ok (.invokevirtual 112, 3) := by decide +kernel
theorem d_Header_write_131 : decode b_Header_write 131 = .ok (.iinc 2 1, 3) := by decide +kernel
theorem d_Header_write_134 : decode b_Header_write 134 = .ok (.goto (-56), 3) := by decide +kernel
theorem d_Header_write_137 : decode b_Header_write 137 = .ok (.return_, 1) := by decide +kernel
def Header_write_78 (F : Nat) (n_code_lengths : Nat) (n_code_codes : Nat) (v_toldCount : Int32) (c_code_lengths : Nat → Int32) (c_told : Nat → Int32) (c_code_codes : Nat → Int32) (k_78 : Int32 → Int32 → Int32 → (Nat → Int32) → Int32 → Option (Unit × Int32 × Int32 × Int32 × (Nat → Int32))) (v_p1_length : Int32) (v_p1_open : Int32) (v_p1_openCount : Int32) (c_p1_data : Nat → Int32) (x2 : Int32) : Option (Unit × Int32 × Int32 × Int32 × (Nat → Int32)) :=
  mC (v_toldCount ≤ x2) (some ((), v_p1_length, v_p1_open, v_p1_openCount, c_p1_data)) (mC (320 ≤ x2) (some ((), v_p1_length, v_p1_open, v_p1_openCount, c_p1_data)) (mG x2 320 (mL (c_told x2.toNatClampNeg) fun t_1 => mL (t_1 - t_1 / 32 * 32) fun y3_2 => mR4 (Code_write F n_code_lengths n_code_codes c_code_lengths c_code_codes v_p1_length v_p1_open v_p1_openCount c_p1_data y3_2) fun _ v_p1_length_3 v_p1_open_4 v_p1_openCount_5 c_p1_data_6 => mG x2 320 (mR0 (P_repeatExtra F y3_2) fun r_8 => mL ((c_told x2.toNatClampNeg) / 32) fun t_9 => mR4 (BitWriter_number F v_p1_length_3 v_p1_open_4 v_p1_openCount_5 c_p1_data_6 t_9 r_8) fun _ v_length_10 v_open_11 v_openCount_12 c_data_13 => mL (x2 + 1) fun y2_15 => k_78 v_length_10 v_open_11 v_openCount_12 c_data_13 y2_15))))
def Header_write_76 (F : Nat) (n_code_lengths : Nat) (n_code_codes : Nat) (v_toldCount : Int32) (c_code_lengths : Nat → Int32) (c_told : Nat → Int32) (c_code_codes : Nat → Int32) (v_p1_length : Int32) (v_p1_open : Int32) (v_p1_openCount : Int32) (c_p1_data : Nat → Int32) : Option (Unit × Int32 × Int32 × Int32 × (Nat → Int32)) :=
  (mW5 (Header_write_78 F n_code_lengths n_code_codes v_toldCount c_code_lengths c_told c_code_codes) F) v_p1_length v_p1_open v_p1_openCount c_p1_data 0
def Header_write_37 (F : Nat) (n_code_lengths : Nat) (v_codeLengths : Int32) (c_code_lengths : Nat → Int32) (k_76 : Int32 → Int32 → Int32 → (Nat → Int32) → Option (Unit × Int32 × Int32 × Int32 × (Nat → Int32))) (k_37 : Int32 → Int32 → Int32 → (Nat → Int32) → Int32 → Option (Unit × Int32 × Int32 × Int32 × (Nat → Int32))) (v_p1_length : Int32) (v_p1_open : Int32) (v_p1_openCount : Int32) (c_p1_data : Nat → Int32) (x2 : Int32) : Option (Unit × Int32 × Int32 × Int32 × (Nat → Int32)) :=
  mC (v_codeLengths ≤ x2) (k_76 v_p1_length v_p1_open v_p1_openCount c_p1_data) (mC (19 ≤ x2) (k_76 v_p1_length v_p1_open v_p1_openCount c_p1_data) (mG x2 19 (mL (tb_order x2.toNatClampNeg) fun t_16 => mR0 (Code_lengthOf F n_code_lengths c_code_lengths t_16) fun r_17 => mR4 (BitWriter_number F v_p1_length v_p1_open v_p1_openCount c_p1_data r_17 3) fun _ v_length_18 v_open_19 v_openCount_20 c_data_21 => mL (x2 + 1) fun y2_23 => k_37 v_length_18 v_open_19 v_openCount_20 c_data_21 y2_23)))
abbrev Header_write_w (E : xE) (a_this : Nat) (a_p1 : Nat) (a_p1_data : Nat) (a_code : Nat) (a_code_lengths : Nat) (a_told : Nat) (a_code_codes : Nat) (n_code_lengths : Nat) (n_code_codes : Nat) (x_lists : Value) (x_row : Value) (x_counts : Value) (x_code_next : Value) (v_toldCount : Int32) (v_symbolLengths : Int32) (v_distanceLengths : Int32) (v_codeLengths : Int32) (c_code_lengths : Nat → Int32) (c_told : Nat → Int32) (c_code_codes : Nat → Int32) (v_p1_length : Int32) (v_p1_open : Int32) (v_p1_openCount : Int32) (c_p1_data : Nat → Int32) (v_rowLength : Int32) : va_W := [(a_this, .inr (4, [x_lists, x_row, .ref a_told, x_counts, .ref a_code, .int v_rowLength, .int v_toldCount, .int v_symbolLengths, .int v_distanceLengths, .int v_codeLengths])), (a_p1, .inr (1, [.ref a_p1_data, .int v_p1_length, .int v_p1_open, .int v_p1_openCount])), (a_p1_data, .inl (E.2.2.1, 8256, .inl c_p1_data)), (a_code, .inr (3, [.ref a_code_lengths, .ref a_code_codes, x_code_next])), (a_code_lengths, .inl (E.2.1, n_code_lengths, .inl c_code_lengths)), (a_told, .inl (E.2.1, 320, .inl c_told)), (a_code_codes, .inl (E.2.1, n_code_codes, .inl c_code_codes))]
def Header_write (F : Nat) (n_code_lengths : Nat) (n_code_codes : Nat) (v_toldCount : Int32) (v_symbolLengths : Int32) (v_distanceLengths : Int32) (v_codeLengths : Int32) (c_code_lengths : Nat → Int32) (c_told : Nat → Int32) (c_code_codes : Nat → Int32) (v_p1_length : Int32) (v_p1_open : Int32) (v_p1_openCount : Int32) (c_p1_data : Nat → Int32) : Option (Unit × Int32 × Int32 × Int32 × (Nat → Int32)) :=
  mL (v_symbolLengths - 257) fun t_24 => mR4 (BitWriter_number F v_p1_length v_p1_open v_p1_openCount c_p1_data t_24 5) fun _ v_length_25 v_open_26 v_openCount_27 c_data_28 => mL (v_distanceLengths - 1) fun t_30 => mR4 (BitWriter_number F v_length_25 v_open_26 v_openCount_27 c_data_28 t_30 5) fun _ v_length_31 v_open_32 v_openCount_33 c_data_34 => mL (v_codeLengths - 4) fun t_36 => mR4 (BitWriter_number F v_length_31 v_open_32 v_openCount_33 c_data_34 t_36 4) fun _ v_length_37 v_open_38 v_openCount_39 c_data_40 => (mW5 (Header_write_37 F n_code_lengths v_codeLengths c_code_lengths (Header_write_76 F n_code_lengths n_code_codes v_toldCount c_code_lengths c_told c_code_codes)) F) v_length_37 v_open_38 v_openCount_39 c_data_40 0
abbrev Header_write_rm : Room := { frames := 2, cells := 0, slots := 0, locals := 44 }
set_option maxHeartbeats 4000000 in
set_option maxRecDepth 100000 in
theorem c_Header_write (l : Launch) (E : xE) (F sz : Nat) (a_this : Nat) (a_p1 : Nat) (a_p1_data : Nat) (a_code : Nat) (a_code_lengths : Nat) (a_told : Nat) (a_code_codes : Nat) (n_code_lengths : Nat) (n_code_codes : Nat) (x_lists : Value) (x_row : Value) (x_counts : Value) (x_code_next : Value) (v_toldCount : Int32) (v_symbolLengths : Int32) (v_distanceLengths : Int32) (v_codeLengths : Int32) (c_code_lengths : Nat → Int32) (c_told : Nat → Int32) (c_code_codes : Nat → Int32) (v_p1_length : Int32) (v_p1_open : Int32) (v_p1_openCount : Int32) (c_p1_data : Nat → Int32) (v_rowLength : Int32) (res : Unit × Int32 × Int32 × Int32 × (Nat → Int32)) (hm : Header_write F n_code_lengths n_code_codes v_toldCount v_symbolLengths v_distanceLengths v_codeLengths c_code_lengths c_told c_code_codes v_p1_length v_p1_open v_p1_openCount c_p1_data = some res) : Met l y_Header_write (Cond.code y_Header_write b_Header_write 4 none :: x_tb) Header_write_rm (va_Pc [.ref a_this, .ref a_p1] (xPre E (Header_write_w E a_this a_p1 a_p1_data a_code a_code_lengths a_told a_code_codes n_code_lengths n_code_codes x_lists x_row x_counts x_code_next v_toldCount v_symbolLengths v_distanceLengths v_codeLengths c_code_lengths c_told c_code_codes v_p1_length v_p1_open v_p1_openCount c_p1_data v_rowLength) sz)) (xQv E (fun (u : Int32 × Int32 × Int32 × (Nat → Int32)) => u = res.2) (fun (u : Int32 × Int32 × Int32 × (Nat → Int32)) => (Header_write_w E a_this a_p1 a_p1_data a_code a_code_lengths a_told a_code_codes n_code_lengths n_code_codes x_lists x_row x_counts x_code_next v_toldCount v_symbolLengths v_distanceLengths v_codeLengths c_code_lengths c_told c_code_codes u.1 u.2.1 u.2.2.1 u.2.2.2 v_rowLength)) (va_A (Header_write_w E a_this a_p1 a_p1_data a_code a_code_lengths a_told a_code_codes n_code_lengths n_code_codes x_lists x_row x_counts x_code_next v_toldCount v_symbolLengths v_distanceLengths v_codeLengths c_code_lengths c_told c_code_codes v_p1_length v_p1_open v_p1_openCount c_p1_data v_rowLength) sz)) 0 0 (va_A (Header_write_w E a_this a_p1 a_p1_data a_code a_code_lengths a_told a_code_codes n_code_lengths n_code_codes x_lists x_row x_counts x_code_next v_toldCount v_symbolLengths v_distanceLengths v_codeLengths c_code_lengths c_told c_code_codes v_p1_length v_p1_open v_p1_openCount c_p1_data v_rowLength) sz) := by
  refine xEnV (by decide) (Nat.le_of_ble_eq_true rfl) ?_
  intro p e s m args below meth c A ls Q hx hb hnm hts hown hml hK hA hI hN hret hP hD hS hl
  replace hown : s.vm.findClass R_Header = some m.cls := hown
  replace hl : lv_has ls 4 [(0, .ref a_this), (1, .ref a_p1)] := hl
  obtain ⟨H, eH⟩ : ∃ z, z = s.heap := ⟨_, rfl⟩
  obtain ⟨locs, eL⟩ : ∃ z : List Loc, z = [] := ⟨_, rfl⟩
  rw [show W p l e Header_write_rm s m args below meth c s.heap [] 0 0 Q (F0 m 0 ls []) = W p l e Header_write_rm s m args below meth c H locs 0 0 Q (F0 m 0 ls []) by rw [eH, eL]]
  replace hP : va_P E.1 vwCl (Header_write_w E a_this a_p1 a_p1_data a_code a_code_lengths a_told a_code_codes n_code_lengths n_code_codes x_lists x_row x_counts x_code_next v_toldCount v_symbolLengths v_distanceLengths v_codeLengths c_code_lengths c_told c_code_codes v_p1_length v_p1_open v_p1_openCount c_p1_data v_rowLength) H := by rw [eH]; exact hP
  replace hS : va_S A s.heap H locs := by rw [eH, eL]; exact hS
  clear eH eL
  rw [Header_write] at hm
  have h_76 : ∀ (v_p1_length : Int32) (v_p1_open : Int32) (v_p1_openCount : Int32) (c_p1_data : Nat → Int32) (H : Heap) (locs : List Loc) (ls : Array Slot), (Header_write_76 F n_code_lengths n_code_codes v_toldCount c_code_lengths c_told c_code_codes) v_p1_length v_p1_open v_p1_openCount c_p1_data = some res → va_P E.1 vwCl (Header_write_w E a_this a_p1 a_p1_data a_code a_code_lengths a_told a_code_codes n_code_lengths n_code_codes x_lists x_row x_counts x_code_next v_toldCount v_symbolLengths v_distanceLengths v_codeLengths c_code_lengths c_told c_code_codes v_p1_length v_p1_open v_p1_openCount c_p1_data v_rowLength) H → va_D A (Header_write_w E a_this a_p1 a_p1_data a_code a_code_lengths a_told a_code_codes n_code_lengths n_code_codes x_lists x_row x_counts x_code_next v_toldCount v_symbolLengths v_distanceLengths v_codeLengths c_code_lengths c_told c_code_codes v_p1_length v_p1_open v_p1_openCount c_p1_data v_rowLength) → va_S A s.heap H locs → lv_has ls 4 [(0, .ref a_this), (1, .ref a_p1)] → W p l e Header_write_rm s m args below meth c H locs 0 0 Q (F0 m 76 ls []) := by
    intro v_p1_length v_p1_open v_p1_openCount c_p1_data H locs ls hm hP hD hS hl
    rw [Header_write_76] at hm
    have h_78 : ∀ (n_78 : Nat) (v_p1_length : Int32) (v_p1_open : Int32) (v_p1_openCount : Int32) (c_p1_data : Nat → Int32) (x2 : Int32) (H : Heap) (locs : List Loc) (ls : Array Slot), (mW5 (Header_write_78 F n_code_lengths n_code_codes v_toldCount c_code_lengths c_told c_code_codes) n_78) v_p1_length v_p1_open v_p1_openCount c_p1_data x2 = some res → va_P E.1 vwCl (Header_write_w E a_this a_p1 a_p1_data a_code a_code_lengths a_told a_code_codes n_code_lengths n_code_codes x_lists x_row x_counts x_code_next v_toldCount v_symbolLengths v_distanceLengths v_codeLengths c_code_lengths c_told c_code_codes v_p1_length v_p1_open v_p1_openCount c_p1_data v_rowLength) H → va_D A (Header_write_w E a_this a_p1 a_p1_data a_code a_code_lengths a_told a_code_codes n_code_lengths n_code_codes x_lists x_row x_counts x_code_next v_toldCount v_symbolLengths v_distanceLengths v_codeLengths c_code_lengths c_told c_code_codes v_p1_length v_p1_open v_p1_openCount c_p1_data v_rowLength) → va_S A s.heap H locs → lv_has ls 4 [(0, .ref a_this), (1, .ref a_p1), (2, .int x2)] → W p l e Header_write_rm s m args below meth c H locs 0 0 Q (F0 m 78 ls []) := by
      intro n_78
      induction n_78 with
      | zero => exact fun _ _ _ _ _ _ _ _ hm _ _ _ _ => (mW5_z hm).elim
      | succ n_78 ih_78 =>
        intro v_p1_length v_p1_open v_p1_openCount c_p1_data x2 H locs ls hm hP hD hS hl
        replace hm := mW5_s hm
        rw [Header_write_78] at hm
        refine lv_iload_n hx hb d_Header_write_78 rfl (lv_at hl 2 rfl) ?_
        refine lv_aload_n hx hb d_Header_write_79 rfl (lv_at hl 0 rfl) ?_
        refine va_get (D := E.1) (ci := 4) (v := .int v_toldCount) (C := R_Header) (T := F_Header) (N := 10) hx hb hts i_Header hown hK hP 0 rfl rfl 6 (by decide) (hts _ tw_208) (fun _ h9 => h9) rfl d_Header_write_80 ?_
        refine lv_icmp_ge (tgt := 137) hx hb d_Header_write_83 (by decide) (fun c83 => ?_) (fun c83 => ?_)
        · replace hm := mC_t hm c83
          replace hm := Option.some.inj hm
          subst hm
          exact hret d_Header_write_137 (u := (v_p1_length, v_p1_open, v_p1_openCount, c_p1_data)) rfl hP hD hS
        · replace hm := mC_f hm c83
          refine lv_iload_n hx hb d_Header_write_86 rfl (lv_at hl 2 rfl) ?_
          refine lv_aload_n hx hb d_Header_write_87 rfl (lv_at hl 0 rfl) ?_
          refine va_get (D := E.1) (ci := 4) (v := .ref a_told) (C := R_Header) (T := F_Header) (N := 10) hx hb hts i_Header hown hK hP 0 rfl rfl 2 (by decide) (hts _ tw_204) (fun _ h9 => h9) rfl d_Header_write_88 ?_
          refine va_alen (v := 320) hx hb hK hP 5 0 rfl rfl rfl d_Header_write_91 ?_
          refine lv_icmp_ge (tgt := 137) hx hb d_Header_write_92 (by decide) (fun c92 => ?_) (fun c92 => ?_)
          · replace hm := mC_t hm c92
            replace hm := Option.some.inj hm
            subst hm
            exact hret d_Header_write_137 (u := (v_p1_length, v_p1_open, v_p1_openCount, c_p1_data)) rfl hP hD hS
          · replace hm := mC_f hm c92
            refine lv_aload_n hx hb d_Header_write_95 rfl (lv_at hl 0 rfl) ?_
            refine va_get (D := E.1) (ci := 4) (v := .ref a_told) (C := R_Header) (T := F_Header) (N := 10) hx hb hts i_Header hown hK hP 0 rfl rfl 2 (by decide) (hts _ tw_204) (fun _ h9 => h9) rfl d_Header_write_96 ?_
            refine lv_iload_n hx hb d_Header_write_99 rfl (lv_at hl 2 rfl) ?_
            obtain ⟨hi100, hm⟩ := mG_e hm
            refine va_iald hx hb hK hP 5 0 rfl rfl hi100 d_Header_write_100 ?_
            refine lv_bipush (v := 32) hx hb d_Header_write_101 (by decide) ?_
            obtain ⟨t_1, et_1⟩ : ∃ z : Int32, z = c_told x2.toNatClampNeg := ⟨_, rfl⟩
            rw [← et_1]
            replace hm := mL_e hm t_1 et_1
            refine lv_irem hx hb d_Header_write_103 (by decide) ?_
            refine lv_topi (fun y3_2 ey3_2 => ?_)
            replace hm := mL_e hm y3_2 ey3_2
            refine lv_istore_n (lv' := [(3, .int y3_2), (0, .ref a_this), (1, .ref a_p1), (2, .int x2)]) hx hb d_Header_write_104 rfl hl (by decide) rfl (fun ls hl => ?_)
            refine lv_aload_n hx hb d_Header_write_105 rfl (lv_at hl 1 rfl) ?_
            refine va_get (D := E.1) (ci := 4) (v := .ref a_code) (C := R_Header) (T := F_Header) (N := 10) hx hb hts i_Header hown hK hP 0 rfl rfl 4 (by decide) (hts _ tw_206) (fun _ h9 => h9) rfl d_Header_write_106 ?_
            refine lv_aload_n hx hb d_Header_write_109 rfl (lv_at hl 2 rfl) ?_
            refine lv_iload_n hx hb d_Header_write_110 rfl (lv_at hl 0 rfl) ?_
            obtain ⟨r_7, v_p1_length_3, v_p1_open_4, v_p1_openCount_5, c_p1_data_6, hc111, hm⟩ := mR4_e hm
            refine xmv (wc := (Code_write_w E a_code a_code_lengths a_code_codes a_p1 a_p1_data n_code_lengths n_code_codes x_code_next c_code_lengths c_code_codes v_p1_length v_p1_open v_p1_openCount c_p1_data)) [false, true, true, true, true, false, true] [2, 3, 4, 0, 1] [3, 4, 0, 1, 2] hP hD hS hA rfl (by decide) (by decide) 5 (by decide) (fun _ => rfl) (fun hPc hDc hFc => va_runV (As := [.ref a_p1, .int y3_2]) (rest := []) ⟨hx, hb, hml, hown, hts⟩ (c_Code_write l E F H.size a_code a_code_lengths a_code_codes a_p1 a_p1_data n_code_lengths n_code_codes x_code_next c_code_lengths c_code_codes v_p1_length v_p1_open v_p1_openCount c_p1_data y3_2 (r_7, v_p1_length_3, v_p1_open_4, v_p1_openCount_5, c_p1_data_6) hc111) (cwV 2 hts (x_gV tw_608 tw_591 tw_592 tw_74 tw_593) rfl rfl rfl (by decide +kernel) ⟨Nat.le_of_ble_eq_true rfl, Nat.le_of_ble_eq_true rfl⟩) (xPV 3 0 rfl rfl hPc hDc hFc hK hI hN hS) rfl rfl hl.1 rfl (lv_room (Nat.le_of_ble_eq_true rfl)) d_Header_write_111 ⟨Nat.le_of_ble_eq_true rfl, Nat.le_of_ble_eq_true rfl⟩) (fun u9 H locs hw hP hD hS => ?_)
            have hw2 : (v_p1_length_3, v_p1_open_4, v_p1_openCount_5, c_p1_data_6) = u9 := hw.symm
            subst hw2
            replace hP : va_P E.1 vwCl (Header_write_w E a_this a_p1 a_p1_data a_code a_code_lengths a_told a_code_codes n_code_lengths n_code_codes x_lists x_row x_counts x_code_next v_toldCount v_symbolLengths v_distanceLengths v_codeLengths c_code_lengths c_told c_code_codes v_p1_length_3 v_p1_open_4 v_p1_openCount_5 c_p1_data_6 v_rowLength) H := hP
            replace hD : va_D A (Header_write_w E a_this a_p1 a_p1_data a_code a_code_lengths a_told a_code_codes n_code_lengths n_code_codes x_lists x_row x_counts x_code_next v_toldCount v_symbolLengths v_distanceLengths v_codeLengths c_code_lengths c_told c_code_codes v_p1_length_3 v_p1_open_4 v_p1_openCount_5 c_p1_data_6 v_rowLength) := hD
            refine lv_aload_n hx hb d_Header_write_114 rfl (lv_at hl 2 rfl) ?_
            refine lv_aload_n hx hb d_Header_write_115 rfl (lv_at hl 1 rfl) ?_
            refine va_get (D := E.1) (ci := 4) (v := .ref a_told) (C := R_Header) (T := F_Header) (N := 10) hx hb hts i_Header hown hK hP 0 rfl rfl 2 (by decide) (hts _ tw_204) (fun _ h9 => h9) rfl d_Header_write_116 ?_
            refine lv_iload_n hx hb d_Header_write_119 rfl (lv_at hl 3 rfl) ?_
            obtain ⟨hi120, hm⟩ := mG_e hm
            refine va_iald hx hb hK hP 5 0 rfl rfl hi120 d_Header_write_120 ?_
            refine lv_bipush (v := 32) hx hb d_Header_write_121 (by decide) ?_
            refine lv_idiv hx hb d_Header_write_123 (by decide) ?_
            refine lv_iload_n hx hb d_Header_write_124 rfl (lv_at hl 0 rfl) ?_
            obtain ⟨r_8, hc125, hm⟩ := mR0_e hm
            refine xmi (wc := (P_repeatExtra_w E)) [false, false, false, false, false, false, false] [] [] hP hD hS hA rfl (by decide) (by decide) 0 (by decide) (fun _ => rfl) (fun hPc hDc hFc => va_runSN (As := [.int y3_2]) (rest := [.int ((c_told x2.toNatClampNeg) / 32), .ref a_p1]) ⟨hx, hb, hml, hown, hts⟩ (c_P_repeatExtra l E F H.size y3_2 (r_8, ()) hc125) ⟨(va_cnB 1 hts (x_g tw_575) rfl rfl rfl (nM_7 hN) (hts _ tw_66) (by decide +kernel) ⟨Nat.le_of_ble_eq_true rfl, Nat.le_of_ble_eq_true rfl⟩), (hts _ tw_574), trivial⟩ (xPS hPc hDc hFc hK hI hN hS) rfl rfl hl.1 rfl (lv_room (Nat.le_of_ble_eq_true rfl)) d_Header_write_125 ⟨Nat.le_of_ble_eq_true rfl, Nat.le_of_ble_eq_true rfl⟩) (fun r9 u9 H locs hw hP hD hS => ?_)
            have hw1 : r_8 = r9 := hw.1.symm
            subst hw1
            replace hP : va_P E.1 vwCl (Header_write_w E a_this a_p1 a_p1_data a_code a_code_lengths a_told a_code_codes n_code_lengths n_code_codes x_lists x_row x_counts x_code_next v_toldCount v_symbolLengths v_distanceLengths v_codeLengths c_code_lengths c_told c_code_codes v_p1_length_3 v_p1_open_4 v_p1_openCount_5 c_p1_data_6 v_rowLength) H := hP
            replace hD : va_D A (Header_write_w E a_this a_p1 a_p1_data a_code a_code_lengths a_told a_code_codes n_code_lengths n_code_codes x_lists x_row x_counts x_code_next v_toldCount v_symbolLengths v_distanceLengths v_codeLengths c_code_lengths c_told c_code_codes v_p1_length_3 v_p1_open_4 v_p1_openCount_5 c_p1_data_6 v_rowLength) := hD
            obtain ⟨t_9, et_9⟩ : ∃ z : Int32, z = (c_told x2.toNatClampNeg) / 32 := ⟨_, rfl⟩
            rw [← et_9]
            replace hm := mL_e hm t_9 et_9
            obtain ⟨r_14, v_length_10, v_open_11, v_openCount_12, c_data_13, hc128, hm⟩ := mR4_e hm
            refine xmv (wc := (BitWriter_number_w E a_p1 a_p1_data v_p1_length_3 v_p1_open_4 v_p1_openCount_5 c_p1_data_6)) [false, true, true, false, false, false, false] [0, 1] [0, 1] hP hD hS hA rfl (by decide) (by decide) 2 (by decide) (fun _ => rfl) (fun hPc hDc hFc => va_runV (As := [.int t_9, .int r_8]) (rest := []) ⟨hx, hb, hml, hown, hts⟩ (c_BitWriter_number l E F H.size a_p1 a_p1_data v_p1_length_3 v_p1_open_4 v_p1_openCount_5 c_p1_data_6 t_9 r_8 (r_14, v_length_10, v_open_11, v_openCount_12, c_data_13) hc128) (cwV 2 hts (x_gV tw_607 tw_453 tw_454 tw_70 tw_455) rfl rfl rfl (by decide +kernel) ⟨Nat.le_of_ble_eq_true rfl, Nat.le_of_ble_eq_true rfl⟩) (xPV 1 0 rfl rfl hPc hDc hFc hK hI hN hS) rfl rfl hl.1 rfl (lv_room (Nat.le_of_ble_eq_true rfl)) d_Header_write_128 ⟨Nat.le_of_ble_eq_true rfl, Nat.le_of_ble_eq_true rfl⟩) (fun u9 H locs hw hP hD hS => ?_)
            have hw2 : (v_length_10, v_open_11, v_openCount_12, c_data_13) = u9 := hw.symm
            subst hw2
            replace hP : va_P E.1 vwCl (Header_write_w E a_this a_p1 a_p1_data a_code a_code_lengths a_told a_code_codes n_code_lengths n_code_codes x_lists x_row x_counts x_code_next v_toldCount v_symbolLengths v_distanceLengths v_codeLengths c_code_lengths c_told c_code_codes v_length_10 v_open_11 v_openCount_12 c_data_13 v_rowLength) H := hP
            replace hD : va_D A (Header_write_w E a_this a_p1 a_p1_data a_code a_code_lengths a_told a_code_codes n_code_lengths n_code_codes x_lists x_row x_counts x_code_next v_toldCount v_symbolLengths v_distanceLengths v_codeLengths c_code_lengths c_told c_code_codes v_length_10 v_open_11 v_openCount_12 c_data_13 v_rowLength) := hD
            obtain ⟨y2_15, ey2_15⟩ : ∃ y : Int32, y = x2 + 1 := ⟨_, rfl⟩
            replace hm := mL_e hm y2_15 ey2_15
            refine lv_iinc (v := y2_15) (lv' := [(2, .int y2_15), (3, .int y3_2), (0, .ref a_this), (1, .ref a_p1)]) hx hb d_Header_write_131 hl (k := 3) rfl (by rw [ey2_15]; rfl) (by decide) rfl (fun ls hl => ?_)
            refine lv_goto (tgt := 78) hx hb d_Header_write_134 (by decide) ?_
            exact ih_78 _ _ _ _ _ H locs ls hm hP hD hS (lv_sub hl [2, 3, 0] rfl)
    refine lv_iconst (v := 0) hx hb d_Header_write_76 (by decide) ?_
    refine lv_istore_n (lv' := [(2, .int 0), (0, .ref a_this), (1, .ref a_p1)]) hx hb d_Header_write_77 rfl hl (by decide) rfl (fun ls hl => ?_)
    exact h_78 F _ _ _ _ _ H locs ls hm hP hD hS (lv_sub hl [1, 2, 0] rfl)
  have h_37 : ∀ (n_37 : Nat) (v_p1_length : Int32) (v_p1_open : Int32) (v_p1_openCount : Int32) (c_p1_data : Nat → Int32) (x2 : Int32) (H : Heap) (locs : List Loc) (ls : Array Slot), (mW5 (Header_write_37 F n_code_lengths v_codeLengths c_code_lengths (Header_write_76 F n_code_lengths n_code_codes v_toldCount c_code_lengths c_told c_code_codes)) n_37) v_p1_length v_p1_open v_p1_openCount c_p1_data x2 = some res → va_P E.1 vwCl (Header_write_w E a_this a_p1 a_p1_data a_code a_code_lengths a_told a_code_codes n_code_lengths n_code_codes x_lists x_row x_counts x_code_next v_toldCount v_symbolLengths v_distanceLengths v_codeLengths c_code_lengths c_told c_code_codes v_p1_length v_p1_open v_p1_openCount c_p1_data v_rowLength) H → va_D A (Header_write_w E a_this a_p1 a_p1_data a_code a_code_lengths a_told a_code_codes n_code_lengths n_code_codes x_lists x_row x_counts x_code_next v_toldCount v_symbolLengths v_distanceLengths v_codeLengths c_code_lengths c_told c_code_codes v_p1_length v_p1_open v_p1_openCount c_p1_data v_rowLength) → va_S A s.heap H locs → lv_has ls 4 [(0, .ref a_this), (1, .ref a_p1), (2, .int x2)] → W p l e Header_write_rm s m args below meth c H locs 0 0 Q (F0 m 37 ls []) := by
    intro n_37
    induction n_37 with
    | zero => exact fun _ _ _ _ _ _ _ _ hm _ _ _ _ => (mW5_z hm).elim
    | succ n_37 ih_37 =>
      intro v_p1_length v_p1_open v_p1_openCount c_p1_data x2 H locs ls hm hP hD hS hl
      replace hm := mW5_s hm
      rw [Header_write_37] at hm
      refine lv_iload_n hx hb d_Header_write_37 rfl (lv_at hl 2 rfl) ?_
      refine lv_aload_n hx hb d_Header_write_38 rfl (lv_at hl 0 rfl) ?_
      refine va_get (D := E.1) (ci := 4) (v := .int v_codeLengths) (C := R_Header) (T := F_Header) (N := 10) hx hb hts i_Header hown hK hP 0 rfl rfl 9 (by decide) (hts _ tw_211) (fun _ h9 => h9) rfl d_Header_write_39 ?_
      refine lv_icmp_ge (tgt := 76) hx hb d_Header_write_42 (by decide) (fun c42 => ?_) (fun c42 => ?_)
      · replace hm := mC_t hm c42
        exact h_76 _ _ _ _ H locs ls hm hP hD hS (lv_sub hl [0, 1] rfl)
      · replace hm := mC_f hm c42
        refine lv_iload_n hx hb d_Header_write_45 rfl (lv_at hl 2 rfl) ?_
        refine va_getsN hx hb hI.1 hS hown (va_Nw.use rfl (nF_2 hN)) (fun _ h9 => h9) d_Header_write_46 ?_
        refine va_tlen (v := 19) hx hb hI.2 hS rfl d_Header_write_49 ?_
        refine lv_icmp_ge (tgt := 76) hx hb d_Header_write_50 (by decide) (fun c50 => ?_) (fun c50 => ?_)
        · replace hm := mC_t hm c50
          exact h_76 _ _ _ _ H locs ls hm hP hD hS (lv_sub hl [0, 1] rfl)
        · replace hm := mC_f hm c50
          refine lv_aload_n hx hb d_Header_write_53 rfl (lv_at hl 1 rfl) ?_
          refine lv_aload_n hx hb d_Header_write_54 rfl (lv_at hl 0 rfl) ?_
          refine va_get (D := E.1) (ci := 4) (v := .ref a_code) (C := R_Header) (T := F_Header) (N := 10) hx hb hts i_Header hown hK hP 0 rfl rfl 4 (by decide) (hts _ tw_206) (fun _ h9 => h9) rfl d_Header_write_55 ?_
          refine va_getsN hx hb hI.1 hS hown (va_Nw.use rfl (nF_2 hN)) (fun _ h9 => h9) d_Header_write_58 ?_
          refine lv_iload_n hx hb d_Header_write_61 rfl (lv_at hl 2 rfl) ?_
          obtain ⟨hi62, hm⟩ := mG_e hm
          refine va_ti hx hb hI.2 hS hi62 (v := .int (tb_order x2.toNatClampNeg)) rfl d_Header_write_62 ?_
          obtain ⟨t_16, et_16⟩ : ∃ z : Int32, z = tb_order x2.toNatClampNeg := ⟨_, rfl⟩
          rw [← et_16]
          replace hm := mL_e hm t_16 et_16
          obtain ⟨r_17, hc63, hm⟩ := mR0_e hm
          refine xmi (wc := (Code_lengthOf_w E a_code a_code_lengths n_code_lengths (.ref a_code_codes) x_code_next c_code_lengths)) [false, false, false, true, true, false, false] [0, 1] [0, 1] hP hD hS hA rfl (by decide) (by decide) 2 (by decide) (fun _ => rfl) (fun hPc hDc hFc => va_runV (As := [.int t_16]) (rest := [.ref a_p1]) ⟨hx, hb, hml, hown, hts⟩ (c_Code_lengthOf l E F H.size a_code a_code_lengths n_code_lengths (.ref a_code_codes) x_code_next c_code_lengths t_16 (r_17, ()) hc63) (cwV 1 hts (x_gV tw_548 tw_549 tw_550 tw_74 tw_551) rfl rfl rfl (by decide +kernel) ⟨Nat.le_of_ble_eq_true rfl, Nat.le_of_ble_eq_true rfl⟩) (xPV 3 0 rfl rfl hPc hDc hFc hK hI hN hS) rfl rfl hl.1 rfl (lv_room (Nat.le_of_ble_eq_true rfl)) d_Header_write_63 ⟨Nat.le_of_ble_eq_true rfl, Nat.le_of_ble_eq_true rfl⟩) (fun r9 u9 H locs hw hP hD hS => ?_)
          have hw1 : r_17 = r9 := hw.1.symm
          subst hw1
          replace hP : va_P E.1 vwCl (Header_write_w E a_this a_p1 a_p1_data a_code a_code_lengths a_told a_code_codes n_code_lengths n_code_codes x_lists x_row x_counts x_code_next v_toldCount v_symbolLengths v_distanceLengths v_codeLengths c_code_lengths c_told c_code_codes v_p1_length v_p1_open v_p1_openCount c_p1_data v_rowLength) H := hP
          replace hD : va_D A (Header_write_w E a_this a_p1 a_p1_data a_code a_code_lengths a_told a_code_codes n_code_lengths n_code_codes x_lists x_row x_counts x_code_next v_toldCount v_symbolLengths v_distanceLengths v_codeLengths c_code_lengths c_told c_code_codes v_p1_length v_p1_open v_p1_openCount c_p1_data v_rowLength) := hD
          refine lv_iconst (v := 3) hx hb d_Header_write_66 (by decide) ?_
          obtain ⟨r_22, v_length_18, v_open_19, v_openCount_20, c_data_21, hc67, hm⟩ := mR4_e hm
          refine xmv (wc := (BitWriter_number_w E a_p1 a_p1_data v_p1_length v_p1_open v_p1_openCount c_p1_data)) [false, true, true, false, false, false, false] [0, 1] [0, 1] hP hD hS hA rfl (by decide) (by decide) 2 (by decide) (fun _ => rfl) (fun hPc hDc hFc => va_runV (As := [.int r_17, .int 3]) (rest := []) ⟨hx, hb, hml, hown, hts⟩ (c_BitWriter_number l E F H.size a_p1 a_p1_data v_p1_length v_p1_open v_p1_openCount c_p1_data r_17 3 (r_22, v_length_18, v_open_19, v_openCount_20, c_data_21) hc67) (cwV 2 hts (x_gV tw_607 tw_453 tw_454 tw_70 tw_455) rfl rfl rfl (by decide +kernel) ⟨Nat.le_of_ble_eq_true rfl, Nat.le_of_ble_eq_true rfl⟩) (xPV 1 0 rfl rfl hPc hDc hFc hK hI hN hS) rfl rfl hl.1 rfl (lv_room (Nat.le_of_ble_eq_true rfl)) d_Header_write_67 ⟨Nat.le_of_ble_eq_true rfl, Nat.le_of_ble_eq_true rfl⟩) (fun u9 H locs hw hP hD hS => ?_)
          have hw2 : (v_length_18, v_open_19, v_openCount_20, c_data_21) = u9 := hw.symm
          subst hw2
          replace hP : va_P E.1 vwCl (Header_write_w E a_this a_p1 a_p1_data a_code a_code_lengths a_told a_code_codes n_code_lengths n_code_codes x_lists x_row x_counts x_code_next v_toldCount v_symbolLengths v_distanceLengths v_codeLengths c_code_lengths c_told c_code_codes v_length_18 v_open_19 v_openCount_20 c_data_21 v_rowLength) H := hP
          replace hD : va_D A (Header_write_w E a_this a_p1 a_p1_data a_code a_code_lengths a_told a_code_codes n_code_lengths n_code_codes x_lists x_row x_counts x_code_next v_toldCount v_symbolLengths v_distanceLengths v_codeLengths c_code_lengths c_told c_code_codes v_length_18 v_open_19 v_openCount_20 c_data_21 v_rowLength) := hD
          obtain ⟨y2_23, ey2_23⟩ : ∃ y : Int32, y = x2 + 1 := ⟨_, rfl⟩
          replace hm := mL_e hm y2_23 ey2_23
          refine lv_iinc (v := y2_23) (lv' := [(2, .int y2_23), (0, .ref a_this), (1, .ref a_p1)]) hx hb d_Header_write_70 hl (k := 2) rfl (by rw [ey2_23]; rfl) (by decide) rfl (fun ls hl => ?_)
          refine lv_goto (tgt := 37) hx hb d_Header_write_73 (by decide) ?_
          exact ih_37 _ _ _ _ _ H locs ls hm hP hD hS (lv_sub hl [1, 2, 0] rfl)
  refine lv_aload_n hx hb d_Header_write_0 rfl (lv_at hl 1 rfl) ?_
  refine lv_aload_n hx hb d_Header_write_1 rfl (lv_at hl 0 rfl) ?_
  refine va_get (D := E.1) (ci := 4) (v := .int v_symbolLengths) (C := R_Header) (T := F_Header) (N := 10) hx hb hts i_Header hown hK hP 0 rfl rfl 7 (by decide) (hts _ tw_209) (fun _ h9 => h9) rfl d_Header_write_2 ?_
  refine lv_sipush (v := 257) hx hb d_Header_write_5 (by decide) ?_
  refine lv_isub hx hb d_Header_write_8 ?_
  refine lv_iconst (v := 5) hx hb d_Header_write_9 (by decide) ?_
  obtain ⟨t_24, et_24⟩ : ∃ z : Int32, z = v_symbolLengths - 257 := ⟨_, rfl⟩
  rw [← et_24]
  replace hm := mL_e hm t_24 et_24
  obtain ⟨r_29, v_length_25, v_open_26, v_openCount_27, c_data_28, hc10, hm⟩ := mR4_e hm
  refine xmv (wc := (BitWriter_number_w E a_p1 a_p1_data v_p1_length v_p1_open v_p1_openCount c_p1_data)) [false, true, true, false, false, false, false] [0, 1] [0, 1] hP hD hS hA rfl (by decide) (by decide) 2 (by decide) (fun _ => rfl) (fun hPc hDc hFc => va_runV (As := [.int t_24, .int 5]) (rest := []) ⟨hx, hb, hml, hown, hts⟩ (c_BitWriter_number l E F H.size a_p1 a_p1_data v_p1_length v_p1_open v_p1_openCount c_p1_data t_24 5 (r_29, v_length_25, v_open_26, v_openCount_27, c_data_28) hc10) (cwV 2 hts (x_gV tw_607 tw_453 tw_454 tw_70 tw_455) rfl rfl rfl (by decide +kernel) ⟨Nat.le_of_ble_eq_true rfl, Nat.le_of_ble_eq_true rfl⟩) (xPV 1 0 rfl rfl hPc hDc hFc hK hI hN hS) rfl rfl hl.1 rfl (lv_room (Nat.le_of_ble_eq_true rfl)) d_Header_write_10 ⟨Nat.le_of_ble_eq_true rfl, Nat.le_of_ble_eq_true rfl⟩) (fun u9 H locs hw hP hD hS => ?_)
  have hw2 : (v_length_25, v_open_26, v_openCount_27, c_data_28) = u9 := hw.symm
  subst hw2
  replace hP : va_P E.1 vwCl (Header_write_w E a_this a_p1 a_p1_data a_code a_code_lengths a_told a_code_codes n_code_lengths n_code_codes x_lists x_row x_counts x_code_next v_toldCount v_symbolLengths v_distanceLengths v_codeLengths c_code_lengths c_told c_code_codes v_length_25 v_open_26 v_openCount_27 c_data_28 v_rowLength) H := hP
  replace hD : va_D A (Header_write_w E a_this a_p1 a_p1_data a_code a_code_lengths a_told a_code_codes n_code_lengths n_code_codes x_lists x_row x_counts x_code_next v_toldCount v_symbolLengths v_distanceLengths v_codeLengths c_code_lengths c_told c_code_codes v_length_25 v_open_26 v_openCount_27 c_data_28 v_rowLength) := hD
  refine lv_aload_n hx hb d_Header_write_13 rfl (lv_at hl 1 rfl) ?_
  refine lv_aload_n hx hb d_Header_write_14 rfl (lv_at hl 0 rfl) ?_
  refine va_get (D := E.1) (ci := 4) (v := .int v_distanceLengths) (C := R_Header) (T := F_Header) (N := 10) hx hb hts i_Header hown hK hP 0 rfl rfl 8 (by decide) (hts _ tw_210) (fun _ h9 => h9) rfl d_Header_write_15 ?_
  refine lv_iconst (v := 1) hx hb d_Header_write_18 (by decide) ?_
  refine lv_isub hx hb d_Header_write_19 ?_
  refine lv_iconst (v := 5) hx hb d_Header_write_20 (by decide) ?_
  obtain ⟨t_30, et_30⟩ : ∃ z : Int32, z = v_distanceLengths - 1 := ⟨_, rfl⟩
  rw [← et_30]
  replace hm := mL_e hm t_30 et_30
  obtain ⟨r_35, v_length_31, v_open_32, v_openCount_33, c_data_34, hc21, hm⟩ := mR4_e hm
  refine xmv (wc := (BitWriter_number_w E a_p1 a_p1_data v_length_25 v_open_26 v_openCount_27 c_data_28)) [false, true, true, false, false, false, false] [0, 1] [0, 1] hP hD hS hA rfl (by decide) (by decide) 2 (by decide) (fun _ => rfl) (fun hPc hDc hFc => va_runV (As := [.int t_30, .int 5]) (rest := []) ⟨hx, hb, hml, hown, hts⟩ (c_BitWriter_number l E F H.size a_p1 a_p1_data v_length_25 v_open_26 v_openCount_27 c_data_28 t_30 5 (r_35, v_length_31, v_open_32, v_openCount_33, c_data_34) hc21) (cwV 2 hts (x_gV tw_607 tw_453 tw_454 tw_70 tw_455) rfl rfl rfl (by decide +kernel) ⟨Nat.le_of_ble_eq_true rfl, Nat.le_of_ble_eq_true rfl⟩) (xPV 1 0 rfl rfl hPc hDc hFc hK hI hN hS) rfl rfl hl.1 rfl (lv_room (Nat.le_of_ble_eq_true rfl)) d_Header_write_21 ⟨Nat.le_of_ble_eq_true rfl, Nat.le_of_ble_eq_true rfl⟩) (fun u9 H locs hw hP hD hS => ?_)
  have hw2 : (v_length_31, v_open_32, v_openCount_33, c_data_34) = u9 := hw.symm
  subst hw2
  replace hP : va_P E.1 vwCl (Header_write_w E a_this a_p1 a_p1_data a_code a_code_lengths a_told a_code_codes n_code_lengths n_code_codes x_lists x_row x_counts x_code_next v_toldCount v_symbolLengths v_distanceLengths v_codeLengths c_code_lengths c_told c_code_codes v_length_31 v_open_32 v_openCount_33 c_data_34 v_rowLength) H := hP
  replace hD : va_D A (Header_write_w E a_this a_p1 a_p1_data a_code a_code_lengths a_told a_code_codes n_code_lengths n_code_codes x_lists x_row x_counts x_code_next v_toldCount v_symbolLengths v_distanceLengths v_codeLengths c_code_lengths c_told c_code_codes v_length_31 v_open_32 v_openCount_33 c_data_34 v_rowLength) := hD
  refine lv_aload_n hx hb d_Header_write_24 rfl (lv_at hl 1 rfl) ?_
  refine lv_aload_n hx hb d_Header_write_25 rfl (lv_at hl 0 rfl) ?_
  refine va_get (D := E.1) (ci := 4) (v := .int v_codeLengths) (C := R_Header) (T := F_Header) (N := 10) hx hb hts i_Header hown hK hP 0 rfl rfl 9 (by decide) (hts _ tw_211) (fun _ h9 => h9) rfl d_Header_write_26 ?_
  refine lv_iconst (v := 4) hx hb d_Header_write_29 (by decide) ?_
  refine lv_isub hx hb d_Header_write_30 ?_
  refine lv_iconst (v := 4) hx hb d_Header_write_31 (by decide) ?_
  obtain ⟨t_36, et_36⟩ : ∃ z : Int32, z = v_codeLengths - 4 := ⟨_, rfl⟩
  rw [← et_36]
  replace hm := mL_e hm t_36 et_36
  obtain ⟨r_41, v_length_37, v_open_38, v_openCount_39, c_data_40, hc32, hm⟩ := mR4_e hm
  refine xmv (wc := (BitWriter_number_w E a_p1 a_p1_data v_length_31 v_open_32 v_openCount_33 c_data_34)) [false, true, true, false, false, false, false] [0, 1] [0, 1] hP hD hS hA rfl (by decide) (by decide) 2 (by decide) (fun _ => rfl) (fun hPc hDc hFc => va_runV (As := [.int t_36, .int 4]) (rest := []) ⟨hx, hb, hml, hown, hts⟩ (c_BitWriter_number l E F H.size a_p1 a_p1_data v_length_31 v_open_32 v_openCount_33 c_data_34 t_36 4 (r_41, v_length_37, v_open_38, v_openCount_39, c_data_40) hc32) (cwV 2 hts (x_gV tw_607 tw_453 tw_454 tw_70 tw_455) rfl rfl rfl (by decide +kernel) ⟨Nat.le_of_ble_eq_true rfl, Nat.le_of_ble_eq_true rfl⟩) (xPV 1 0 rfl rfl hPc hDc hFc hK hI hN hS) rfl rfl hl.1 rfl (lv_room (Nat.le_of_ble_eq_true rfl)) d_Header_write_32 ⟨Nat.le_of_ble_eq_true rfl, Nat.le_of_ble_eq_true rfl⟩) (fun u9 H locs hw hP hD hS => ?_)
  have hw2 : (v_length_37, v_open_38, v_openCount_39, c_data_40) = u9 := hw.symm
  subst hw2
  replace hP : va_P E.1 vwCl (Header_write_w E a_this a_p1 a_p1_data a_code a_code_lengths a_told a_code_codes n_code_lengths n_code_codes x_lists x_row x_counts x_code_next v_toldCount v_symbolLengths v_distanceLengths v_codeLengths c_code_lengths c_told c_code_codes v_length_37 v_open_38 v_openCount_39 c_data_40 v_rowLength) H := hP
  replace hD : va_D A (Header_write_w E a_this a_p1 a_p1_data a_code a_code_lengths a_told a_code_codes n_code_lengths n_code_codes x_lists x_row x_counts x_code_next v_toldCount v_symbolLengths v_distanceLengths v_codeLengths c_code_lengths c_told c_code_codes v_length_37 v_open_38 v_openCount_39 c_data_40 v_rowLength) := hD
  refine lv_iconst (v := 0) hx hb d_Header_write_35 (by decide) ?_
  refine lv_istore_n (lv' := [(2, .int 0), (0, .ref a_this), (1, .ref a_p1)]) hx hb d_Header_write_36 rfl hl (by decide) rfl (fun ls hl => ?_)
  exact h_37 F _ _ _ _ _ H locs ls hm hP hD hS (lv_sub hl [1, 2, 0] rfl)
