theorem d_M_lengthBits_0 : decode b_M_lengthBits 0 = .ok (.iload_n 0, 1) := by decide +kernel
theorem d_M_lengthBits_1 : decode b_M_lengthBits 1 = .ok (.sipush 265, 3) := by decide +kernel
theorem d_M_lengthBits_4 : decode b_M_lengthBits 4 = .ok (.if_icmp .lt 10, 3) := by decide +kernel
theorem d_M_lengthBits_7 : decode b_M_lengthBits 7 = .ok (.iload_n 0, 1) := by decide +kernel
theorem d_M_lengthBits_8 : decode b_M_lengthBits 8 = .ok (.sipush 285, 3) := by decide +kernel
theorem d_M_lengthBits_11 : decode b_M_lengthBits 11 = .ok (.if_icmp .ne 7, 3) := by decide +kernel
theorem d_M_lengthBits_14 : decode b_M_lengthBits 14 = .ok (.iconst 0, 1) := by decide +kernel
theorem d_M_lengthBits_15 : decode b_M_lengthBits 15 = .ok (.goto 10, 3) := by decide +kernel
theorem d_M_lengthBits_18 : decode b_M_lengthBits 18 = .ok (.iload_n 0, 1) := by decide +kernel
theorem d_M_lengthBits_19 : decode b_M_lengthBits 19 = .ok (.sipush 261, 3) := by decide +kernel
theorem d_M_lengthBits_22 : decode b_M_lengthBits 22 = .ok (.isub, 1) := by decide +kernel
theorem d_M_lengthBits_23 : decode b_M_lengthBits 23 = .ok (.iconst 4, 1) := by decide +kernel
theorem d_M_lengthBits_24 : decode b_M_lengthBits 24 = .ok (.idiv, 1) := by decide +kernel
theorem d_M_lengthBits_25 : decode b_M_lengthBits 25 = .ok (.ireturn, 1) := by decide +kernel
abbrev M_lengthBits_w (E : xE) : va_W := []
def M_lengthBits (F : Nat) (x0 : Int32) : Option (Int32 × Unit) :=
  mC (x0 < 265) (some (0, ())) (mC (x0 = 285) (some (0, ())) (some ((x0 - 261) / 4, ())))
abbrev M_lengthBits_rm : Room := { frames := 0, cells := 0, slots := 0, locals := 0 }
set_option maxHeartbeats 4000000 in
set_option maxRecDepth 100000 in
theorem c_M_lengthBits (l : Launch) (E : xE) (F sz : Nat) (x0 : Int32) (res : Int32 × Unit) (hm : M_lengthBits F x0 = some res) : Met l y_M_lengthBits (Cond.code y_M_lengthBits b_M_lengthBits 1 (some .int) :: x_tb) M_lengthBits_rm (va_Pc [.int x0] (xPre E (M_lengthBits_w E) sz)) (xQi E (fun (r : Int32) (u : Unit) => r = res.1 ∧ u = res.2) (fun (u : Unit) => (M_lengthBits_w E)) (va_A (M_lengthBits_w E) sz)) 0 0 (va_A (M_lengthBits_w E) sz) := by
  refine xEnI (by decide) (Nat.le_of_ble_eq_true rfl) ?_
  intro p e s m args below meth c A ls Q hx hb hnm hts hown hml hK hA hI hN hret hP hD hS hl
  replace hown : s.vm.findClass R_M = some m.cls := hown
  replace hl : lv_has ls 1 [(0, .int x0)] := hl
  obtain ⟨H, eH⟩ : ∃ z, z = s.heap := ⟨_, rfl⟩
  obtain ⟨locs, eL⟩ : ∃ z : List Loc, z = [] := ⟨_, rfl⟩
  rw [show W p l e M_lengthBits_rm s m args below meth c s.heap [] 0 0 Q (F0 m 0 ls []) = W p l e M_lengthBits_rm s m args below meth c H locs 0 0 Q (F0 m 0 ls []) by rw [eH, eL]]
  replace hP : va_P E.1 vwCl (M_lengthBits_w E) H := by rw [eH]; exact hP
  replace hS : va_S A s.heap H locs := by rw [eH, eL]; exact hS
  clear eH eL
  rw [M_lengthBits] at hm
  refine lv_iload_n hx hb d_M_lengthBits_0 rfl (lv_at hl 0 rfl) ?_
  refine lv_sipush (v := 265) hx hb d_M_lengthBits_1 (by decide) ?_
  refine lv_icmp_lt (tgt := 14) hx hb d_M_lengthBits_4 (by decide) (fun c4 => ?_) (fun c4 => ?_)
  · replace hm := mC_t hm c4
    refine lv_iconst (v := 0) hx hb d_M_lengthBits_14 (by decide) ?_
    refine lv_goto (tgt := 25) hx hb d_M_lengthBits_15 (by decide) ?_
    replace hm := Option.some.inj hm
    subst hm
    exact hret d_M_lengthBits_25 (u := ()) ⟨rfl, rfl⟩ hP hD hS
  · replace hm := mC_f hm c4
    refine lv_iload_n hx hb d_M_lengthBits_7 rfl (lv_at hl 0 rfl) ?_
    refine lv_sipush (v := 285) hx hb d_M_lengthBits_8 (by decide) ?_
    refine lv_icmp_ne (tgt := 18) hx hb d_M_lengthBits_11 (by decide) (fun c11 => ?_) (fun c11 => ?_)
    · replace hm := mC_f hm c11
      refine lv_iload_n hx hb d_M_lengthBits_18 rfl (lv_at hl 0 rfl) ?_
      refine lv_sipush (v := 261) hx hb d_M_lengthBits_19 (by decide) ?_
      refine lv_isub hx hb d_M_lengthBits_22 ?_
      refine lv_iconst (v := 4) hx hb d_M_lengthBits_23 (by decide) ?_
      refine lv_idiv hx hb d_M_lengthBits_24 (by decide) ?_
      replace hm := Option.some.inj hm
      subst hm
      exact hret d_M_lengthBits_25 (u := ()) ⟨rfl, rfl⟩ hP hD hS
    · replace hm := mC_t hm c11
      refine lv_iconst (v := 0) hx hb d_M_lengthBits_14 (by decide) ?_
      refine lv_goto (tgt := 25) hx hb d_M_lengthBits_15 (by decide) ?_
      replace hm := Option.some.inj hm
      subst hm
      exact hret d_M_lengthBits_25 (u := ()) ⟨rfl, rfl⟩ hP hD hS
theorem d_M_lengthBase_0 : decode b_M_lengthBase 0 = .ok (.iload_n 0, 1) := by decide +kernel
theorem d_M_lengthBase_1 : decode b_M_lengthBase 1 = .ok (.sipush 285, 3) := by decide +kernel
theorem d_M_lengthBase_4 : decode b_M_lengthBase 4 = .ok (.if_icmp .ne 9, 3) := by decide +kernel
theorem d_M_lengthBase_7 : decode b_M_lengthBase 7 = .ok (.sipush 258, 3) := by decide +kernel
theorem d_M_lengthBase_10 : decode b_M_lengthBase 10 = .ok (.goto 34, 3) := by decide +kernel
theorem d_M_lengthBase_13 : decode b_M_lengthBase 13 = .ok (.iload_n 0, 1) := by decide +kernel
theorem d_M_lengthBase_14 : decode b_M_lengthBase 14 = .ok (.sipush 265, 3) := by decide +kernel
theorem d_M_lengthBase_17 : decode b_M_lengthBase 17 = .ok (.if_icmp .ge 11, 3) := by decide +kernel
theorem d_M_lengthBase_20 : decode b_M_lengthBase 20 = .ok (.iload_n 0, 1) := by decide +kernel
theorem d_M_lengthBase_21 : decode b_M_lengthBase 21 = .ok (.sipush 254, 3) := by decide +kernel
theorem d_M_lengthBase_24 : decode b_M_lengthBase 24 = .ok (.isub, 1) := by decide +kernel
theorem d_M_lengthBase_25 : decode b_M_lengthBase 25 = .ok (.goto 19, 3) := by decide +kernel
theorem d_M_lengthBase_28 : decode b_M_lengthBase 28 = .ok (.iconst 3, 1) := by decide +kernel
theorem d_M_lengthBase_29 : decode b_M_lengthBase 29 = .ok (.iconst 4, 1) := by decide +kernel
theorem d_M_lengthBase_30 : decode b_M_lengthBase 30 = .ok (.iload_n 0, 1) := by decide +kernel
theorem d_M_lengthBase_31 : decode b_M_lengthBase 31 = .ok (.sipush 261, 3) := by decide +kernel
theorem d_M_lengthBase_34 : decode b_M_lengthBase 34 = .ok (.isub, 1) := by decide +kernel
theorem d_M_lengthBase_35 : decode b_M_lengthBase 35 = .ok (.iconst 4, 1) := by decide +kernel
theorem d_M_lengthBase_36 : decode b_M_lengthBase 36 = .ok (.irem, 1) := by decide +kernel
theorem d_M_lengthBase_37 : decode b_M_lengthBase 37 = .ok (.iadd, 1) := by decide +kernel
theorem d_M_lengthBase_38 : decode b_M_lengthBase 38 = .ok (.iload_n 0, 1) := by decide +kernel
theorem d_M_lengthBase_39 : decode b_M_lengthBase 39 = .ok (.invokestatic 101, 3) := by decide +kernel
theorem d_M_lengthBase_42 : decode b_M_lengthBase 42 = .ok (.ishl, 1) := by decide +kernel
theorem d_M_lengthBase_43 : decode b_M_lengthBase 43 = .ok (.iadd, 1) := by decide +kernel
theorem d_M_lengthBase_44 : decode b_M_lengthBase 44 = .ok (.ireturn, 1) := by decide +kernel
abbrev M_lengthBase_w (E : xE) : va_W := []
def M_lengthBase (F : Nat) (x0 : Int32) : Option (Int32 × Unit) :=
  mC (x0 = 285) (some (258, ())) (mC (265 ≤ x0) (mL (x0 - 261) fun t_1 => mR0 (M_lengthBits F x0) fun r_2 => some (3 + ((4 + (t_1 - t_1 / 4 * 4)) <<< (r_2 &&& 31)), ())) (some (x0 - 254, ())))
abbrev M_lengthBase_rm : Room := { frames := 1, cells := 0, slots := 0, locals := 20 }
set_option maxHeartbeats 4000000 in
set_option maxRecDepth 100000 in
theorem c_M_lengthBase (l : Launch) (E : xE) (F sz : Nat) (x0 : Int32) (res : Int32 × Unit) (hm : M_lengthBase F x0 = some res) : Met l y_M_lengthBase (Cond.code y_M_lengthBase b_M_lengthBase 1 (some .int) :: x_tb) M_lengthBase_rm (va_Pc [.int x0] (xPre E (M_lengthBase_w E) sz)) (xQi E (fun (r : Int32) (u : Unit) => r = res.1 ∧ u = res.2) (fun (u : Unit) => (M_lengthBase_w E)) (va_A (M_lengthBase_w E) sz)) 0 0 (va_A (M_lengthBase_w E) sz) := by
  refine xEnI (by decide) (Nat.le_of_ble_eq_true rfl) ?_
  intro p e s m args below meth c A ls Q hx hb hnm hts hown hml hK hA hI hN hret hP hD hS hl
  replace hown : s.vm.findClass R_M = some m.cls := hown
  replace hl : lv_has ls 1 [(0, .int x0)] := hl
  obtain ⟨H, eH⟩ : ∃ z, z = s.heap := ⟨_, rfl⟩
  obtain ⟨locs, eL⟩ : ∃ z : List Loc, z = [] := ⟨_, rfl⟩
  rw [show W p l e M_lengthBase_rm s m args below meth c s.heap [] 0 0 Q (F0 m 0 ls []) = W p l e M_lengthBase_rm s m args below meth c H locs 0 0 Q (F0 m 0 ls []) by rw [eH, eL]]
  replace hP : va_P E.1 vwCl (M_lengthBase_w E) H := by rw [eH]; exact hP
  replace hS : va_S A s.heap H locs := by rw [eH, eL]; exact hS
  clear eH eL
  rw [M_lengthBase] at hm
  refine lv_iload_n hx hb d_M_lengthBase_0 rfl (lv_at hl 0 rfl) ?_
  refine lv_sipush (v := 285) hx hb d_M_lengthBase_1 (by decide) ?_
  refine lv_icmp_ne (tgt := 13) hx hb d_M_lengthBase_4 (by decide) (fun c4 => ?_) (fun c4 => ?_)
  · replace hm := mC_f hm c4
    refine lv_iload_n hx hb d_M_lengthBase_13 rfl (lv_at hl 0 rfl) ?_
    refine lv_sipush (v := 265) hx hb d_M_lengthBase_14 (by decide) ?_
    refine lv_icmp_ge (tgt := 28) hx hb d_M_lengthBase_17 (by decide) (fun c17 => ?_) (fun c17 => ?_)
    · replace hm := mC_t hm c17
      refine lv_iconst (v := 3) hx hb d_M_lengthBase_28 (by decide) ?_
      refine lv_iconst (v := 4) hx hb d_M_lengthBase_29 (by decide) ?_
      refine lv_iload_n hx hb d_M_lengthBase_30 rfl (lv_at hl 0 rfl) ?_
      refine lv_sipush (v := 261) hx hb d_M_lengthBase_31 (by decide) ?_
      refine lv_isub hx hb d_M_lengthBase_34 ?_
      refine lv_iconst (v := 4) hx hb d_M_lengthBase_35 (by decide) ?_
      obtain ⟨t_1, et_1⟩ : ∃ z : Int32, z = x0 - 261 := ⟨_, rfl⟩
      rw [← et_1]
      replace hm := mL_e hm t_1 et_1
      refine lv_irem hx hb d_M_lengthBase_36 (by decide) ?_
      refine lv_iadd hx hb d_M_lengthBase_37 ?_
      refine lv_iload_n hx hb d_M_lengthBase_38 rfl (lv_at hl 0 rfl) ?_
      obtain ⟨r_2, hc39, hm⟩ := mR0_e hm
      refine xmi (wc := (M_lengthBits_w E)) [] [] [] hP hD hS hA rfl (by decide) (by decide) 0 (by decide) (fun _ => rfl) (fun hPc hDc hFc => va_runS (As := [.int x0]) (rest := [.int (4 + (t_1 - t_1 / 4 * 4)), .int 3]) ⟨hx, hb, hml, hown, hts⟩ (c_M_lengthBits l E F H.size x0 (r_2, ()) hc39) (va_cwS 1 hts (x_gS tw_985 tw_986 tw_79 tw_987) rfl rfl rfl (by decide +kernel) ⟨Nat.le_of_ble_eq_true rfl, Nat.le_of_ble_eq_true rfl⟩) (xPS hPc hDc hFc hK hI hN hS) rfl rfl hl.1 rfl (lv_room (Nat.le_of_ble_eq_true rfl)) d_M_lengthBase_39 ⟨Nat.le_of_ble_eq_true rfl, Nat.le_of_ble_eq_true rfl⟩) (fun r9 u9 H locs hw hP hD hS => ?_)
      have hw1 : r_2 = r9 := hw.1.symm
      subst hw1
      replace hP : va_P E.1 vwCl (M_lengthBase_w E) H := hP
      replace hD : va_D A (M_lengthBase_w E) := hD
      refine lv_ishl hx hb d_M_lengthBase_42 ?_
      refine lv_iadd hx hb d_M_lengthBase_43 ?_
      replace hm := Option.some.inj hm
      subst hm
      exact hret d_M_lengthBase_44 (u := ()) ⟨rfl, rfl⟩ hP hD hS
    · replace hm := mC_f hm c17
      refine lv_iload_n hx hb d_M_lengthBase_20 rfl (lv_at hl 0 rfl) ?_
      refine lv_sipush (v := 254) hx hb d_M_lengthBase_21 (by decide) ?_
      refine lv_isub hx hb d_M_lengthBase_24 ?_
      refine lv_goto (tgt := 44) hx hb d_M_lengthBase_25 (by decide) ?_
      replace hm := Option.some.inj hm
      subst hm
      exact hret d_M_lengthBase_44 (u := ()) ⟨rfl, rfl⟩ hP hD hS
  · replace hm := mC_t hm c4
    refine lv_sipush (v := 258) hx hb d_M_lengthBase_7 (by decide) ?_
    refine lv_goto (tgt := 44) hx hb d_M_lengthBase_10 (by decide) ?_
    replace hm := Option.some.inj hm
    subst hm
    exact hret d_M_lengthBase_44 (u := ()) ⟨rfl, rfl⟩ hP hD hS
theorem d_M_distanceBits_0 : decode b_M_distanceBits 0 = .ok (.iload_n 0, 1) := by decide +kernel
theorem d_M_distanceBits_1 : decode b_M_distanceBits 1 = .ok (.iconst 4, 1) := by decide +kernel
theorem d_M_distanceBits_2 : decode b_M_distanceBits 2 = .ok (.if_icmp .ge 7, 3) := by decide +kernel
theorem d_M_distanceBits_5 : decode b_M_distanceBits 5 = .ok (.iconst 0, 1) := by decide +kernel
theorem d_M_distanceBits_6 : decode b_M_distanceBits 6 = .ok (.goto 8, 3) := by decide +kernel
theorem d_M_distanceBits_9 : decode b_M_distanceBits 9 = .ok (.iload_n 0, 1) := by decide +kernel
theorem d_M_distanceBits_10 : decode b_M_distanceBits 10 = .ok (.iconst 2, 1) := by decide +kernel
theorem d_M_distanceBits_11 : decode b_M_distanceBits 11 = .ok (.idiv, 1) := by decide +kernel
theorem d_M_distanceBits_12 : decode b_M_distanceBits 12 = .ok (.iconst 1, 1) := by decide +kernel
theorem d_M_distanceBits_13 : decode b_M_distanceBits 13 = .ok (.isub, 1) := by decide +kernel
theorem d_M_distanceBits_14 : decode b_M_distanceBits 14 = .ok (.ireturn, 1) := by decide +kernel
abbrev M_distanceBits_w (E : xE) : va_W := []
def M_distanceBits (F : Nat) (x0 : Int32) : Option (Int32 × Unit) :=
  mC (4 ≤ x0) (some ((x0 / 2) - 1, ())) (some (0, ()))
abbrev M_distanceBits_rm : Room := { frames := 0, cells := 0, slots := 0, locals := 0 }
set_option maxHeartbeats 4000000 in
set_option maxRecDepth 100000 in
theorem c_M_distanceBits (l : Launch) (E : xE) (F sz : Nat) (x0 : Int32) (res : Int32 × Unit) (hm : M_distanceBits F x0 = some res) : Met l y_M_distanceBits (Cond.code y_M_distanceBits b_M_distanceBits 1 (some .int) :: x_tb) M_distanceBits_rm (va_Pc [.int x0] (xPre E (M_distanceBits_w E) sz)) (xQi E (fun (r : Int32) (u : Unit) => r = res.1 ∧ u = res.2) (fun (u : Unit) => (M_distanceBits_w E)) (va_A (M_distanceBits_w E) sz)) 0 0 (va_A (M_distanceBits_w E) sz) := by
  refine xEnI (by decide) (Nat.le_of_ble_eq_true rfl) ?_
  intro p e s m args below meth c A ls Q hx hb hnm hts hown hml hK hA hI hN hret hP hD hS hl
  replace hown : s.vm.findClass R_M = some m.cls := hown
  replace hl : lv_has ls 1 [(0, .int x0)] := hl
  obtain ⟨H, eH⟩ : ∃ z, z = s.heap := ⟨_, rfl⟩
  obtain ⟨locs, eL⟩ : ∃ z : List Loc, z = [] := ⟨_, rfl⟩
  rw [show W p l e M_distanceBits_rm s m args below meth c s.heap [] 0 0 Q (F0 m 0 ls []) = W p l e M_distanceBits_rm s m args below meth c H locs 0 0 Q (F0 m 0 ls []) by rw [eH, eL]]
  replace hP : va_P E.1 vwCl (M_distanceBits_w E) H := by rw [eH]; exact hP
  replace hS : va_S A s.heap H locs := by rw [eH, eL]; exact hS
  clear eH eL
  rw [M_distanceBits] at hm
  refine lv_iload_n hx hb d_M_distanceBits_0 rfl (lv_at hl 0 rfl) ?_
  refine lv_iconst (v := 4) hx hb d_M_distanceBits_1 (by decide) ?_
  refine lv_icmp_ge (tgt := 9) hx hb d_M_distanceBits_2 (by decide) (fun c2 => ?_) (fun c2 => ?_)
  · replace hm := mC_t hm c2
    refine lv_iload_n hx hb d_M_distanceBits_9 rfl (lv_at hl 0 rfl) ?_
    refine lv_iconst (v := 2) hx hb d_M_distanceBits_10 (by decide) ?_
    refine lv_idiv hx hb d_M_distanceBits_11 (by decide) ?_
    refine lv_iconst (v := 1) hx hb d_M_distanceBits_12 (by decide) ?_
    refine lv_isub hx hb d_M_distanceBits_13 ?_
    replace hm := Option.some.inj hm
    subst hm
    exact hret d_M_distanceBits_14 (u := ()) ⟨rfl, rfl⟩ hP hD hS
  · replace hm := mC_f hm c2
    refine lv_iconst (v := 0) hx hb d_M_distanceBits_5 (by decide) ?_
    refine lv_goto (tgt := 14) hx hb d_M_distanceBits_6 (by decide) ?_
    replace hm := Option.some.inj hm
    subst hm
    exact hret d_M_distanceBits_14 (u := ()) ⟨rfl, rfl⟩ hP hD hS
theorem d_M_distanceBase_0 : decode b_M_distanceBase 0 = .ok (.iload_n 0, 1) := by decide +kernel
theorem d_M_distanceBase_1 : decode b_M_distanceBase 1 = .ok (.iconst 4, 1) := by decide +kernel
theorem d_M_distanceBase_2 : decode b_M_distanceBase 2 = .ok (.if_icmp .ge 9, 3) := by decide +kernel
theorem d_M_distanceBase_5 : decode b_M_distanceBase 5 = .ok (.iload_n 0, 1) := by decide +kernel
theorem d_M_distanceBase_6 : decode b_M_distanceBase 6 = .ok (.iconst 1, 1) := by decide +kernel
theorem d_M_distanceBase_7 : decode b_M_distanceBase 7 = .ok (.iadd, 1) := by decide +kernel
theorem d_M_distanceBase_8 : decode b_M_distanceBase 8 = .ok (.goto 15, 3) := by decide +kernel
theorem d_M_distanceBase_11 : decode b_M_distanceBase 11 = .ok (.iconst 1, 1) := by decide +kernel
theorem d_M_distanceBase_12 : decode b_M_distanceBase 12 = .ok (.iconst 2, 1) := by decide +kernel
theorem d_M_distanceBase_13 : decode b_M_distanceBase 13 = .ok (.iload_n 0, 1) := by decide +kernel
theorem d_M_distanceBase_14 : decode b_M_distanceBase 14 = .ok (.iconst 2, 1) := by decide +kernel
theorem d_M_distanceBase_15 : decode b_M_distanceBase 15 = .ok (.irem, 1) := by decide +kernel
theorem d_M_distanceBase_16 : decode b_M_distanceBase 16 = .ok (.iadd, 1) := by decide +kernel
theorem d_M_distanceBase_17 : decode b_M_distanceBase 17 = .ok (.iload_n 0, 1) := by decide +kernel
theorem d_M_distanceBase_18 : decode b_M_distanceBase 18 = .ok (.invokestatic 105, 3) := by decide +kernel
theorem d_M_distanceBase_21 : decode b_M_distanceBase 21 = .ok (.ishl, 1) := by decide +kernel
theorem d_M_distanceBase_22 : decode b_M_distanceBase 22 = .ok (.iadd, 1) := by decide +kernel
theorem d_M_distanceBase_23 : decode b_M_distanceBase 23 = .ok (.ireturn, 1) := by decide +kernel
abbrev M_distanceBase_w (E : xE) : va_W := []
def M_distanceBase (F : Nat) (x0 : Int32) : Option (Int32 × Unit) :=
  mC (4 ≤ x0) (mR0 (M_distanceBits F x0) fun r_1 => some (1 + ((2 + (x0 - x0 / 2 * 2)) <<< (r_1 &&& 31)), ())) (some (x0 + 1, ()))
abbrev M_distanceBase_rm : Room := { frames := 1, cells := 0, slots := 0, locals := 20 }
set_option maxHeartbeats 4000000 in
set_option maxRecDepth 100000 in
theorem c_M_distanceBase (l : Launch) (E : xE) (F sz : Nat) (x0 : Int32) (res : Int32 × Unit) (hm : M_distanceBase F x0 = some res) : Met l y_M_distanceBase (Cond.code y_M_distanceBase b_M_distanceBase 1 (some .int) :: x_tb) M_distanceBase_rm (va_Pc [.int x0] (xPre E (M_distanceBase_w E) sz)) (xQi E (fun (r : Int32) (u : Unit) => r = res.1 ∧ u = res.2) (fun (u : Unit) => (M_distanceBase_w E)) (va_A (M_distanceBase_w E) sz)) 0 0 (va_A (M_distanceBase_w E) sz) := by
  refine xEnI (by decide) (Nat.le_of_ble_eq_true rfl) ?_
  intro p e s m args below meth c A ls Q hx hb hnm hts hown hml hK hA hI hN hret hP hD hS hl
  replace hown : s.vm.findClass R_M = some m.cls := hown
  replace hl : lv_has ls 1 [(0, .int x0)] := hl
  obtain ⟨H, eH⟩ : ∃ z, z = s.heap := ⟨_, rfl⟩
  obtain ⟨locs, eL⟩ : ∃ z : List Loc, z = [] := ⟨_, rfl⟩
  rw [show W p l e M_distanceBase_rm s m args below meth c s.heap [] 0 0 Q (F0 m 0 ls []) = W p l e M_distanceBase_rm s m args below meth c H locs 0 0 Q (F0 m 0 ls []) by rw [eH, eL]]
  replace hP : va_P E.1 vwCl (M_distanceBase_w E) H := by rw [eH]; exact hP
  replace hS : va_S A s.heap H locs := by rw [eH, eL]; exact hS
  clear eH eL
  rw [M_distanceBase] at hm
  refine lv_iload_n hx hb d_M_distanceBase_0 rfl (lv_at hl 0 rfl) ?_
  refine lv_iconst (v := 4) hx hb d_M_distanceBase_1 (by decide) ?_
  refine lv_icmp_ge (tgt := 11) hx hb d_M_distanceBase_2 (by decide) (fun c2 => ?_) (fun c2 => ?_)
  · replace hm := mC_t hm c2
    refine lv_iconst (v := 1) hx hb d_M_distanceBase_11 (by decide) ?_
    refine lv_iconst (v := 2) hx hb d_M_distanceBase_12 (by decide) ?_
    refine lv_iload_n hx hb d_M_distanceBase_13 rfl (lv_at hl 0 rfl) ?_
    refine lv_iconst (v := 2) hx hb d_M_distanceBase_14 (by decide) ?_
    refine lv_irem hx hb d_M_distanceBase_15 (by decide) ?_
    refine lv_iadd hx hb d_M_distanceBase_16 ?_
    refine lv_iload_n hx hb d_M_distanceBase_17 rfl (lv_at hl 0 rfl) ?_
    obtain ⟨r_1, hc18, hm⟩ := mR0_e hm
    refine xmi (wc := (M_distanceBits_w E)) [] [] [] hP hD hS hA rfl (by decide) (by decide) 0 (by decide) (fun _ => rfl) (fun hPc hDc hFc => va_runS (As := [.int x0]) (rest := [.int (2 + (x0 - x0 / 2 * 2)), .int 1]) ⟨hx, hb, hml, hown, hts⟩ (c_M_distanceBits l E F H.size x0 (r_1, ()) hc18) (va_cwS 1 hts (x_gS tw_994 tw_995 tw_79 tw_996) rfl rfl rfl (by decide +kernel) ⟨Nat.le_of_ble_eq_true rfl, Nat.le_of_ble_eq_true rfl⟩) (xPS hPc hDc hFc hK hI hN hS) rfl rfl hl.1 rfl (lv_room (Nat.le_of_ble_eq_true rfl)) d_M_distanceBase_18 ⟨Nat.le_of_ble_eq_true rfl, Nat.le_of_ble_eq_true rfl⟩) (fun r9 u9 H locs hw hP hD hS => ?_)
    have hw1 : r_1 = r9 := hw.1.symm
    subst hw1
    replace hP : va_P E.1 vwCl (M_distanceBase_w E) H := hP
    replace hD : va_D A (M_distanceBase_w E) := hD
    refine lv_ishl hx hb d_M_distanceBase_21 ?_
    refine lv_iadd hx hb d_M_distanceBase_22 ?_
    replace hm := Option.some.inj hm
    subst hm
    exact hret d_M_distanceBase_23 (u := ()) ⟨rfl, rfl⟩ hP hD hS
  · replace hm := mC_f hm c2
    refine lv_iload_n hx hb d_M_distanceBase_5 rfl (lv_at hl 0 rfl) ?_
    refine lv_iconst (v := 1) hx hb d_M_distanceBase_6 (by decide) ?_
    refine lv_iadd hx hb d_M_distanceBase_7 ?_
    refine lv_goto (tgt := 23) hx hb d_M_distanceBase_8 (by decide) ?_
    replace hm := Option.some.inj hm
    subst hm
    exact hret d_M_distanceBase_23 (u := ()) ⟨rfl, rfl⟩ hP hD hS
theorem d_M_lengthSymbol_0 : decode b_M_lengthSymbol 0 = .ok (.sipush 257, 3) := by decide +kernel
theorem d_M_lengthSymbol_3 : decode b_M_lengthSymbol 3 = .ok (.istore_n 1, 1) := by decide +kernel
theorem d_M_lengthSymbol_4 : decode b_M_lengthSymbol 4 = .ok (.iload_n 1, 1) := by decide +kernel
theorem d_M_lengthSymbol_5 : decode b_M_lengthSymbol 5 = .ok (.sipush 284, 3) := by decide +kernel
theorem d_M_lengthSymbol_8 : decode b_M_lengthSymbol 8 = .ok (.if_icmp .ge 19, 3) := by decide +kernel
theorem d_M_lengthSymbol_11 : decode b_M_lengthSymbol 11 = .ok (.iload_n 1, 1) := by decide +kernel
theorem d_M_lengthSymbol_12 : decode b_M_lengthSymbol 12 = .ok (.iconst 1, 1) := by decide +kernel
theorem d_M_lengthSymbol_13 : decode b_M_lengthSymbol 13 = .ok (.iadd, 1) := by decide +kernel
theorem d_M_lengthSymbol_14 : decode b_M_lengthSymbol 14 = .ok (.invokestatic 108, 3) := by decide +kernel
theorem d_M_lengthSymbol_17 : decode b_M_lengthSymbol 17 = .ok (.iload_n 0, 1) := by decide +kernel
theorem d_M_lengthSymbol_18 : decode b_M_lengthSymbol 18 = .ok (.if_icmp .gt 9, 3) := by decide +kernel
theorem d_M_lengthSymbol_21 : decode b_M_lengthSymbol 21 = .ok (.iinc 1 1, 3) := by decide +kernel
theorem d_M_lengthSymbol_24 : decode b_M_lengthSymbol 24 = .ok (.goto (-20), 3) := by decide +kernel
theorem d_M_lengthSymbol_27 : decode b_M_lengthSymbol 27 = .ok (.iload_n 0, 1) := by decide +kernel
theorem d_M_lengthSymbol_28 : decode b_M_lengthSymbol 28 = .ok (.sipush 258, 3) := by decide +kernel
theorem d_M_lengthSymbol_31 : decode b_M_lengthSymbol 31 = .ok (.if_icmp .ne 9, 3) := by decide +kernel
theorem d_M_lengthSymbol_34 : decode b_M_lengthSymbol 34 = .ok (.sipush 285, 3) := by decide +kernel
theorem d_M_lengthSymbol_37 : decode b_M_lengthSymbol 37 = .ok (.goto 4, 3) := by decide +kernel
theorem d_M_lengthSymbol_40 : decode b_M_lengthSymbol 40 = .ok (.iload_n 1, 1) := by decide +kernel
theorem d_M_lengthSymbol_41 : decode b_M_lengthSymbol 41 = .ok (.ireturn, 1) := by decide +kernel
def M_lengthSymbol_27 (F : Nat) (x0 : Int32) (x1 : Int32) : Option (Int32 × Unit) :=
  mC (x0 = 258) (some (285, ())) (some (x1, ()))
def M_lengthSymbol_4 (F : Nat) (x0 : Int32) (k_27 : Int32 → Option (Int32 × Unit)) (k_4 : Int32 → Option (Int32 × Unit)) (x1 : Int32) : Option (Int32 × Unit) :=
  mC (284 ≤ x1) (k_27 x1) (mL (x1 + 1) fun t_1 => mR0 (M_lengthBase F t_1) fun r_2 => mC (x0 < r_2) (k_27 x1) (mL (x1 + 1) fun y1_3 => k_4 y1_3))
abbrev M_lengthSymbol_w (E : xE) : va_W := []
def M_lengthSymbol (F : Nat) (x0 : Int32) : Option (Int32 × Unit) :=
  (mW1 (M_lengthSymbol_4 F x0 (M_lengthSymbol_27 F x0)) F) 257
abbrev M_lengthSymbol_rm : Room := { frames := 2, cells := 0, slots := 0, locals := 40 }
set_option maxHeartbeats 4000000 in
set_option maxRecDepth 100000 in
theorem c_M_lengthSymbol (l : Launch) (E : xE) (F sz : Nat) (x0 : Int32) (res : Int32 × Unit) (hm : M_lengthSymbol F x0 = some res) : Met l y_M_lengthSymbol (Cond.code y_M_lengthSymbol b_M_lengthSymbol 2 (some .int) :: x_tb) M_lengthSymbol_rm (va_Pc [.int x0] (xPre E (M_lengthSymbol_w E) sz)) (xQi E (fun (r : Int32) (u : Unit) => r = res.1 ∧ u = res.2) (fun (u : Unit) => (M_lengthSymbol_w E)) (va_A (M_lengthSymbol_w E) sz)) 0 0 (va_A (M_lengthSymbol_w E) sz) := by
  refine xEnI (by decide) (Nat.le_of_ble_eq_true rfl) ?_
  intro p e s m args below meth c A ls Q hx hb hnm hts hown hml hK hA hI hN hret hP hD hS hl
  replace hown : s.vm.findClass R_M = some m.cls := hown
  replace hl : lv_has ls 2 [(0, .int x0)] := hl
  obtain ⟨H, eH⟩ : ∃ z, z = s.heap := ⟨_, rfl⟩
  obtain ⟨locs, eL⟩ : ∃ z : List Loc, z = [] := ⟨_, rfl⟩
  rw [show W p l e M_lengthSymbol_rm s m args below meth c s.heap [] 0 0 Q (F0 m 0 ls []) = W p l e M_lengthSymbol_rm s m args below meth c H locs 0 0 Q (F0 m 0 ls []) by rw [eH, eL]]
  replace hP : va_P E.1 vwCl (M_lengthSymbol_w E) H := by rw [eH]; exact hP
  replace hS : va_S A s.heap H locs := by rw [eH, eL]; exact hS
  clear eH eL
  rw [M_lengthSymbol] at hm
  have h_27 : ∀ (x1 : Int32) (H : Heap) (locs : List Loc) (ls : Array Slot), (M_lengthSymbol_27 F x0) x1 = some res → va_P E.1 vwCl (M_lengthSymbol_w E) H → va_D A (M_lengthSymbol_w E) → va_S A s.heap H locs → lv_has ls 2 [(0, .int x0), (1, .int x1)] → W p l e M_lengthSymbol_rm s m args below meth c H locs 0 0 Q (F0 m 27 ls []) := by
    intro x1 H locs ls hm hP hD hS hl
    rw [M_lengthSymbol_27] at hm
    refine lv_iload_n hx hb d_M_lengthSymbol_27 rfl (lv_at hl 0 rfl) ?_
    refine lv_sipush (v := 258) hx hb d_M_lengthSymbol_28 (by decide) ?_
    refine lv_icmp_ne (tgt := 40) hx hb d_M_lengthSymbol_31 (by decide) (fun c31 => ?_) (fun c31 => ?_)
    · replace hm := mC_f hm c31
      refine lv_iload_n hx hb d_M_lengthSymbol_40 rfl (lv_at hl 1 rfl) ?_
      replace hm := Option.some.inj hm
      subst hm
      exact hret d_M_lengthSymbol_41 (u := ()) ⟨rfl, rfl⟩ hP hD hS
    · replace hm := mC_t hm c31
      refine lv_sipush (v := 285) hx hb d_M_lengthSymbol_34 (by decide) ?_
      refine lv_goto (tgt := 41) hx hb d_M_lengthSymbol_37 (by decide) ?_
      replace hm := Option.some.inj hm
      subst hm
      exact hret d_M_lengthSymbol_41 (u := ()) ⟨rfl, rfl⟩ hP hD hS
  have h_4 : ∀ (n_4 : Nat) (x1 : Int32) (H : Heap) (locs : List Loc) (ls : Array Slot), (mW1 (M_lengthSymbol_4 F x0 (M_lengthSymbol_27 F x0)) n_4) x1 = some res → va_P E.1 vwCl (M_lengthSymbol_w E) H → va_D A (M_lengthSymbol_w E) → va_S A s.heap H locs → lv_has ls 2 [(0, .int x0), (1, .int x1)] → W p l e M_lengthSymbol_rm s m args below meth c H locs 0 0 Q (F0 m 4 ls []) := by
    intro n_4
    induction n_4 with
    | zero => exact fun _ _ _ _ hm _ _ _ _ => (mW1_z hm).elim
    | succ n_4 ih_4 =>
      intro x1 H locs ls hm hP hD hS hl
      replace hm := mW1_s hm
      rw [M_lengthSymbol_4] at hm
      refine lv_iload_n hx hb d_M_lengthSymbol_4 rfl (lv_at hl 1 rfl) ?_
      refine lv_sipush (v := 284) hx hb d_M_lengthSymbol_5 (by decide) ?_
      refine lv_icmp_ge (tgt := 27) hx hb d_M_lengthSymbol_8 (by decide) (fun c8 => ?_) (fun c8 => ?_)
      · replace hm := mC_t hm c8
        exact h_27 _ H locs ls hm hP hD hS hl
      · replace hm := mC_f hm c8
        refine lv_iload_n hx hb d_M_lengthSymbol_11 rfl (lv_at hl 1 rfl) ?_
        refine lv_iconst (v := 1) hx hb d_M_lengthSymbol_12 (by decide) ?_
        refine lv_iadd hx hb d_M_lengthSymbol_13 ?_
        obtain ⟨t_1, et_1⟩ : ∃ z : Int32, z = x1 + 1 := ⟨_, rfl⟩
        rw [← et_1]
        replace hm := mL_e hm t_1 et_1
        obtain ⟨r_2, hc14, hm⟩ := mR0_e hm
        refine xmi (wc := (M_lengthBase_w E)) [] [] [] hP hD hS hA rfl (by decide) (by decide) 0 (by decide) (fun _ => rfl) (fun hPc hDc hFc => va_runS (As := [.int t_1]) (rest := []) ⟨hx, hb, hml, hown, hts⟩ (c_M_lengthBase l E F H.size t_1 (r_2, ()) hc14) (va_cwS 1 hts (x_gS tw_982 tw_983 tw_79 tw_984) rfl rfl rfl (by decide +kernel) ⟨Nat.le_of_ble_eq_true rfl, Nat.le_of_ble_eq_true rfl⟩) (xPS hPc hDc hFc hK hI hN hS) rfl rfl hl.1 rfl (lv_room (Nat.le_of_ble_eq_true rfl)) d_M_lengthSymbol_14 ⟨Nat.le_of_ble_eq_true rfl, Nat.le_of_ble_eq_true rfl⟩) (fun r9 u9 H locs hw hP hD hS => ?_)
        have hw1 : r_2 = r9 := hw.1.symm
        subst hw1
        replace hP : va_P E.1 vwCl (M_lengthSymbol_w E) H := hP
        replace hD : va_D A (M_lengthSymbol_w E) := hD
        refine lv_iload_n hx hb d_M_lengthSymbol_17 rfl (lv_at hl 0 rfl) ?_
        refine lv_icmp_gt (tgt := 27) hx hb d_M_lengthSymbol_18 (by decide) (fun c18 => ?_) (fun c18 => ?_)
        · replace hm := mC_t hm c18
          exact h_27 _ H locs ls hm hP hD hS hl
        · replace hm := mC_f hm c18
          obtain ⟨y1_3, ey1_3⟩ : ∃ y : Int32, y = x1 + 1 := ⟨_, rfl⟩
          replace hm := mL_e hm y1_3 ey1_3
          refine lv_iinc (v := y1_3) (lv' := [(1, .int y1_3), (0, .int x0)]) hx hb d_M_lengthSymbol_21 hl (k := 1) rfl (by rw [ey1_3]; rfl) (by decide) rfl (fun ls hl => ?_)
          refine lv_goto (tgt := 4) hx hb d_M_lengthSymbol_24 (by decide) ?_
          exact ih_4 _ H locs ls hm hP hD hS (lv_sub hl [1, 0] rfl)
  refine lv_sipush (v := 257) hx hb d_M_lengthSymbol_0 (by decide) ?_
  refine lv_istore_n (lv' := [(1, .int 257), (0, .int x0)]) hx hb d_M_lengthSymbol_3 rfl hl (by decide) rfl (fun ls hl => ?_)
  exact h_4 F _ H locs ls hm hP hD hS (lv_sub hl [1, 0] rfl)
theorem d_M_distanceSymbol_0 : decode b_M_distanceSymbol 0 = .ok (.iconst 0, 1) := by decide +kernel
theorem d_M_distanceSymbol_1 : decode b_M_distanceSymbol 1 = .ok (.istore_n 1, 1) := by decide +kernel
theorem d_M_distanceSymbol_2 : decode b_M_distanceSymbol 2 = .ok (.iload_n 1, 1) := by decide +kernel
theorem d_M_distanceSymbol_3 : decode b_M_distanceSymbol 3 = .ok (.bipush 29, 2) := by decide +kernel
theorem d_M_distanceSymbol_5 : decode b_M_distanceSymbol 5 = .ok (.if_icmp .ge 19, 3) := by decide +kernel
theorem d_M_distanceSymbol_8 : decode b_M_distanceSymbol 8 = .ok (.iload_n 1, 1) := by decide +kernel
theorem d_M_distanceSymbol_9 : decode b_M_distanceSymbol 9 = .ok (.iconst 1, 1) := by decide +kernel
theorem d_M_distanceSymbol_10 : decode b_M_distanceSymbol 10 = .ok (.iadd, 1) := by decide +kernel
theorem d_M_distanceSymbol_11 : decode b_M_distanceSymbol 11 = .ok (.invokestatic 111, 3) := by decide +kernel
theorem d_M_distanceSymbol_14 : decode b_M_distanceSymbol 14 = .ok (.iload_n 0, 1) := by decide +kernel
theorem d_M_distanceSymbol_15 : decode b_M_distanceSymbol 15 = .ok (.if_icmp .gt 9, 3) := by decide +kernel
theorem d_M_distanceSymbol_18 : decode b_M_distanceSymbol 18 = .ok (.iinc 1 1, 3) := by decide +kernel
theorem d_M_distanceSymbol_21 : decode b_M_distanceSymbol 21 = .ok (.goto (-19), 3) := by decide +kernel
theorem d_M_distanceSymbol_24 : decode b_M_distanceSymbol 24 = .ok (.iload_n 1, 1) := by decide +kernel
theorem d_M_distanceSymbol_25 : decode b_M_distanceSymbol 25 = .ok (.ireturn, 1) := by decide +kernel
def M_distanceSymbol_2 (F : Nat) (x0 : Int32) (k_2 : Int32 → Option (Int32 × Unit)) (x1 : Int32) : Option (Int32 × Unit) :=
  mC (29 ≤ x1) (some (x1, ())) (mL (x1 + 1) fun t_1 => mR0 (M_distanceBase F t_1) fun r_2 => mC (x0 < r_2) (some (x1, ())) (mL (x1 + 1) fun y1_3 => k_2 y1_3))
abbrev M_distanceSymbol_w (E : xE) : va_W := []
def M_distanceSymbol (F : Nat) (x0 : Int32) : Option (Int32 × Unit) :=
  (mW1 (M_distanceSymbol_2 F x0) F) 0
abbrev M_distanceSymbol_rm : Room := { frames := 2, cells := 0, slots := 0, locals := 40 }
set_option maxHeartbeats 4000000 in
set_option maxRecDepth 100000 in
theorem c_M_distanceSymbol (l : Launch) (E : xE) (F sz : Nat) (x0 : Int32) (res : Int32 × Unit) (hm : M_distanceSymbol F x0 = some res) : Met l y_M_distanceSymbol (Cond.code y_M_distanceSymbol b_M_distanceSymbol 2 (some .int) :: x_tb) M_distanceSymbol_rm (va_Pc [.int x0] (xPre E (M_distanceSymbol_w E) sz)) (xQi E (fun (r : Int32) (u : Unit) => r = res.1 ∧ u = res.2) (fun (u : Unit) => (M_distanceSymbol_w E)) (va_A (M_distanceSymbol_w E) sz)) 0 0 (va_A (M_distanceSymbol_w E) sz) := by
  refine xEnI (by decide) (Nat.le_of_ble_eq_true rfl) ?_
  intro p e s m args below meth c A ls Q hx hb hnm hts hown hml hK hA hI hN hret hP hD hS hl
  replace hown : s.vm.findClass R_M = some m.cls := hown
  replace hl : lv_has ls 2 [(0, .int x0)] := hl
  obtain ⟨H, eH⟩ : ∃ z, z = s.heap := ⟨_, rfl⟩
  obtain ⟨locs, eL⟩ : ∃ z : List Loc, z = [] := ⟨_, rfl⟩
  rw [show W p l e M_distanceSymbol_rm s m args below meth c s.heap [] 0 0 Q (F0 m 0 ls []) = W p l e M_distanceSymbol_rm s m args below meth c H locs 0 0 Q (F0 m 0 ls []) by rw [eH, eL]]
  replace hP : va_P E.1 vwCl (M_distanceSymbol_w E) H := by rw [eH]; exact hP
  replace hS : va_S A s.heap H locs := by rw [eH, eL]; exact hS
  clear eH eL
  rw [M_distanceSymbol] at hm
  have h_2 : ∀ (n_2 : Nat) (x1 : Int32) (H : Heap) (locs : List Loc) (ls : Array Slot), (mW1 (M_distanceSymbol_2 F x0) n_2) x1 = some res → va_P E.1 vwCl (M_distanceSymbol_w E) H → va_D A (M_distanceSymbol_w E) → va_S A s.heap H locs → lv_has ls 2 [(0, .int x0), (1, .int x1)] → W p l e M_distanceSymbol_rm s m args below meth c H locs 0 0 Q (F0 m 2 ls []) := by
    intro n_2
    induction n_2 with
    | zero => exact fun _ _ _ _ hm _ _ _ _ => (mW1_z hm).elim
    | succ n_2 ih_2 =>
      intro x1 H locs ls hm hP hD hS hl
      replace hm := mW1_s hm
      rw [M_distanceSymbol_2] at hm
      refine lv_iload_n hx hb d_M_distanceSymbol_2 rfl (lv_at hl 1 rfl) ?_
      refine lv_bipush (v := 29) hx hb d_M_distanceSymbol_3 (by decide) ?_
      refine lv_icmp_ge (tgt := 24) hx hb d_M_distanceSymbol_5 (by decide) (fun c5 => ?_) (fun c5 => ?_)
      · replace hm := mC_t hm c5
        refine lv_iload_n hx hb d_M_distanceSymbol_24 rfl (lv_at hl 1 rfl) ?_
        replace hm := Option.some.inj hm
        subst hm
        exact hret d_M_distanceSymbol_25 (u := ()) ⟨rfl, rfl⟩ hP hD hS
      · replace hm := mC_f hm c5
        refine lv_iload_n hx hb d_M_distanceSymbol_8 rfl (lv_at hl 1 rfl) ?_
        refine lv_iconst (v := 1) hx hb d_M_distanceSymbol_9 (by decide) ?_
        refine lv_iadd hx hb d_M_distanceSymbol_10 ?_
        obtain ⟨t_1, et_1⟩ : ∃ z : Int32, z = x1 + 1 := ⟨_, rfl⟩
        rw [← et_1]
        replace hm := mL_e hm t_1 et_1
        obtain ⟨r_2, hc11, hm⟩ := mR0_e hm
        refine xmi (wc := (M_distanceBase_w E)) [] [] [] hP hD hS hA rfl (by decide) (by decide) 0 (by decide) (fun _ => rfl) (fun hPc hDc hFc => va_runS (As := [.int t_1]) (rest := []) ⟨hx, hb, hml, hown, hts⟩ (c_M_distanceBase l E F H.size t_1 (r_2, ()) hc11) (va_cwS 1 hts (x_gS tw_991 tw_992 tw_79 tw_993) rfl rfl rfl (by decide +kernel) ⟨Nat.le_of_ble_eq_true rfl, Nat.le_of_ble_eq_true rfl⟩) (xPS hPc hDc hFc hK hI hN hS) rfl rfl hl.1 rfl (lv_room (Nat.le_of_ble_eq_true rfl)) d_M_distanceSymbol_11 ⟨Nat.le_of_ble_eq_true rfl, Nat.le_of_ble_eq_true rfl⟩) (fun r9 u9 H locs hw hP hD hS => ?_)
        have hw1 : r_2 = r9 := hw.1.symm
        subst hw1
        replace hP : va_P E.1 vwCl (M_distanceSymbol_w E) H := hP
        replace hD : va_D A (M_distanceSymbol_w E) := hD
        refine lv_iload_n hx hb d_M_distanceSymbol_14 rfl (lv_at hl 0 rfl) ?_
        refine lv_icmp_gt (tgt := 24) hx hb d_M_distanceSymbol_15 (by decide) (fun c15 => ?_) (fun c15 => ?_)
        · replace hm := mC_t hm c15
          refine lv_iload_n hx hb d_M_distanceSymbol_24 rfl (lv_at hl 1 rfl) ?_
          replace hm := Option.some.inj hm
          subst hm
          exact hret d_M_distanceSymbol_25 (u := ()) ⟨rfl, rfl⟩ hP hD hS
        · replace hm := mC_f hm c15
          obtain ⟨y1_3, ey1_3⟩ : ∃ y : Int32, y = x1 + 1 := ⟨_, rfl⟩
          replace hm := mL_e hm y1_3 ey1_3
          refine lv_iinc (v := y1_3) (lv' := [(1, .int y1_3), (0, .int x0)]) hx hb d_M_distanceSymbol_18 hl (k := 1) rfl (by rw [ey1_3]; rfl) (by decide) rfl (fun ls hl => ?_)
          refine lv_goto (tgt := 2) hx hb d_M_distanceSymbol_21 (by decide) ?_
          exact ih_2 _ H locs ls hm hP hD hS (lv_sub hl [1, 0] rfl)
  refine lv_iconst (v := 0) hx hb d_M_distanceSymbol_0 (by decide) ?_
  refine lv_istore_n (lv' := [(1, .int 0), (0, .int x0)]) hx hb d_M_distanceSymbol_1 rfl hl (by decide) rfl (fun ls hl => ?_)
  exact h_2 F _ H locs ls hm hP hD hS (lv_sub hl [1, 0] rfl)
theorem d_M_smallOrder_0 : decode b_M_smallOrder 0 = .ok (.iload_n 0, 1) := by decide +kernel
theorem d_M_smallOrder_1 : decode b_M_smallOrder 1 = .ok (.ifCond .ne 8, 3) := by decide +kernel
theorem d_M_smallOrder_4 : decode b_M_smallOrder 4 = .ok (.bipush 16, 2) := by decide +kernel
theorem d_M_smallOrder_6 : decode b_M_smallOrder 6 = .ok (.goto 53, 3) := by decide +kernel
theorem d_M_smallOrder_9 : decode b_M_smallOrder 9 = .ok (.iload_n 0, 1) := by decide +kernel
theorem d_M_smallOrder_10 : decode b_M_smallOrder 10 = .ok (.iconst 1, 1) := by decide +kernel
theorem d_M_smallOrder_11 : decode b_M_smallOrder 11 = .ok (.if_icmp .ne 8, 3) := by decide +kernel
theorem d_M_smallOrder_14 : decode b_M_smallOrder 14 = .ok (.bipush 17, 2) := by decide +kernel
theorem d_M_smallOrder_16 : decode b_M_smallOrder 16 = .ok (.goto 43, 3) := by decide +kernel
theorem d_M_smallOrder_19 : decode b_M_smallOrder 19 = .ok (.iload_n 0, 1) := by decide +kernel
theorem d_M_smallOrder_20 : decode b_M_smallOrder 20 = .ok (.iconst 2, 1) := by decide +kernel
theorem d_M_smallOrder_21 : decode b_M_smallOrder 21 = .ok (.if_icmp .ne 8, 3) := by decide +kernel
theorem d_M_smallOrder_24 : decode b_M_smallOrder 24 = .ok (.bipush 18, 2) := by decide +kernel
theorem d_M_smallOrder_26 : decode b_M_smallOrder 26 = .ok (.goto 33, 3) := by decide +kernel
theorem d_M_smallOrder_29 : decode b_M_smallOrder 29 = .ok (.iload_n 0, 1) := by decide +kernel
theorem d_M_smallOrder_30 : decode b_M_smallOrder 30 = .ok (.iconst 3, 1) := by decide +kernel
theorem d_M_smallOrder_31 : decode b_M_smallOrder 31 = .ok (.if_icmp .ne 7, 3) := by decide +kernel
theorem d_M_smallOrder_34 : decode b_M_smallOrder 34 = .ok (.iconst 0, 1) := by decide +kernel
theorem d_M_smallOrder_35 : decode b_M_smallOrder 35 = .ok (.goto 24, 3) := by decide +kernel
theorem d_M_smallOrder_38 : decode b_M_smallOrder 38 = .ok (.iload_n 0, 1) := by decide +kernel
theorem d_M_smallOrder_39 : decode b_M_smallOrder 39 = .ok (.iconst 2, 1) := by decide +kernel
theorem d_M_smallOrder_40 : decode b_M_smallOrder 40 = .ok (.irem, 1) := by decide +kernel
theorem d_M_smallOrder_41 : decode b_M_smallOrder 41 = .ok (.ifCond .ne 12, 3) := by decide +kernel
theorem d_M_smallOrder_44 : decode b_M_smallOrder 44 = .ok (.bipush 6, 2) := by decide +kernel
theorem d_M_smallOrder_46 : decode b_M_smallOrder 46 = .ok (.iload_n 0, 1) := by decide +kernel
theorem d_M_smallOrder_47 : decode b_M_smallOrder 47 = .ok (.iconst 2, 1) := by decide +kernel
theorem d_M_smallOrder_48 : decode b_M_smallOrder 48 = .ok (.idiv, 1) := by decide +kernel
theorem d_M_smallOrder_49 : decode b_M_smallOrder 49 = .ok (.iadd, 1) := by decide +kernel
theorem d_M_smallOrder_50 : decode b_M_smallOrder 50 = .ok (.goto 9, 3) := by decide +kernel
theorem d_M_smallOrder_53 : decode b_M_smallOrder 53 = .ok (.bipush 9, 2) := by decide +kernel
theorem d_M_smallOrder_55 : decode b_M_smallOrder 55 = .ok (.iload_n 0, 1) := by decide +kernel
theorem d_M_smallOrder_56 : decode b_M_smallOrder 56 = .ok (.iconst 2, 1) := by decide +kernel
theorem d_M_smallOrder_57 : decode b_M_smallOrder 57 = .ok (.idiv, 1) := by decide +kernel
theorem d_M_smallOrder_58 : decode b_M_smallOrder 58 = .ok (.isub, 1) := by decide +kernel
theorem d_M_smallOrder_59 : decode b_M_smallOrder 59 = .ok (.ireturn, 1) := by decide +kernel
abbrev M_smallOrder_w (E : xE) : va_W := []
def M_smallOrder (F : Nat) (x0 : Int32) : Option (Int32 × Unit) :=
  mC (x0 = 0) (some (16, ())) (mC (x0 = 1) (some (17, ())) (mC (x0 = 2) (some (18, ())) (mC (x0 = 3) (some (0, ())) (mC ((x0 - x0 / 2 * 2) = 0) (some (6 + (x0 / 2), ())) (some (9 - (x0 / 2), ()))))))
abbrev M_smallOrder_rm : Room := { frames := 0, cells := 0, slots := 0, locals := 0 }
set_option maxHeartbeats 4000000 in
set_option maxRecDepth 100000 in
theorem c_M_smallOrder (l : Launch) (E : xE) (F sz : Nat) (x0 : Int32) (res : Int32 × Unit) (hm : M_smallOrder F x0 = some res) : Met l y_M_smallOrder (Cond.code y_M_smallOrder b_M_smallOrder 1 (some .int) :: x_tb) M_smallOrder_rm (va_Pc [.int x0] (xPre E (M_smallOrder_w E) sz)) (xQi E (fun (r : Int32) (u : Unit) => r = res.1 ∧ u = res.2) (fun (u : Unit) => (M_smallOrder_w E)) (va_A (M_smallOrder_w E) sz)) 0 0 (va_A (M_smallOrder_w E) sz) := by
  refine xEnI (by decide) (Nat.le_of_ble_eq_true rfl) ?_
  intro p e s m args below meth c A ls Q hx hb hnm hts hown hml hK hA hI hN hret hP hD hS hl
  replace hown : s.vm.findClass R_M = some m.cls := hown
  replace hl : lv_has ls 1 [(0, .int x0)] := hl
  obtain ⟨H, eH⟩ : ∃ z, z = s.heap := ⟨_, rfl⟩
  obtain ⟨locs, eL⟩ : ∃ z : List Loc, z = [] := ⟨_, rfl⟩
  rw [show W p l e M_smallOrder_rm s m args below meth c s.heap [] 0 0 Q (F0 m 0 ls []) = W p l e M_smallOrder_rm s m args below meth c H locs 0 0 Q (F0 m 0 ls []) by rw [eH, eL]]
  replace hP : va_P E.1 vwCl (M_smallOrder_w E) H := by rw [eH]; exact hP
  replace hS : va_S A s.heap H locs := by rw [eH, eL]; exact hS
  clear eH eL
  rw [M_smallOrder] at hm
  refine lv_iload_n hx hb d_M_smallOrder_0 rfl (lv_at hl 0 rfl) ?_
  refine lv_if_ne (tgt := 9) hx hb d_M_smallOrder_1 (by decide) (fun c1 => ?_) (fun c1 => ?_)
  · replace hm := mC_f hm c1
    refine lv_iload_n hx hb d_M_smallOrder_9 rfl (lv_at hl 0 rfl) ?_
    refine lv_iconst (v := 1) hx hb d_M_smallOrder_10 (by decide) ?_
    refine lv_icmp_ne (tgt := 19) hx hb d_M_smallOrder_11 (by decide) (fun c11 => ?_) (fun c11 => ?_)
    · replace hm := mC_f hm c11
      refine lv_iload_n hx hb d_M_smallOrder_19 rfl (lv_at hl 0 rfl) ?_
      refine lv_iconst (v := 2) hx hb d_M_smallOrder_20 (by decide) ?_
      refine lv_icmp_ne (tgt := 29) hx hb d_M_smallOrder_21 (by decide) (fun c21 => ?_) (fun c21 => ?_)
      · replace hm := mC_f hm c21
        refine lv_iload_n hx hb d_M_smallOrder_29 rfl (lv_at hl 0 rfl) ?_
        refine lv_iconst (v := 3) hx hb d_M_smallOrder_30 (by decide) ?_
        refine lv_icmp_ne (tgt := 38) hx hb d_M_smallOrder_31 (by decide) (fun c31 => ?_) (fun c31 => ?_)
        · replace hm := mC_f hm c31
          refine lv_iload_n hx hb d_M_smallOrder_38 rfl (lv_at hl 0 rfl) ?_
          refine lv_iconst (v := 2) hx hb d_M_smallOrder_39 (by decide) ?_
          refine lv_irem hx hb d_M_smallOrder_40 (by decide) ?_
          refine lv_if_ne (tgt := 53) hx hb d_M_smallOrder_41 (by decide) (fun c41 => ?_) (fun c41 => ?_)
          · replace hm := mC_f hm c41
            refine lv_bipush (v := 9) hx hb d_M_smallOrder_53 (by decide) ?_
            refine lv_iload_n hx hb d_M_smallOrder_55 rfl (lv_at hl 0 rfl) ?_
            refine lv_iconst (v := 2) hx hb d_M_smallOrder_56 (by decide) ?_
            refine lv_idiv hx hb d_M_smallOrder_57 (by decide) ?_
            refine lv_isub hx hb d_M_smallOrder_58 ?_
            replace hm := Option.some.inj hm
            subst hm
            exact hret d_M_smallOrder_59 (u := ()) ⟨rfl, rfl⟩ hP hD hS
          · replace hm := mC_t hm c41
            refine lv_bipush (v := 6) hx hb d_M_smallOrder_44 (by decide) ?_
            refine lv_iload_n hx hb d_M_smallOrder_46 rfl (lv_at hl 0 rfl) ?_
            refine lv_iconst (v := 2) hx hb d_M_smallOrder_47 (by decide) ?_
            refine lv_idiv hx hb d_M_smallOrder_48 (by decide) ?_
            refine lv_iadd hx hb d_M_smallOrder_49 ?_
            refine lv_goto (tgt := 59) hx hb d_M_smallOrder_50 (by decide) ?_
            replace hm := Option.some.inj hm
            subst hm
            exact hret d_M_smallOrder_59 (u := ()) ⟨rfl, rfl⟩ hP hD hS
        · replace hm := mC_t hm c31
          refine lv_iconst (v := 0) hx hb d_M_smallOrder_34 (by decide) ?_
          refine lv_goto (tgt := 59) hx hb d_M_smallOrder_35 (by decide) ?_
          replace hm := Option.some.inj hm
          subst hm
          exact hret d_M_smallOrder_59 (u := ()) ⟨rfl, rfl⟩ hP hD hS
      · replace hm := mC_t hm c21
        refine lv_bipush (v := 18) hx hb d_M_smallOrder_24 (by decide) ?_
        refine lv_goto (tgt := 59) hx hb d_M_smallOrder_26 (by decide) ?_
        replace hm := Option.some.inj hm
        subst hm
        exact hret d_M_smallOrder_59 (u := ()) ⟨rfl, rfl⟩ hP hD hS
    · replace hm := mC_t hm c11
      refine lv_bipush (v := 17) hx hb d_M_smallOrder_14 (by decide) ?_
      refine lv_goto (tgt := 59) hx hb d_M_smallOrder_16 (by decide) ?_
      replace hm := Option.some.inj hm
      subst hm
      exact hret d_M_smallOrder_59 (u := ()) ⟨rfl, rfl⟩ hP hD hS
  · replace hm := mC_t hm c1
    refine lv_bipush (v := 16) hx hb d_M_smallOrder_4 (by decide) ?_
    refine lv_goto (tgt := 59) hx hb d_M_smallOrder_6 (by decide) ?_
    replace hm := Option.some.inj hm
    subst hm
    exact hret d_M_smallOrder_59 (u := ()) ⟨rfl, rfl⟩ hP hD hS
theorem d_M_stepBits_0 : decode b_M_stepBits 0 = .ok (.iload_n 0, 1) := by decide +kernel
theorem d_M_stepBits_1 : decode b_M_stepBits 1 = .ok (.bipush 16, 2) := by decide +kernel
theorem d_M_stepBits_3 : decode b_M_stepBits 3 = .ok (.if_icmp .ne 7, 3) := by decide +kernel
theorem d_M_stepBits_6 : decode b_M_stepBits 6 = .ok (.iconst 2, 1) := by decide +kernel
theorem d_M_stepBits_7 : decode b_M_stepBits 7 = .ok (.goto 25, 3) := by decide +kernel
theorem d_M_stepBits_10 : decode b_M_stepBits 10 = .ok (.iload_n 0, 1) := by decide +kernel
theorem d_M_stepBits_11 : decode b_M_stepBits 11 = .ok (.bipush 17, 2) := by decide +kernel
theorem d_M_stepBits_13 : decode b_M_stepBits 13 = .ok (.if_icmp .ne 7, 3) := by decide +kernel
theorem d_M_stepBits_16 : decode b_M_stepBits 16 = .ok (.iconst 3, 1) := by decide +kernel
theorem d_M_stepBits_17 : decode b_M_stepBits 17 = .ok (.goto 15, 3) := by decide +kernel
theorem d_M_stepBits_20 : decode b_M_stepBits 20 = .ok (.iload_n 0, 1) := by decide +kernel
theorem d_M_stepBits_21 : decode b_M_stepBits 21 = .ok (.bipush 18, 2) := by decide +kernel
theorem d_M_stepBits_23 : decode b_M_stepBits 23 = .ok (.if_icmp .ne 8, 3) := by decide +kernel
theorem d_M_stepBits_26 : decode b_M_stepBits 26 = .ok (.bipush 7, 2) := by decide +kernel
theorem d_M_stepBits_28 : decode b_M_stepBits 28 = .ok (.goto 4, 3) := by decide +kernel
theorem d_M_stepBits_31 : decode b_M_stepBits 31 = .ok (.iconst 0, 1) := by decide +kernel
theorem d_M_stepBits_32 : decode b_M_stepBits 32 = .ok (.ireturn, 1) := by decide +kernel
abbrev M_stepBits_w (E : xE) : va_W := []
def M_stepBits (F : Nat) (x0 : Int32) : Option (Int32 × Unit) :=
  mC (x0 = 16) (some (2, ())) (mC (x0 = 17) (some (3, ())) (mC (x0 = 18) (some (7, ())) (some (0, ()))))
abbrev M_stepBits_rm : Room := { frames := 0, cells := 0, slots := 0, locals := 0 }
set_option maxHeartbeats 4000000 in
set_option maxRecDepth 100000 in
theorem c_M_stepBits (l : Launch) (E : xE) (F sz : Nat) (x0 : Int32) (res : Int32 × Unit) (hm : M_stepBits F x0 = some res) : Met l y_M_stepBits (Cond.code y_M_stepBits b_M_stepBits 1 (some .int) :: x_tb) M_stepBits_rm (va_Pc [.int x0] (xPre E (M_stepBits_w E) sz)) (xQi E (fun (r : Int32) (u : Unit) => r = res.1 ∧ u = res.2) (fun (u : Unit) => (M_stepBits_w E)) (va_A (M_stepBits_w E) sz)) 0 0 (va_A (M_stepBits_w E) sz) := by
  refine xEnI (by decide) (Nat.le_of_ble_eq_true rfl) ?_
  intro p e s m args below meth c A ls Q hx hb hnm hts hown hml hK hA hI hN hret hP hD hS hl
  replace hown : s.vm.findClass R_M = some m.cls := hown
  replace hl : lv_has ls 1 [(0, .int x0)] := hl
  obtain ⟨H, eH⟩ : ∃ z, z = s.heap := ⟨_, rfl⟩
  obtain ⟨locs, eL⟩ : ∃ z : List Loc, z = [] := ⟨_, rfl⟩
  rw [show W p l e M_stepBits_rm s m args below meth c s.heap [] 0 0 Q (F0 m 0 ls []) = W p l e M_stepBits_rm s m args below meth c H locs 0 0 Q (F0 m 0 ls []) by rw [eH, eL]]
  replace hP : va_P E.1 vwCl (M_stepBits_w E) H := by rw [eH]; exact hP
  replace hS : va_S A s.heap H locs := by rw [eH, eL]; exact hS
  clear eH eL
  rw [M_stepBits] at hm
  refine lv_iload_n hx hb d_M_stepBits_0 rfl (lv_at hl 0 rfl) ?_
  refine lv_bipush (v := 16) hx hb d_M_stepBits_1 (by decide) ?_
  refine lv_icmp_ne (tgt := 10) hx hb d_M_stepBits_3 (by decide) (fun c3 => ?_) (fun c3 => ?_)
  · replace hm := mC_f hm c3
    refine lv_iload_n hx hb d_M_stepBits_10 rfl (lv_at hl 0 rfl) ?_
    refine lv_bipush (v := 17) hx hb d_M_stepBits_11 (by decide) ?_
    refine lv_icmp_ne (tgt := 20) hx hb d_M_stepBits_13 (by decide) (fun c13 => ?_) (fun c13 => ?_)
    · replace hm := mC_f hm c13
      refine lv_iload_n hx hb d_M_stepBits_20 rfl (lv_at hl 0 rfl) ?_
      refine lv_bipush (v := 18) hx hb d_M_stepBits_21 (by decide) ?_
      refine lv_icmp_ne (tgt := 31) hx hb d_M_stepBits_23 (by decide) (fun c23 => ?_) (fun c23 => ?_)
      · replace hm := mC_f hm c23
        refine lv_iconst (v := 0) hx hb d_M_stepBits_31 (by decide) ?_
        replace hm := Option.some.inj hm
        subst hm
        exact hret d_M_stepBits_32 (u := ()) ⟨rfl, rfl⟩ hP hD hS
      · replace hm := mC_t hm c23
        refine lv_bipush (v := 7) hx hb d_M_stepBits_26 (by decide) ?_
        refine lv_goto (tgt := 32) hx hb d_M_stepBits_28 (by decide) ?_
        replace hm := Option.some.inj hm
        subst hm
        exact hret d_M_stepBits_32 (u := ()) ⟨rfl, rfl⟩ hP hD hS
    · replace hm := mC_t hm c13
      refine lv_iconst (v := 3) hx hb d_M_stepBits_16 (by decide) ?_
      refine lv_goto (tgt := 32) hx hb d_M_stepBits_17 (by decide) ?_
      replace hm := Option.some.inj hm
      subst hm
      exact hret d_M_stepBits_32 (u := ()) ⟨rfl, rfl⟩ hP hD hS
  · replace hm := mC_t hm c3
    refine lv_iconst (v := 2) hx hb d_M_stepBits_6 (by decide) ?_
    refine lv_goto (tgt := 32) hx hb d_M_stepBits_7 (by decide) ?_
    replace hm := Option.some.inj hm
    subst hm
    exact hret d_M_stepBits_32 (u := ()) ⟨rfl, rfl⟩ hP hD hS
theorem d_M_codeOf_0 : decode b_M_codeOf 0 = .ok (.iconst 0, 1) := by decide +kernel
theorem d_M_codeOf_1 : decode b_M_codeOf 1 = .ok (.istore 4, 2) := by decide +kernel
theorem d_M_codeOf_3 : decode b_M_codeOf 3 = .ok (.iconst 1, 1) := by decide +kernel
theorem d_M_codeOf_4 : decode b_M_codeOf 4 = .ok (.istore 5, 2) := by decide +kernel
theorem d_M_codeOf_6 : decode b_M_codeOf 6 = .ok (.iload 5, 2) := by decide +kernel
theorem d_M_codeOf_8 : decode b_M_codeOf 8 = .ok (.aload_n 0, 1) := by decide +kernel
theorem d_M_codeOf_9 : decode b_M_codeOf 9 = .ok (.iload_n 1, 1) := by decide +kernel
theorem d_M_codeOf_10 : decode b_M_codeOf 10 = .ok (.iload_n 3, 1) := by decide +kernel
theorem d_M_codeOf_11 : decode b_M_codeOf 11 = .ok (.iadd, 1) := by decide +kernel
theorem d_M_codeOf_12 : decode b_M_codeOf 12 = .ok (.iaload, 1) := by decide +kernel
theorem d_M_codeOf_13 : decode b_M_codeOf 13 = .ok (.if_icmp .gt 80, 3) := by decide +kernel
theorem d_M_codeOf_16 : decode b_M_codeOf 16 = .ok (.iconst 2, 1) := by decide +kernel
theorem d_M_codeOf_17 : decode b_M_codeOf 17 = .ok (.iload 4, 2) := by decide +kernel
theorem d_M_codeOf_19 : decode b_M_codeOf 19 = .ok (.imul, 1) := by decide +kernel
theorem d_M_codeOf_20 : decode b_M_codeOf 20 = .ok (.istore 4, 2) := by decide +kernel
theorem d_M_codeOf_22 : decode b_M_codeOf 22 = .ok (.iconst 0, 1) := by decide +kernel
theorem d_M_codeOf_23 : decode b_M_codeOf 23 = .ok (.istore 6, 2) := by decide +kernel
theorem d_M_codeOf_25 : decode b_M_codeOf 25 = .ok (.iload 6, 2) := by decide +kernel
theorem d_M_codeOf_27 : decode b_M_codeOf 27 = .ok (.iload_n 2, 1) := by decide +kernel
theorem d_M_codeOf_28 : decode b_M_codeOf 28 = .ok (.if_icmp .ge 59, 3) := by decide +kernel
theorem d_M_codeOf_31 : decode b_M_codeOf 31 = .ok (.iload 5, 2) := by decide +kernel
theorem d_M_codeOf_33 : decode b_M_codeOf 33 = .ok (.aload_n 0, 1) := by decide +kernel
theorem d_M_codeOf_34 : decode b_M_codeOf 34 = .ok (.iload_n 1, 1) := by decide +kernel
theorem d_M_codeOf_35 : decode b_M_codeOf 35 = .ok (.iload_n 3, 1) := by decide +kernel
theorem d_M_codeOf_36 : decode b_M_codeOf 36 = .ok (.iadd, 1) := by decide +kernel
theorem d_M_codeOf_37 : decode b_M_codeOf 37 = .ok (.iaload, 1) := by decide +kernel
theorem d_M_codeOf_38 : decode b_M_codeOf 38 = .ok (.if_icmp .lt 9, 3) := by decide +kernel
theorem d_M_codeOf_41 : decode b_M_codeOf 41 = .ok (.iload 6, 2) := by decide +kernel
theorem d_M_codeOf_43 : decode b_M_codeOf 43 = .ok (.iload_n 3, 1) := by decide +kernel
theorem d_M_codeOf_44 : decode b_M_codeOf 44 = .ok (.if_icmp .ge 7, 3) := by decide +kernel
theorem d_M_codeOf_47 : decode b_M_codeOf 47 = .ok (.iconst 1, 1) := by decide +kernel
theorem d_M_codeOf_48 : decode b_M_codeOf 48 = .ok (.goto 4, 3) := by decide +kernel
theorem d_M_codeOf_51 : decode b_M_codeOf 51 = .ok (.iconst 0, 1) := by decide +kernel
theorem d_M_codeOf_52 : decode b_M_codeOf 52 = .ok (.istore 7, 2) := by decide +kernel
theorem d_M_codeOf_54 : decode b_M_codeOf 54 = .ok (.aload_n 0, 1) := by decide +kernel
theorem d_M_codeOf_55 : decode b_M_codeOf 55 = .ok (.iload_n 1, 1) := by decide +kernel
theorem d_M_codeOf_56 : decode b_M_codeOf 56 = .ok (.iload 6, 2) := by decide +kernel
theorem d_M_codeOf_58 : decode b_M_codeOf 58 = .ok (.iadd, 1) := by decide +kernel
theorem d_M_codeOf_59 : decode b_M_codeOf 59 = .ok (.iaload, 1) := by decide +kernel
theorem d_M_codeOf_60 : decode b_M_codeOf 60 = .ok (.iload 5, 2) := by decide +kernel
theorem d_M_codeOf_62 : decode b_M_codeOf 62 = .ok (.if_icmp .ne 15, 3) := by decide +kernel
theorem d_M_codeOf_65 : decode b_M_codeOf 65 = .ok (.iload 7, 2) := by decide +kernel
theorem d_M_codeOf_67 : decode b_M_codeOf 67 = .ok (.ifCond .eq 10, 3) := by decide +kernel
theorem d_M_codeOf_70 : decode b_M_codeOf 70 = .ok (.iload 4, 2) := by decide +kernel
theorem d_M_codeOf_72 : decode b_M_codeOf 72 = .ok (.iconst 1, 1) := by decide +kernel
theorem d_M_codeOf_73 : decode b_M_codeOf 73 = .ok (.iadd, 1) := by decide +kernel
theorem d_M_codeOf_74 : decode b_M_codeOf 74 = .ok (.goto 5, 3) := by decide +kernel
theorem d_M_codeOf_77 : decode b_M_codeOf 77 = .ok (.iload 4, 2) := by decide +kernel
theorem d_M_codeOf_79 : decode b_M_codeOf 79 = .ok (.istore 4, 2) := by decide +kernel
theorem d_M_codeOf_81 : decode b_M_codeOf 81 = .ok (.iinc 6 1, 3) := by decide +kernel
theorem d_M_codeOf_84 : decode b_M_codeOf 84 = .ok (.goto (-59), 3) := by decide +kernel
theorem d_M_codeOf_87 : decode b_M_codeOf 87 = .ok (.iinc 5 1, 3) := by decide +kernel
theorem d_M_codeOf_90 : decode b_M_codeOf 90 = .ok (.goto (-84), 3) := by decide +kernel
theorem d_M_codeOf_93 : decode b_M_codeOf 93 = .ok (.iload 4, 2) := by decide +kernel
theorem d_M_codeOf_95 : decode b_M_codeOf 95 = .ok (.ireturn, 1) := by decide +kernel
def M_codeOf_87 (F : Nat) (k_6 : Int32 → Int32 → Option (Int32 × Unit)) (x4 : Int32) (x5 : Int32) : Option (Int32 × Unit) :=
  mL (x5 + 1) fun y5_2 => k_6 x4 y5_2
def M_codeOf_79 (F : Nat) (k_25 : Int32 → Int32 → Int32 → Option (Int32 × Unit)) (x5 : Int32) (x6 : Int32) (s0 : Int32) : Option (Int32 × Unit) :=
  mL (x6 + 1) fun y6_3 => k_25 s0 x5 y6_3
def M_codeOf_77 (F : Nat) (k_25 : Int32 → Int32 → Int32 → Option (Int32 × Unit)) (x4 : Int32) (x5 : Int32) (x6 : Int32) : Option (Int32 × Unit) :=
  (M_codeOf_79 F k_25) x5 x6 x4
def M_codeOf_52 (F : Nat) (n_p0 : Nat) (c_p0 : Nat → Int32) (x1 : Int32) (k_25 : Int32 → Int32 → Int32 → Option (Int32 × Unit)) (x4 : Int32) (x5 : Int32) (x6 : Int32) (s0 : Int32) : Option (Int32 × Unit) :=
  mL (x1 + x6) fun i_4 => mG i_4 n_p0 (mC ((c_p0 i_4.toNatClampNeg) = x5) (mC (s0 = 0) ((M_codeOf_77 F k_25) x4 x5 x6) ((M_codeOf_79 F k_25) x5 x6 (x4 + 1))) ((M_codeOf_77 F k_25) x4 x5 x6))
def M_codeOf_47 (F : Nat) (n_p0 : Nat) (c_p0 : Nat → Int32) (x1 : Int32) (k_25 : Int32 → Int32 → Int32 → Option (Int32 × Unit)) (x4 : Int32) (x5 : Int32) (x6 : Int32) : Option (Int32 × Unit) :=
  (M_codeOf_52 F n_p0 c_p0 x1 k_25) x4 x5 x6 1
def M_codeOf_25 (F : Nat) (n_p0 : Nat) (c_p0 : Nat → Int32) (x1 : Int32) (x2 : Int32) (x3 : Int32) (k_87 : Int32 → Int32 → Option (Int32 × Unit)) (k_25 : Int32 → Int32 → Int32 → Option (Int32 × Unit)) (x4 : Int32) (x5 : Int32) (x6 : Int32) : Option (Int32 × Unit) :=
  mC (x2 ≤ x6) (k_87 x4 x5) (mL (x1 + x3) fun i_5 => mG i_5 n_p0 (mC (x5 < (c_p0 i_5.toNatClampNeg)) ((M_codeOf_47 F n_p0 c_p0 x1 k_25) x4 x5 x6) (mC (x3 ≤ x6) ((M_codeOf_52 F n_p0 c_p0 x1 k_25) x4 x5 x6 0) ((M_codeOf_47 F n_p0 c_p0 x1 k_25) x4 x5 x6))))
def M_codeOf_6 (F : Nat) (n_p0 : Nat) (c_p0 : Nat → Int32) (x1 : Int32) (x2 : Int32) (x3 : Int32) (k_6 : Int32 → Int32 → Option (Int32 × Unit)) (x4 : Int32) (x5 : Int32) : Option (Int32 × Unit) :=
  mL (x1 + x3) fun i_1 => mG i_1 n_p0 (mC ((c_p0 i_1.toNatClampNeg) < x5) (some (x4, ())) (mL (2 * x4) fun y4_6 => (mW3 (M_codeOf_25 F n_p0 c_p0 x1 x2 x3 (M_codeOf_87 F k_6)) F) y4_6 x5 0))
abbrev M_codeOf_w (E : xE) (a_p0 : Nat) (n_p0 : Nat) (c_p0 : Nat → Int32) : va_W := [(a_p0, .inl (E.2.1, n_p0, .inl c_p0))]
def M_codeOf (F : Nat) (n_p0 : Nat) (c_p0 : Nat → Int32) (x1 : Int32) (x2 : Int32) (x3 : Int32) : Option (Int32 × Unit) :=
  (mW2 (M_codeOf_6 F n_p0 c_p0 x1 x2 x3) F) 0 1
abbrev M_codeOf_rm : Room := { frames := 0, cells := 0, slots := 0, locals := 0 }
set_option maxHeartbeats 4000000 in
set_option maxRecDepth 100000 in
theorem c_M_codeOf (l : Launch) (E : xE) (F sz : Nat) (a_p0 : Nat) (n_p0 : Nat) (c_p0 : Nat → Int32) (x1 : Int32) (x2 : Int32) (x3 : Int32) (res : Int32 × Unit) (hm : M_codeOf F n_p0 c_p0 x1 x2 x3 = some res) : Met l y_M_codeOf (Cond.code y_M_codeOf b_M_codeOf 8 (some .int) :: x_tb) M_codeOf_rm (va_Pc [.ref a_p0, .int x1, .int x2, .int x3] (xPre E (M_codeOf_w E a_p0 n_p0 c_p0) sz)) (xQi E (fun (r : Int32) (u : Unit) => r = res.1 ∧ u = res.2) (fun (u : Unit) => (M_codeOf_w E a_p0 n_p0 c_p0)) (va_A (M_codeOf_w E a_p0 n_p0 c_p0) sz)) 0 0 (va_A (M_codeOf_w E a_p0 n_p0 c_p0) sz) := by
  refine xEnI (by decide) (Nat.le_of_ble_eq_true rfl) ?_
  intro p e s m args below meth c A ls Q hx hb hnm hts hown hml hK hA hI hN hret hP hD hS hl
  replace hown : s.vm.findClass R_M = some m.cls := hown
  replace hl : lv_has ls 8 [(0, .ref a_p0), (1, .int x1), (2, .int x2), (3, .int x3)] := hl
  obtain ⟨H, eH⟩ : ∃ z, z = s.heap := ⟨_, rfl⟩
  obtain ⟨locs, eL⟩ : ∃ z : List Loc, z = [] := ⟨_, rfl⟩
  rw [show W p l e M_codeOf_rm s m args below meth c s.heap [] 0 0 Q (F0 m 0 ls []) = W p l e M_codeOf_rm s m args below meth c H locs 0 0 Q (F0 m 0 ls []) by rw [eH, eL]]
  replace hP : va_P E.1 vwCl (M_codeOf_w E a_p0 n_p0 c_p0) H := by rw [eH]; exact hP
  replace hS : va_S A s.heap H locs := by rw [eH, eL]; exact hS
  clear eH eL
  rw [M_codeOf] at hm
  have h_6 : ∀ (n_6 : Nat) (x4 : Int32) (x5 : Int32) (H : Heap) (locs : List Loc) (ls : Array Slot), (mW2 (M_codeOf_6 F n_p0 c_p0 x1 x2 x3) n_6) x4 x5 = some res → va_P E.1 vwCl (M_codeOf_w E a_p0 n_p0 c_p0) H → va_D A (M_codeOf_w E a_p0 n_p0 c_p0) → va_S A s.heap H locs → lv_has ls 8 [(0, .ref a_p0), (1, .int x1), (2, .int x2), (3, .int x3), (4, .int x4), (5, .int x5)] → W p l e M_codeOf_rm s m args below meth c H locs 0 0 Q (F0 m 6 ls []) := by
    intro n_6
    induction n_6 with
    | zero => exact fun _ _ _ _ _ hm _ _ _ _ => (mW2_z hm).elim
    | succ n_6 ih_6 =>
      intro x4 x5 H locs ls hm hP hD hS hl
      replace hm := mW2_s hm
      rw [M_codeOf_6] at hm
      refine lv_iload hx hb d_M_codeOf_6 (lv_at hl 5 rfl) ?_
      refine lv_aload_n hx hb d_M_codeOf_8 rfl (lv_at hl 0 rfl) ?_
      refine lv_iload_n hx hb d_M_codeOf_9 rfl (lv_at hl 1 rfl) ?_
      refine lv_iload_n hx hb d_M_codeOf_10 rfl (lv_at hl 3 rfl) ?_
      refine lv_iadd hx hb d_M_codeOf_11 ?_
      refine lv_topi (fun i_1 ei_1 => ?_)
      replace hm := mL_e hm i_1 ei_1
      obtain ⟨hi12, hm⟩ := mG_e hm
      refine va_iald hx hb hK hP 0 0 rfl rfl hi12 d_M_codeOf_12 ?_
      refine lv_icmp_gt (tgt := 93) hx hb d_M_codeOf_13 (by decide) (fun c13 => ?_) (fun c13 => ?_)
      · replace hm := mC_t hm c13
        refine lv_iload hx hb d_M_codeOf_93 (lv_at hl 4 rfl) ?_
        replace hm := Option.some.inj hm
        subst hm
        exact hret d_M_codeOf_95 (u := ()) ⟨rfl, rfl⟩ hP hD hS
      · replace hm := mC_f hm c13
        have h_87 : ∀ (x4 : Int32) (x5 : Int32) (H : Heap) (locs : List Loc) (ls : Array Slot), (M_codeOf_87 F (mW2 (M_codeOf_6 F n_p0 c_p0 x1 x2 x3) n_6)) x4 x5 = some res → va_P E.1 vwCl (M_codeOf_w E a_p0 n_p0 c_p0) H → va_D A (M_codeOf_w E a_p0 n_p0 c_p0) → va_S A s.heap H locs → lv_has ls 8 [(0, .ref a_p0), (1, .int x1), (2, .int x2), (3, .int x3), (4, .int x4), (5, .int x5)] → W p l e M_codeOf_rm s m args below meth c H locs 0 0 Q (F0 m 87 ls []) := by
          intro x4 x5 H locs ls hm hP hD hS hl
          rw [M_codeOf_87] at hm
          obtain ⟨y5_2, ey5_2⟩ : ∃ y : Int32, y = x5 + 1 := ⟨_, rfl⟩
          replace hm := mL_e hm y5_2 ey5_2
          refine lv_iinc (v := y5_2) (lv' := [(5, .int y5_2), (0, .ref a_p0), (1, .int x1), (2, .int x2), (3, .int x3), (4, .int x4)]) hx hb d_M_codeOf_87 hl (k := 5) rfl (by rw [ey5_2]; rfl) (by decide) rfl (fun ls hl => ?_)
          refine lv_goto (tgt := 6) hx hb d_M_codeOf_90 (by decide) ?_
          exact ih_6 _ _ H locs ls hm hP hD hS (lv_sub hl [1, 2, 3, 4, 5, 0] rfl)
        have h_25 : ∀ (n_25 : Nat) (x4 : Int32) (x5 : Int32) (x6 : Int32) (H : Heap) (locs : List Loc) (ls : Array Slot), (mW3 (M_codeOf_25 F n_p0 c_p0 x1 x2 x3 (M_codeOf_87 F (mW2 (M_codeOf_6 F n_p0 c_p0 x1 x2 x3) n_6))) n_25) x4 x5 x6 = some res → va_P E.1 vwCl (M_codeOf_w E a_p0 n_p0 c_p0) H → va_D A (M_codeOf_w E a_p0 n_p0 c_p0) → va_S A s.heap H locs → lv_has ls 8 [(0, .ref a_p0), (1, .int x1), (2, .int x2), (3, .int x3), (4, .int x4), (5, .int x5), (6, .int x6)] → W p l e M_codeOf_rm s m args below meth c H locs 0 0 Q (F0 m 25 ls []) := by
          intro n_25
          induction n_25 with
          | zero => exact fun _ _ _ _ _ _ hm _ _ _ _ => (mW3_z hm).elim
          | succ n_25 ih_25 =>
            intro x4 x5 x6 H locs ls hm hP hD hS hl
            replace hm := mW3_s hm
            rw [M_codeOf_25] at hm
            refine lv_iload hx hb d_M_codeOf_25 (lv_at hl 6 rfl) ?_
            refine lv_iload_n hx hb d_M_codeOf_27 rfl (lv_at hl 2 rfl) ?_
            refine lv_icmp_ge (tgt := 87) hx hb d_M_codeOf_28 (by decide) (fun c28 => ?_) (fun c28 => ?_)
            · replace hm := mC_t hm c28
              exact h_87 _ _ H locs ls hm hP hD hS (lv_sub hl [0, 1, 2, 3, 4, 5] rfl)
            · replace hm := mC_f hm c28
              have h_52 : ∀ (x4 : Int32) (x5 : Int32) (x6 : Int32) (s0 : Int32) (H : Heap) (locs : List Loc) (ls : Array Slot), (M_codeOf_52 F n_p0 c_p0 x1 (mW3 (M_codeOf_25 F n_p0 c_p0 x1 x2 x3 (M_codeOf_87 F (mW2 (M_codeOf_6 F n_p0 c_p0 x1 x2 x3) n_6))) n_25)) x4 x5 x6 s0 = some res → va_P E.1 vwCl (M_codeOf_w E a_p0 n_p0 c_p0) H → va_D A (M_codeOf_w E a_p0 n_p0 c_p0) → va_S A s.heap H locs → lv_has ls 8 [(0, .ref a_p0), (1, .int x1), (2, .int x2), (3, .int x3), (4, .int x4), (5, .int x5), (6, .int x6)] → W p l e M_codeOf_rm s m args below meth c H locs 0 0 Q (F0 m 52 ls [.int s0]) := by
                intro x4 x5 x6 s0 H locs ls hm hP hD hS hl
                rw [M_codeOf_52] at hm
                have h_79 : ∀ (x5 : Int32) (x6 : Int32) (s0 : Int32) (H : Heap) (locs : List Loc) (ls : Array Slot), (M_codeOf_79 F (mW3 (M_codeOf_25 F n_p0 c_p0 x1 x2 x3 (M_codeOf_87 F (mW2 (M_codeOf_6 F n_p0 c_p0 x1 x2 x3) n_6))) n_25)) x5 x6 s0 = some res → va_P E.1 vwCl (M_codeOf_w E a_p0 n_p0 c_p0) H → va_D A (M_codeOf_w E a_p0 n_p0 c_p0) → va_S A s.heap H locs → lv_has ls 8 [(0, .ref a_p0), (1, .int x1), (2, .int x2), (3, .int x3), (5, .int x5), (6, .int x6)] → W p l e M_codeOf_rm s m args below meth c H locs 0 0 Q (F0 m 79 ls [.int s0]) := by
                  intro x5 x6 s0 H locs ls hm hP hD hS hl
                  rw [M_codeOf_79] at hm
                  refine lv_istore (lv' := [(4, .int s0), (0, .ref a_p0), (1, .int x1), (2, .int x2), (3, .int x3), (5, .int x5), (6, .int x6)]) hx hb d_M_codeOf_79 hl (by decide) rfl (fun ls hl => ?_)
                  obtain ⟨y6_3, ey6_3⟩ : ∃ y : Int32, y = x6 + 1 := ⟨_, rfl⟩
                  replace hm := mL_e hm y6_3 ey6_3
                  refine lv_iinc (v := y6_3) (lv' := [(6, .int y6_3), (4, .int s0), (0, .ref a_p0), (1, .int x1), (2, .int x2), (3, .int x3), (5, .int x5)]) hx hb d_M_codeOf_81 hl (k := 6) rfl (by rw [ey6_3]; rfl) (by decide) rfl (fun ls hl => ?_)
                  refine lv_goto (tgt := 25) hx hb d_M_codeOf_84 (by decide) ?_
                  exact ih_25 _ _ _ H locs ls hm hP hD hS (lv_sub hl [2, 3, 4, 5, 1, 6, 0] rfl)
                have h_77 : ∀ (x4 : Int32) (x5 : Int32) (x6 : Int32) (H : Heap) (locs : List Loc) (ls : Array Slot), (M_codeOf_77 F (mW3 (M_codeOf_25 F n_p0 c_p0 x1 x2 x3 (M_codeOf_87 F (mW2 (M_codeOf_6 F n_p0 c_p0 x1 x2 x3) n_6))) n_25)) x4 x5 x6 = some res → va_P E.1 vwCl (M_codeOf_w E a_p0 n_p0 c_p0) H → va_D A (M_codeOf_w E a_p0 n_p0 c_p0) → va_S A s.heap H locs → lv_has ls 8 [(0, .ref a_p0), (1, .int x1), (2, .int x2), (3, .int x3), (4, .int x4), (5, .int x5), (6, .int x6)] → W p l e M_codeOf_rm s m args below meth c H locs 0 0 Q (F0 m 77 ls []) := by
                  intro x4 x5 x6 H locs ls hm hP hD hS hl
                  rw [M_codeOf_77] at hm
                  refine lv_iload hx hb d_M_codeOf_77 (lv_at hl 4 rfl) ?_
                  exact h_79 _ _ _ H locs ls hm hP hD hS (lv_sub hl [0, 1, 2, 3, 5, 6] rfl)
                refine lv_istore (lv' := [(7, .int s0), (0, .ref a_p0), (1, .int x1), (2, .int x2), (3, .int x3), (4, .int x4), (5, .int x5), (6, .int x6)]) hx hb d_M_codeOf_52 hl (by decide) rfl (fun ls hl => ?_)
                refine lv_aload_n hx hb d_M_codeOf_54 rfl (lv_at hl 1 rfl) ?_
                refine lv_iload_n hx hb d_M_codeOf_55 rfl (lv_at hl 2 rfl) ?_
                refine lv_iload hx hb d_M_codeOf_56 (lv_at hl 7 rfl) ?_
                refine lv_iadd hx hb d_M_codeOf_58 ?_
                refine lv_topi (fun i_4 ei_4 => ?_)
                replace hm := mL_e hm i_4 ei_4
                obtain ⟨hi59, hm⟩ := mG_e hm
                refine va_iald hx hb hK hP 0 0 rfl rfl hi59 d_M_codeOf_59 ?_
                refine lv_iload hx hb d_M_codeOf_60 (lv_at hl 6 rfl) ?_
                refine lv_icmp_ne (tgt := 77) hx hb d_M_codeOf_62 (by decide) (fun c62 => ?_) (fun c62 => ?_)
                · replace hm := mC_f hm c62
                  exact h_77 _ _ _ H locs ls hm hP hD hS (lv_sub hl [1, 2, 3, 4, 5, 6, 7] rfl)
                · replace hm := mC_t hm c62
                  refine lv_iload hx hb d_M_codeOf_65 (lv_at hl 0 rfl) ?_
                  refine lv_if_eq (tgt := 77) hx hb d_M_codeOf_67 (by decide) (fun c67 => ?_) (fun c67 => ?_)
                  · replace hm := mC_t hm c67
                    exact h_77 _ _ _ H locs ls hm hP hD hS (lv_sub hl [1, 2, 3, 4, 5, 6, 7] rfl)
                  · replace hm := mC_f hm c67
                    refine lv_iload hx hb d_M_codeOf_70 (lv_at hl 5 rfl) ?_
                    refine lv_iconst (v := 1) hx hb d_M_codeOf_72 (by decide) ?_
                    refine lv_iadd hx hb d_M_codeOf_73 ?_
                    refine lv_goto (tgt := 79) hx hb d_M_codeOf_74 (by decide) ?_
                    exact h_79 _ _ _ H locs ls hm hP hD hS (lv_sub hl [1, 2, 3, 4, 6, 7] rfl)
              have h_47 : ∀ (x4 : Int32) (x5 : Int32) (x6 : Int32) (H : Heap) (locs : List Loc) (ls : Array Slot), (M_codeOf_47 F n_p0 c_p0 x1 (mW3 (M_codeOf_25 F n_p0 c_p0 x1 x2 x3 (M_codeOf_87 F (mW2 (M_codeOf_6 F n_p0 c_p0 x1 x2 x3) n_6))) n_25)) x4 x5 x6 = some res → va_P E.1 vwCl (M_codeOf_w E a_p0 n_p0 c_p0) H → va_D A (M_codeOf_w E a_p0 n_p0 c_p0) → va_S A s.heap H locs → lv_has ls 8 [(0, .ref a_p0), (1, .int x1), (2, .int x2), (3, .int x3), (4, .int x4), (5, .int x5), (6, .int x6)] → W p l e M_codeOf_rm s m args below meth c H locs 0 0 Q (F0 m 47 ls []) := by
                intro x4 x5 x6 H locs ls hm hP hD hS hl
                rw [M_codeOf_47] at hm
                refine lv_iconst (v := 1) hx hb d_M_codeOf_47 (by decide) ?_
                refine lv_goto (tgt := 52) hx hb d_M_codeOf_48 (by decide) ?_
                exact h_52 _ _ _ _ H locs ls hm hP hD hS hl
              refine lv_iload hx hb d_M_codeOf_31 (lv_at hl 5 rfl) ?_
              refine lv_aload_n hx hb d_M_codeOf_33 rfl (lv_at hl 0 rfl) ?_
              refine lv_iload_n hx hb d_M_codeOf_34 rfl (lv_at hl 1 rfl) ?_
              refine lv_iload_n hx hb d_M_codeOf_35 rfl (lv_at hl 3 rfl) ?_
              refine lv_iadd hx hb d_M_codeOf_36 ?_
              refine lv_topi (fun i_5 ei_5 => ?_)
              replace hm := mL_e hm i_5 ei_5
              obtain ⟨hi37, hm⟩ := mG_e hm
              refine va_iald hx hb hK hP 0 0 rfl rfl hi37 d_M_codeOf_37 ?_
              refine lv_icmp_lt (tgt := 47) hx hb d_M_codeOf_38 (by decide) (fun c38 => ?_) (fun c38 => ?_)
              · replace hm := mC_t hm c38
                exact h_47 _ _ _ H locs ls hm hP hD hS hl
              · replace hm := mC_f hm c38
                refine lv_iload hx hb d_M_codeOf_41 (lv_at hl 6 rfl) ?_
                refine lv_iload_n hx hb d_M_codeOf_43 rfl (lv_at hl 3 rfl) ?_
                refine lv_icmp_ge (tgt := 51) hx hb d_M_codeOf_44 (by decide) (fun c44 => ?_) (fun c44 => ?_)
                · replace hm := mC_t hm c44
                  refine lv_iconst (v := 0) hx hb d_M_codeOf_51 (by decide) ?_
                  exact h_52 _ _ _ _ H locs ls hm hP hD hS hl
                · replace hm := mC_f hm c44
                  exact h_47 _ _ _ H locs ls hm hP hD hS hl
        refine lv_iconst (v := 2) hx hb d_M_codeOf_16 (by decide) ?_
        refine lv_iload hx hb d_M_codeOf_17 (lv_at hl 4 rfl) ?_
        refine lv_imul hx hb d_M_codeOf_19 ?_
        refine lv_topi (fun y4_6 ey4_6 => ?_)
        replace hm := mL_e hm y4_6 ey4_6
        refine lv_istore (lv' := [(4, .int y4_6), (0, .ref a_p0), (1, .int x1), (2, .int x2), (3, .int x3), (5, .int x5)]) hx hb d_M_codeOf_20 hl (by decide) rfl (fun ls hl => ?_)
        refine lv_iconst (v := 0) hx hb d_M_codeOf_22 (by decide) ?_
        refine lv_istore (lv' := [(6, .int 0), (4, .int y4_6), (0, .ref a_p0), (1, .int x1), (2, .int x2), (3, .int x3), (5, .int x5)]) hx hb d_M_codeOf_23 hl (by decide) rfl (fun ls hl => ?_)
        exact h_25 F _ _ _ H locs ls hm hP hD hS (lv_sub hl [2, 3, 4, 5, 1, 6, 0] rfl)
  refine lv_iconst (v := 0) hx hb d_M_codeOf_0 (by decide) ?_
  refine lv_istore (lv' := [(4, .int 0), (0, .ref a_p0), (1, .int x1), (2, .int x2), (3, .int x3)]) hx hb d_M_codeOf_1 hl (by decide) rfl (fun ls hl => ?_)
  refine lv_iconst (v := 1) hx hb d_M_codeOf_3 (by decide) ?_
  refine lv_istore (lv' := [(5, .int 1), (4, .int 0), (0, .ref a_p0), (1, .int x1), (2, .int x2), (3, .int x3)]) hx hb d_M_codeOf_4 hl (by decide) rfl (fun ls hl => ?_)
  exact h_6 F _ _ H locs ls hm hP hD hS (lv_sub hl [2, 3, 4, 5, 1, 0] rfl)
theorem d_M_checkOf_0 : decode b_M_checkOf 0 = .ok (.lconst 1, 1) := by decide +kernel
theorem d_M_checkOf_1 : decode b_M_checkOf 1 = .ok (.lstore_n 3, 1) := by decide +kernel
theorem d_M_checkOf_2 : decode b_M_checkOf 2 = .ok (.lconst 0, 1) := by decide +kernel
theorem d_M_checkOf_3 : decode b_M_checkOf 3 = .ok (.lstore 5, 2) := by decide +kernel
theorem d_M_checkOf_5 : decode b_M_checkOf 5 = .ok (.iload_n 1, 1) := by decide +kernel
theorem d_M_checkOf_6 : decode b_M_checkOf 6 = .ok (.istore 7, 2) := by decide +kernel
theorem d_M_checkOf_8 : decode b_M_checkOf 8 = .ok (.iload 7, 2) := by decide +kernel
theorem d_M_checkOf_10 : decode b_M_checkOf 10 = .ok (.iload_n 1, 1) := by decide +kernel
theorem d_M_checkOf_11 : decode b_M_checkOf 11 = .ok (.iload_n 2, 1) := by decide +kernel
theorem d_M_checkOf_12 : decode b_M_checkOf 12 = .ok (.iadd, 1) := by decide +kernel
theorem d_M_checkOf_13 : decode b_M_checkOf 13 = .ok (.if_icmp .ge 35, 3) := by decide +kernel
theorem d_M_checkOf_16 : decode b_M_checkOf 16 = .ok (.lload_n 3, 1) := by decide +kernel
theorem d_M_checkOf_17 : decode b_M_checkOf 17 = .ok (.aload_n 0, 1) := by decide +kernel
theorem d_M_checkOf_18 : decode b_M_checkOf 18 = .ok (.iload 7, 2) := by decide +kernel
theorem d_M_checkOf_20 : decode b_M_checkOf 20 = .ok (.baload, 1) := by decide +kernel
theorem d_M_checkOf_21 : decode b_M_checkOf 21 = .ok (.sipush 255, 3) := by decide +kernel
theorem d_M_checkOf_24 : decode b_M_checkOf 24 = .ok (.iand, 1) := by decide +kernel
theorem d_M_checkOf_25 : decode b_M_checkOf 25 = .ok (.i2l, 1) := by decide +kernel
theorem d_M_checkOf_26 : decode b_M_checkOf 26 = .ok (.ladd, 1) := by decide +kernel
theorem d_M_checkOf_27 : decode b_M_checkOf 27 = .ok (.ldc2_w 200, 3) := by decide +kernel
theorem d_M_checkOf_30 : decode b_M_checkOf 30 = .ok (.lrem, 1) := by decide +kernel
theorem d_M_checkOf_31 : decode b_M_checkOf 31 = .ok (.lstore_n 3, 1) := by decide +kernel
theorem d_M_checkOf_32 : decode b_M_checkOf 32 = .ok (.lload 5, 2) := by decide +kernel
theorem d_M_checkOf_34 : decode b_M_checkOf 34 = .ok (.lload_n 3, 1) := by decide +kernel
theorem d_M_checkOf_35 : decode b_M_checkOf 35 = .ok (.ladd, 1) := by decide +kernel
theorem d_M_checkOf_36 : decode b_M_checkOf 36 = .ok (.ldc2_w 200, 3) := by decide +kernel
theorem d_M_checkOf_39 : decode b_M_checkOf 39 = .ok (.lrem, 1) := by decide +kernel
theorem d_M_checkOf_40 : decode b_M_checkOf 40 = .ok (.lstore 5, 2) := by decide +kernel
theorem d_M_checkOf_42 : decode b_M_checkOf 42 = .ok (.iinc 7 1, 3) := by decide +kernel
theorem d_M_checkOf_45 : decode b_M_checkOf 45 = .ok (.goto (-37), 3) := by decide +kernel
theorem d_M_checkOf_48 : decode b_M_checkOf 48 = .ok (.ldc2_w 202, 3) := by decide +kernel
theorem d_M_checkOf_51 : decode b_M_checkOf 51 = .ok (.lload 5, 2) := by decide +kernel
theorem d_M_checkOf_53 : decode b_M_checkOf 53 = .ok (.lmul, 1) := by decide +kernel
theorem d_M_checkOf_54 : decode b_M_checkOf 54 = .ok (.lload_n 3, 1) := by decide +kernel
theorem d_M_checkOf_55 : decode b_M_checkOf 55 = .ok (.ladd, 1) := by decide +kernel
theorem d_M_checkOf_56 : decode b_M_checkOf 56 = .ok (.lreturn, 1) := by decide +kernel
def M_checkOf_8 (F : Nat) (n_p0 : Nat) (c_p0 : Nat → Int32) (x1 : Int32) (x2 : Int32) (k_8 : Int64 → Int64 → Int32 → Option (Int64 × Unit)) (x3 : Int64) (x5 : Int64) (x7 : Int32) : Option (Int64 × Unit) :=
  mC ((x1 + x2) ≤ x7) (some ((65536 * x5) + x3, ())) (mG x7 n_p0 (mL (x3 + (((c_p0 x7.toNatClampNeg) &&& 255).toInt64)) fun t_1 => mL (t_1 - t_1 / 65521 * 65521) fun y3_2 => mL (x5 + y3_2) fun t_3 => mL (t_3 - t_3 / 65521 * 65521) fun y5_4 => mL (x7 + 1) fun y7_5 => k_8 y3_2 y5_4 y7_5))
abbrev M_checkOf_w (E : xE) (a_p0 : Nat) (n_p0 : Nat) (c_p0 : Nat → Int32) : va_W := [(a_p0, .inl (E.2.2.1, n_p0, .inl c_p0))]
def M_checkOf (F : Nat) (n_p0 : Nat) (c_p0 : Nat → Int32) (x1 : Int32) (x2 : Int32) : Option (Int64 × Unit) :=
  (mW3 (M_checkOf_8 F n_p0 c_p0 x1 x2) F) 1 0 x1
abbrev M_checkOf_rm : Room := { frames := 0, cells := 0, slots := 0, locals := 0 }
set_option maxHeartbeats 4000000 in
set_option maxRecDepth 100000 in
theorem c_M_checkOf (l : Launch) (E : xE) (F sz : Nat) (a_p0 : Nat) (n_p0 : Nat) (c_p0 : Nat → Int32) (x1 : Int32) (x2 : Int32) (res : Int64 × Unit) (hm : M_checkOf F n_p0 c_p0 x1 x2 = some res) : Met l y_M_checkOf (Cond.code y_M_checkOf b_M_checkOf 8 (some .long) :: x_tb) M_checkOf_rm (va_Pc [.ref a_p0, .int x1, .int x2] (xPre E (M_checkOf_w E a_p0 n_p0 c_p0) sz)) (xQl E (fun (r : Int64) (u : Unit) => r = res.1 ∧ u = res.2) (fun (u : Unit) => (M_checkOf_w E a_p0 n_p0 c_p0)) (va_A (M_checkOf_w E a_p0 n_p0 c_p0) sz)) 0 0 (va_A (M_checkOf_w E a_p0 n_p0 c_p0) sz) := by
  refine xEnL (by decide) (Nat.le_of_ble_eq_true rfl) ?_
  intro p e s m args below meth c A ls Q hx hb hnm hts hown hml hK hA hI hN hret hP hD hS hl
  replace hown : s.vm.findClass R_M = some m.cls := hown
  replace hl : lv_has ls 8 [(0, .ref a_p0), (1, .int x1), (2, .int x2)] := hl
  obtain ⟨H, eH⟩ : ∃ z, z = s.heap := ⟨_, rfl⟩
  obtain ⟨locs, eL⟩ : ∃ z : List Loc, z = [] := ⟨_, rfl⟩
  rw [show W p l e M_checkOf_rm s m args below meth c s.heap [] 0 0 Q (F0 m 0 ls []) = W p l e M_checkOf_rm s m args below meth c H locs 0 0 Q (F0 m 0 ls []) by rw [eH, eL]]
  replace hP : va_P E.1 vwCl (M_checkOf_w E a_p0 n_p0 c_p0) H := by rw [eH]; exact hP
  replace hS : va_S A s.heap H locs := by rw [eH, eL]; exact hS
  clear eH eL
  rw [M_checkOf] at hm
  have h_8 : ∀ (n_8 : Nat) (x3 : Int64) (x5 : Int64) (x7 : Int32) (H : Heap) (locs : List Loc) (ls : Array Slot), (mW3 (M_checkOf_8 F n_p0 c_p0 x1 x2) n_8) x3 x5 x7 = some res → va_P E.1 vwCl (M_checkOf_w E a_p0 n_p0 c_p0) H → va_D A (M_checkOf_w E a_p0 n_p0 c_p0) → va_S A s.heap H locs → lv_has ls 8 [(0, .ref a_p0), (1, .int x1), (2, .int x2), (3, .long x3), (5, .long x5), (7, .int x7)] → W p l e M_checkOf_rm s m args below meth c H locs 0 0 Q (F0 m 8 ls []) := by
    intro n_8
    induction n_8 with
    | zero => exact fun _ _ _ _ _ _ hm _ _ _ _ => (mW3_z hm).elim
    | succ n_8 ih_8 =>
      intro x3 x5 x7 H locs ls hm hP hD hS hl
      replace hm := mW3_s hm
      rw [M_checkOf_8] at hm
      refine lv_iload hx hb d_M_checkOf_8 (lv_at hl 5 rfl) ?_
      refine lv_iload_n hx hb d_M_checkOf_10 rfl (lv_at hl 1 rfl) ?_
      refine lv_iload_n hx hb d_M_checkOf_11 rfl (lv_at hl 2 rfl) ?_
      refine lv_iadd hx hb d_M_checkOf_12 ?_
      refine lv_icmp_ge (tgt := 48) hx hb d_M_checkOf_13 (by decide) (fun c13 => ?_) (fun c13 => ?_)
      · replace hm := mC_t hm c13
        refine lv_ldc2 (v := 65536) hx hb hown (hts _ tw_1059) d_M_checkOf_48 ?_
        refine lv_lload hx hb d_M_checkOf_51 (lv_at hl 4 rfl) ?_
        refine lv_lmul hx hb d_M_checkOf_53 ?_
        refine lv_lload_n hx hb d_M_checkOf_54 rfl (lv_at hl 3 rfl) ?_
        refine lv_ladd hx hb d_M_checkOf_55 ?_
        replace hm := Option.some.inj hm
        subst hm
        exact hret d_M_checkOf_56 (u := ()) ⟨rfl, rfl⟩ hP hD hS
      · replace hm := mC_f hm c13
        refine lv_lload_n hx hb d_M_checkOf_16 rfl (lv_at hl 3 rfl) ?_
        refine lv_aload_n hx hb d_M_checkOf_17 rfl (lv_at hl 0 rfl) ?_
        refine lv_iload hx hb d_M_checkOf_18 (lv_at hl 5 rfl) ?_
        obtain ⟨hi20, hm⟩ := mG_e hm
        refine va_bald hx hb hK hP 0 1 rfl rfl hi20 d_M_checkOf_20 ?_
        refine lv_sipush (v := 255) hx hb d_M_checkOf_21 (by decide) ?_
        refine lv_iand hx hb d_M_checkOf_24 ?_
        refine lv_i2l hx hb d_M_checkOf_25 rfl ?_
        refine lv_ladd hx hb d_M_checkOf_26 ?_
        refine lv_ldc2 (v := 65521) hx hb hown (hts _ tw_1058) d_M_checkOf_27 ?_
        obtain ⟨t_1, et_1⟩ : ∃ z : Int64, z = x3 + (((c_p0 x7.toNatClampNeg) &&& 255).toInt64) := ⟨_, rfl⟩
        rw [← et_1]
        replace hm := mL_e hm t_1 et_1
        refine lv_lrem hx hb d_M_checkOf_30 (by decide) ?_
        refine lv_topl (fun y3_2 ey3_2 => ?_)
        replace hm := mL_e hm y3_2 ey3_2
        refine lv_lstore_n (lv' := [(3, .long y3_2), (0, .ref a_p0), (1, .int x1), (2, .int x2), (5, .long x5), (7, .int x7)]) hx hb d_M_checkOf_31 rfl hl (by decide) rfl (fun ls hl => ?_)
        refine lv_lload hx hb d_M_checkOf_32 (lv_at hl 4 rfl) ?_
        refine lv_lload_n hx hb d_M_checkOf_34 rfl (lv_at hl 0 rfl) ?_
        refine lv_ladd hx hb d_M_checkOf_35 ?_
        refine lv_ldc2 (v := 65521) hx hb hown (hts _ tw_1058) d_M_checkOf_36 ?_
        obtain ⟨t_3, et_3⟩ : ∃ z : Int64, z = x5 + y3_2 := ⟨_, rfl⟩
        rw [← et_3]
        replace hm := mL_e hm t_3 et_3
        refine lv_lrem hx hb d_M_checkOf_39 (by decide) ?_
        refine lv_topl (fun y5_4 ey5_4 => ?_)
        replace hm := mL_e hm y5_4 ey5_4
        refine lv_lstore (lv' := [(5, .long y5_4), (3, .long y3_2), (0, .ref a_p0), (1, .int x1), (2, .int x2), (7, .int x7)]) hx hb d_M_checkOf_40 hl (by decide) rfl (fun ls hl => ?_)
        obtain ⟨y7_5, ey7_5⟩ : ∃ y : Int32, y = x7 + 1 := ⟨_, rfl⟩
        replace hm := mL_e hm y7_5 ey7_5
        refine lv_iinc (v := y7_5) (lv' := [(7, .int y7_5), (5, .long y5_4), (3, .long y3_2), (0, .ref a_p0), (1, .int x1), (2, .int x2)]) hx hb d_M_checkOf_42 hl (k := 5) rfl (by rw [ey7_5]; rfl) (by decide) rfl (fun ls hl => ?_)
        refine lv_goto (tgt := 8) hx hb d_M_checkOf_45 (by decide) ?_
        exact ih_8 _ _ _ H locs ls hm hP hD hS (lv_sub hl [3, 4, 5, 2, 1, 0] rfl)
  refine lv_lconst (v := 1) hx hb d_M_checkOf_0 (by decide) ?_
  refine lv_lstore_n (lv' := [(3, .long 1), (0, .ref a_p0), (1, .int x1), (2, .int x2)]) hx hb d_M_checkOf_1 rfl hl (by decide) rfl (fun ls hl => ?_)
  refine lv_lconst (v := 0) hx hb d_M_checkOf_2 (by decide) ?_
  refine lv_lstore (lv' := [(5, .long 0), (3, .long 1), (0, .ref a_p0), (1, .int x1), (2, .int x2)]) hx hb d_M_checkOf_3 hl (by decide) rfl (fun ls hl => ?_)
  refine lv_iload_n hx hb d_M_checkOf_5 rfl (lv_at hl 3 rfl) ?_
  refine lv_istore (lv' := [(7, .int x1), (5, .long 0), (3, .long 1), (0, .ref a_p0), (1, .int x1), (2, .int x2)]) hx hb d_M_checkOf_6 hl (by decide) rfl (fun ls hl => ?_)
  exact h_8 F _ _ _ H locs ls hm hP hD hS (lv_sub hl [3, 4, 5, 2, 1, 0] rfl)
