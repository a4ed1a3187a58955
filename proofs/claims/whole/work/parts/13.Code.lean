theorem d_Code_lengthOf_0 : decode b_Code_lengthOf 0 = .ok (.iload_n 1, 1) := by decide +kernel
theorem d_Code_lengthOf_1 : decode b_Code_lengthOf 1 = .ok (.ifCond .lt 21, 3) := by decide +kernel
theorem d_Code_lengthOf_4 : decode b_Code_lengthOf 4 = .ok (.iload_n 1, 1) := by decide +kernel
theorem d_Code_lengthOf_5 : decode b_Code_lengthOf 5 = .ok (.aload_n 0, 1) := by decide +kernel
theorem d_Code_lengthOf_6 : decode b_Code_lengthOf 6 = .ok (.getfield 15, 3) := by decide +kernel
theorem d_Code_lengthOf_9 : decode b_Code_lengthOf 9 = .ok (.arraylength, 1) := by decide +kernel
theorem d_Code_lengthOf_10 : decode b_Code_lengthOf 10 = .ok (.if_icmp .ge 12, 3) := by decide +kernel
theorem d_Code_lengthOf_13 : decode b_Code_lengthOf 13 = .ok (.aload_n 0, 1) := by decide +kernel
theorem d_Code_lengthOf_14 : decode b_Code_lengthOf 14 = .ok (.getfield 15, 3) := by decide +kernel
theorem d_Code_lengthOf_17 : decode b_Code_lengthOf 17 = .ok (.iload_n 1, 1) := by decide +kernel
theorem d_Code_lengthOf_18 : decode b_Code_lengthOf 18 = .ok (.iaload, 1) := by decide +kernel
theorem d_Code_lengthOf_19 : decode b_Code_lengthOf 19 = .ok (.goto 4, 3) := by decide +kernel
theorem d_Code_lengthOf_22 : decode b_Code_lengthOf 22 = .ok (.iconst 0, 1) := by decide +kernel
theorem d_Code_lengthOf_23 : decode b_Code_lengthOf 23 = .ok (.ireturn, 1) := by decide +kernel
abbrev Code_lengthOf_w (E : xE) (a_this : Nat) (a_lengths : Nat) (n_lengths : Nat) (x_codes : Value) (x_next : Value) (c_lengths : Nat → Int32) : va_W := [(a_this, .inr (3, [.ref a_lengths, x_codes, x_next])), (a_lengths, .inl (E.2.1, n_lengths, .inl c_lengths))]
def Code_lengthOf (F : Nat) (n_lengths : Nat) (c_lengths : Nat → Int32) (x1 : Int32) : Option (Int32 × Unit) :=
  mC (x1 < 0) (some (0, ())) (mC ((nI n_lengths) ≤ x1) (some (0, ())) (mG x1 n_lengths (some (c_lengths x1.toNatClampNeg, ()))))
abbrev Code_lengthOf_rm : Room := { frames := 0, cells := 0, slots := 0, locals := 0 }
set_option maxHeartbeats 4000000 in
set_option maxRecDepth 100000 in
theorem c_Code_lengthOf (l : Launch) (E : xE) (F sz : Nat) (a_this : Nat) (a_lengths : Nat) (n_lengths : Nat) (x_codes : Value) (x_next : Value) (c_lengths : Nat → Int32) (x1 : Int32) (res : Int32 × Unit) (hm : Code_lengthOf F n_lengths c_lengths x1 = some res) : Met l y_Code_lengthOf (Cond.code y_Code_lengthOf b_Code_lengthOf 2 (some .int) :: x_tb) Code_lengthOf_rm (va_Pc [.ref a_this, .int x1] (xPre E (Code_lengthOf_w E a_this a_lengths n_lengths x_codes x_next c_lengths) sz)) (xQi E (fun (r : Int32) (u : Unit) => r = res.1 ∧ u = res.2) (fun (u : Unit) => (Code_lengthOf_w E a_this a_lengths n_lengths x_codes x_next c_lengths)) (va_A (Code_lengthOf_w E a_this a_lengths n_lengths x_codes x_next c_lengths) sz)) 0 0 (va_A (Code_lengthOf_w E a_this a_lengths n_lengths x_codes x_next c_lengths) sz) := by
  refine xEnI (by decide) (Nat.le_of_ble_eq_true rfl) ?_
  intro p e s m args below meth c A ls Q hx hb hnm hts hown hml hK hA hI hN hret hP hD hS hl
  replace hown : s.vm.findClass R_Code = some m.cls := hown
  replace hl : lv_has ls 2 [(0, .ref a_this), (1, .int x1)] := hl
  obtain ⟨H, eH⟩ : ∃ z, z = s.heap := ⟨_, rfl⟩
  obtain ⟨locs, eL⟩ : ∃ z : List Loc, z = [] := ⟨_, rfl⟩
  rw [show W p l e Code_lengthOf_rm s m args below meth c s.heap [] 0 0 Q (F0 m 0 ls []) = W p l e Code_lengthOf_rm s m args below meth c H locs 0 0 Q (F0 m 0 ls []) by rw [eH, eL]]
  replace hP : va_P E.1 vwCl (Code_lengthOf_w E a_this a_lengths n_lengths x_codes x_next c_lengths) H := by rw [eH]; exact hP
  replace hS : va_S A s.heap H locs := by rw [eH, eL]; exact hS
  clear eH eL
  rw [Code_lengthOf] at hm
  refine lv_iload_n hx hb d_Code_lengthOf_0 rfl (lv_at hl 1 rfl) ?_
  refine lv_if_lt (tgt := 22) hx hb d_Code_lengthOf_1 (by decide) (fun c1 => ?_) (fun c1 => ?_)
  · replace hm := mC_t hm c1
    refine lv_iconst (v := 0) hx hb d_Code_lengthOf_22 (by decide) ?_
    replace hm := Option.some.inj hm
    subst hm
    exact hret d_Code_lengthOf_23 (u := ()) ⟨rfl, rfl⟩ hP hD hS
  · replace hm := mC_f hm c1
    refine lv_iload_n hx hb d_Code_lengthOf_4 rfl (lv_at hl 1 rfl) ?_
    refine lv_aload_n hx hb d_Code_lengthOf_5 rfl (lv_at hl 0 rfl) ?_
    refine va_get (D := E.1) (ci := 3) (v := .ref a_lengths) (C := R_Code) (T := F_Code) (N := 3) hx hb hts i_Code hown hK hP 0 rfl rfl 0 (by decide) (hts _ tw_190) (fun _ h9 => h9) rfl d_Code_lengthOf_6 ?_
    refine va_alen (v := nI n_lengths) hx hb hK hP 1 0 rfl rfl rfl d_Code_lengthOf_9 ?_
    refine lv_icmp_ge (tgt := 22) hx hb d_Code_lengthOf_10 (by decide) (fun c10 => ?_) (fun c10 => ?_)
    · replace hm := mC_t hm c10
      refine lv_iconst (v := 0) hx hb d_Code_lengthOf_22 (by decide) ?_
      replace hm := Option.some.inj hm
      subst hm
      exact hret d_Code_lengthOf_23 (u := ()) ⟨rfl, rfl⟩ hP hD hS
    · replace hm := mC_f hm c10
      refine lv_aload_n hx hb d_Code_lengthOf_13 rfl (lv_at hl 0 rfl) ?_
      refine va_get (D := E.1) (ci := 3) (v := .ref a_lengths) (C := R_Code) (T := F_Code) (N := 3) hx hb hts i_Code hown hK hP 0 rfl rfl 0 (by decide) (hts _ tw_190) (fun _ h9 => h9) rfl d_Code_lengthOf_14 ?_
      refine lv_iload_n hx hb d_Code_lengthOf_17 rfl (lv_at hl 1 rfl) ?_
      obtain ⟨hi18, hm⟩ := mG_e hm
      refine va_iald hx hb hK hP 1 0 rfl rfl hi18 d_Code_lengthOf_18 ?_
      refine lv_goto (tgt := 23) hx hb d_Code_lengthOf_19 (by decide) ?_
      replace hm := Option.some.inj hm
      subst hm
      exact hret d_Code_lengthOf_23 (u := ()) ⟨rfl, rfl⟩ hP hD hS
theorem d_Code_turned_0 : decode b_Code_turned 0 = .ok (.iconst 0, 1) := by decide +kernel
theorem d_Code_turned_1 : decode b_Code_turned 1 = .ok (.istore_n 2, 1) := by decide +kernel
theorem d_Code_turned_2 : decode b_Code_turned 2 = .ok (.iconst 0, 1) := by decide +kernel
theorem d_Code_turned_3 : decode b_Code_turned 3 = .ok (.istore_n 3, 1) := by decide +kernel
theorem d_Code_turned_4 : decode b_Code_turned 4 = .ok (.iload_n 3, 1) := by decide +kernel
theorem d_Code_turned_5 : decode b_Code_turned 5 = .ok (.iload_n 1, 1) := by decide +kernel
theorem d_Code_turned_6 : decode b_Code_turned 6 = .ok (.if_icmp .ge 19, 3) := by decide +kernel
theorem d_Code_turned_9 : decode b_Code_turned 9 = .ok (.iload_n 2, 1) := by decide +kernel
theorem d_Code_turned_10 : decode b_Code_turned 10 = .ok (.iconst 1, 1) := by decide +kernel
theorem d_Code_turned_11 : decode b_Code_turned 11 = .ok (.ishl, 1) := by decide +kernel
theorem d_Code_turned_12 : decode b_Code_turned 12 = .ok (.iload_n 0, 1) := by decide +kernel
theorem d_Code_turned_13 : decode b_Code_turned 13 = .ok (.iload_n 3, 1) := by decide +kernel
theorem d_Code_turned_14 : decode b_Code_turned 14 = .ok (.ishr, 1) := by decide +kernel
theorem d_Code_turned_15 : decode b_Code_turned 15 = .ok (.iconst 1, 1) := by decide +kernel
theorem d_Code_turned_16 : decode b_Code_turned 16 = .ok (.iand, 1) := by decide +kernel
theorem d_Code_turned_17 : decode b_Code_turned 17 = .ok (.ior, 1) := by decide +kernel
theorem d_Code_turned_18 : decode b_Code_turned 18 = .ok (.istore_n 2, 1) := by decide +kernel
theorem d_Code_turned_19 : decode b_Code_turned 19 = .ok (.iinc 3 1, 3) := by decide +kernel
theorem d_Code_turned_22 : decode b_Code_turned 22 = .ok (.goto (-18), 3) := by decide +kernel
theorem d_Code_turned_25 : decode b_Code_turned 25 = .ok (.iload_n 2, 1) := by decide +kernel
theorem d_Code_turned_26 : decode b_Code_turned 26 = .ok (.ireturn, 1) := by decide +kernel
def Code_turned_4 (F : Nat) (x0 : Int32) (x1 : Int32) (k_4 : Int32 → Int32 → Option (Int32 × Unit)) (x2 : Int32) (x3 : Int32) : Option (Int32 × Unit) :=
  mC (x1 ≤ x3) (some (x2, ())) (mL ((x2 <<< ((1 : Int32) &&& 31)) ||| ((x0 >>> (x3 &&& 31)) &&& 1)) fun y2_1 => mL (x3 + 1) fun y3_2 => k_4 y2_1 y3_2)
abbrev Code_turned_w (E : xE) : va_W := []
def Code_turned (F : Nat) (x0 : Int32) (x1 : Int32) : Option (Int32 × Unit) :=
  (mW2 (Code_turned_4 F x0 x1) F) 0 0
abbrev Code_turned_rm : Room := { frames := 0, cells := 0, slots := 0, locals := 0 }
set_option maxHeartbeats 4000000 in
set_option maxRecDepth 100000 in
theorem c_Code_turned (l : Launch) (E : xE) (F sz : Nat) (x0 : Int32) (x1 : Int32) (res : Int32 × Unit) (hm : Code_turned F x0 x1 = some res) : Met l y_Code_turned (Cond.code y_Code_turned b_Code_turned 4 (some .int) :: x_tb) Code_turned_rm (va_Pc [.int x0, .int x1] (xPre E (Code_turned_w E) sz)) (xQi E (fun (r : Int32) (u : Unit) => r = res.1 ∧ u = res.2) (fun (u : Unit) => (Code_turned_w E)) (va_A (Code_turned_w E) sz)) 0 0 (va_A (Code_turned_w E) sz) := by
  refine xEnI (by decide) (Nat.le_of_ble_eq_true rfl) ?_
  intro p e s m args below meth c A ls Q hx hb hnm hts hown hml hK hA hI hN hret hP hD hS hl
  replace hown : s.vm.findClass R_Code = some m.cls := hown
  replace hl : lv_has ls 4 [(0, .int x0), (1, .int x1)] := hl
  obtain ⟨H, eH⟩ : ∃ z, z = s.heap := ⟨_, rfl⟩
  obtain ⟨locs, eL⟩ : ∃ z : List Loc, z = [] := ⟨_, rfl⟩
  rw [show W p l e Code_turned_rm s m args below meth c s.heap [] 0 0 Q (F0 m 0 ls []) = W p l e Code_turned_rm s m args below meth c H locs 0 0 Q (F0 m 0 ls []) by rw [eH, eL]]
  replace hP : va_P E.1 vwCl (Code_turned_w E) H := by rw [eH]; exact hP
  replace hS : va_S A s.heap H locs := by rw [eH, eL]; exact hS
  clear eH eL
  rw [Code_turned] at hm
  have h_4 : ∀ (n_4 : Nat) (x2 : Int32) (x3 : Int32) (H : Heap) (locs : List Loc) (ls : Array Slot), (mW2 (Code_turned_4 F x0 x1) n_4) x2 x3 = some res → va_P E.1 vwCl (Code_turned_w E) H → va_D A (Code_turned_w E) → va_S A s.heap H locs → lv_has ls 4 [(0, .int x0), (1, .int x1), (2, .int x2), (3, .int x3)] → W p l e Code_turned_rm s m args below meth c H locs 0 0 Q (F0 m 4 ls []) := by
    intro n_4
    induction n_4 with
    | zero => exact fun _ _ _ _ _ hm _ _ _ _ => (mW2_z hm).elim
    | succ n_4 ih_4 =>
      intro x2 x3 H locs ls hm hP hD hS hl
      replace hm := mW2_s hm
      rw [Code_turned_4] at hm
      refine lv_iload_n hx hb d_Code_turned_4 rfl (lv_at hl 3 rfl) ?_
      refine lv_iload_n hx hb d_Code_turned_5 rfl (lv_at hl 1 rfl) ?_
      refine lv_icmp_ge (tgt := 25) hx hb d_Code_turned_6 (by decide) (fun c6 => ?_) (fun c6 => ?_)
      · replace hm := mC_t hm c6
        refine lv_iload_n hx hb d_Code_turned_25 rfl (lv_at hl 2 rfl) ?_
        replace hm := Option.some.inj hm
        subst hm
        exact hret d_Code_turned_26 (u := ()) ⟨rfl, rfl⟩ hP hD hS
      · replace hm := mC_f hm c6
        refine lv_iload_n hx hb d_Code_turned_9 rfl (lv_at hl 2 rfl) ?_
        refine lv_iconst (v := 1) hx hb d_Code_turned_10 (by decide) ?_
        refine lv_ishl hx hb d_Code_turned_11 ?_
        refine lv_iload_n hx hb d_Code_turned_12 rfl (lv_at hl 0 rfl) ?_
        refine lv_iload_n hx hb d_Code_turned_13 rfl (lv_at hl 3 rfl) ?_
        refine lv_ishr hx hb d_Code_turned_14 ?_
        refine lv_iconst (v := 1) hx hb d_Code_turned_15 (by decide) ?_
        refine lv_iand hx hb d_Code_turned_16 ?_
        refine lv_ior hx hb d_Code_turned_17 ?_
        refine lv_topi (fun y2_1 ey2_1 => ?_)
        replace hm := mL_e hm y2_1 ey2_1
        refine lv_istore_n (lv' := [(2, .int y2_1), (0, .int x0), (1, .int x1), (3, .int x3)]) hx hb d_Code_turned_18 rfl hl (by decide) rfl (fun ls hl => ?_)
        obtain ⟨y3_2, ey3_2⟩ : ∃ y : Int32, y = x3 + 1 := ⟨_, rfl⟩
        replace hm := mL_e hm y3_2 ey3_2
        refine lv_iinc (v := y3_2) (lv' := [(3, .int y3_2), (2, .int y2_1), (0, .int x0), (1, .int x1)]) hx hb d_Code_turned_19 hl (k := 3) rfl (by rw [ey3_2]; rfl) (by decide) rfl (fun ls hl => ?_)
        refine lv_goto (tgt := 4) hx hb d_Code_turned_22 (by decide) ?_
        exact ih_4 _ _ H locs ls hm hP hD hS (lv_sub hl [2, 3, 1, 0] rfl)
  refine lv_iconst (v := 0) hx hb d_Code_turned_0 (by decide) ?_
  refine lv_istore_n (lv' := [(2, .int 0), (0, .int x0), (1, .int x1)]) hx hb d_Code_turned_1 rfl hl (by decide) rfl (fun ls hl => ?_)
  refine lv_iconst (v := 0) hx hb d_Code_turned_2 (by decide) ?_
  refine lv_istore_n (lv' := [(3, .int 0), (2, .int 0), (0, .int x0), (1, .int x1)]) hx hb d_Code_turned_3 rfl hl (by decide) rfl (fun ls hl => ?_)
  exact h_4 F _ _ H locs ls hm hP hD hS (lv_sub hl [2, 3, 1, 0] rfl)
theorem d_Code_assign_0 : decode b_Code_assign 0 = .ok (.aload_n 0, 1) := by decide +kernel
theorem d_Code_assign_1 : decode b_Code_assign 1 = .ok (.getfield 24, 3) := by decide +kernel
theorem d_Code_assign_4 : decode b_Code_assign 4 = .ok (.iconst 0, 1) := by decide +kernel
theorem d_Code_assign_5 : decode b_Code_assign 5 = .ok (.invokestatic 27, 3) := by decide +kernel
theorem d_Code_assign_8 : decode b_Code_assign 8 = .ok (.iconst 0, 1) := by decide +kernel
theorem d_Code_assign_9 : decode b_Code_assign 9 = .ok (.istore_n 1, 1) := by decide +kernel
theorem d_Code_assign_10 : decode b_Code_assign 10 = .ok (.iload_n 1, 1) := by decide +kernel
theorem d_Code_assign_11 : decode b_Code_assign 11 = .ok (.aload_n 0, 1) := by decide +kernel
theorem d_Code_assign_12 : decode b_Code_assign 12 = .ok (.getfield 15, 3) := by decide +kernel
theorem d_Code_assign_15 : decode b_Code_assign 15 = .ok (.arraylength, 1) := by decide +kernel
theorem d_Code_assign_16 : decode b_Code_assign 16 = .ok (.if_icmp .ge 36, 3) := by decide +kernel
theorem d_Code_assign_19 : decode b_Code_assign 19 = .ok (.aload_n 0, 1) := by decide +kernel
theorem d_Code_assign_20 : decode b_Code_assign 20 = .ok (.getfield 15, 3) := by decide +kernel
theorem d_Code_assign_23 : decode b_Code_assign 23 = .ok (.iload_n 1, 1) := by decide +kernel
theorem d_Code_assign_24 : decode b_Code_assign 24 = .ok (.iaload, 1) := by decide +kernel
theorem d_Code_assign_25 : decode b_Code_assign 25 = .ok (.istore_n 2, 1) := by decide +kernel
theorem d_Code_assign_26 : decode b_Code_assign 26 = .ok (.iload_n 2, 1) := by decide +kernel
theorem d_Code_assign_27 : decode b_Code_assign 27 = .ok (.ifCond .le 19, 3) := by decide +kernel
theorem d_Code_assign_30 : decode b_Code_assign 30 = .ok (.iload_n 2, 1) := by decide +kernel
theorem d_Code_assign_31 : decode b_Code_assign 31 = .ok (.bipush 15, 2) := by decide +kernel
theorem d_Code_assign_33 : decode b_Code_assign 33 = .ok (.if_icmp .gt 13, 3) := by decide +kernel
theorem d_Code_assign_36 : decode b_Code_assign 36 = .ok (.aload_n 0, 1) := by decide +kernel
theorem d_Code_assign_37 : decode b_Code_assign 37 = .ok (.getfield 24, 3) := by decide +kernel
theorem d_Code_assign_40 : decode b_Code_assign 40 = .ok (.iload_n 2, 1) := by decide +kernel
theorem d_Code_assign_41 : decode b_Code_assign 41 = .ok (.dup2, 1) := by decide +kernel
theorem d_Code_assign_42 : decode b_Code_assign 42 = .ok (.iaload, 1) := by decide +kernel
theorem d_Code_assign_43 : decode b_Code_assign 43 = .ok (.iconst 1, 1) := by decide +kernel
theorem d_Code_assign_44 : decode b_Code_assign 44 = .ok (.iadd, 1) := by decide +kernel
theorem d_Code_assign_45 : decode b_Code_assign 45 = .ok (.iastore, 1) := by decide +kernel
theorem d_Code_assign_46 : decode b_Code_assign 46 = .ok (.iinc 1 1, 3) := by decide +kernel
theorem d_Code_assign_49 : decode b_Code_assign 49 = .ok (.goto (-39), 3) := by decide +kernel
theorem d_Code_assign_52 : decode b_Code_assign 52 = .ok (.iconst 0, 1) := by decide +kernel
theorem d_Code_assign_53 : decode b_Code_assign 53 = .ok (.istore_n 1, 1) := by decide +kernel
theorem d_Code_assign_54 : decode b_Code_assign 54 = .ok (.iconst 1, 1) := by decide +kernel
theorem d_Code_assign_55 : decode b_Code_assign 55 = .ok (.istore_n 2, 1) := by decide +kernel
theorem d_Code_assign_56 : decode b_Code_assign 56 = .ok (.iload_n 2, 1) := by decide +kernel
theorem d_Code_assign_57 : decode b_Code_assign 57 = .ok (.bipush 15, 2) := by decide +kernel
theorem d_Code_assign_59 : decode b_Code_assign 59 = .ok (.if_icmp .gt 29, 3) := by decide +kernel
theorem d_Code_assign_62 : decode b_Code_assign 62 = .ok (.aload_n 0, 1) := by decide +kernel
theorem d_Code_assign_63 : decode b_Code_assign 63 = .ok (.getfield 24, 3) := by decide +kernel
theorem d_Code_assign_66 : decode b_Code_assign 66 = .ok (.iload_n 2, 1) := by decide +kernel
theorem d_Code_assign_67 : decode b_Code_assign 67 = .ok (.iaload, 1) := by decide +kernel
theorem d_Code_assign_68 : decode b_Code_assign 68 = .ok (.istore_n 3, 1) := by decide +kernel
theorem d_Code_assign_69 : decode b_Code_assign 69 = .ok (.aload_n 0, 1) := by decide +kernel
theorem d_Code_assign_70 : decode b_Code_assign 70 = .ok (.getfield 24, 3) := by decide +kernel
theorem d_Code_assign_73 : decode b_Code_assign 73 = .ok (.iload_n 2, 1) := by decide +kernel
theorem d_Code_assign_74 : decode b_Code_assign 74 = .ok (.iload_n 1, 1) := by decide +kernel
theorem d_Code_assign_75 : decode b_Code_assign 75 = .ok (.iastore, 1) := by decide +kernel
theorem d_Code_assign_76 : decode b_Code_assign 76 = .ok (.iload_n 1, 1) := by decide +kernel
theorem d_Code_assign_77 : decode b_Code_assign 77 = .ok (.iload_n 3, 1) := by decide +kernel
theorem d_Code_assign_78 : decode b_Code_assign 78 = .ok (.iadd, 1) := by decide +kernel
theorem d_Code_assign_79 : decode b_Code_assign 79 = .ok (.iconst 1, 1) := by decide +kernel
theorem d_Code_assign_80 : decode b_Code_assign 80 = .ok (.ishl, 1) := by decide +kernel
theorem d_Code_assign_81 : decode b_Code_assign 81 = .ok (.istore_n 1, 1) := by decide +kernel
theorem d_Code_assign_82 : decode b_Code_assign 82 = .ok (.iinc 2 1, 3) := by decide +kernel
theorem d_Code_assign_85 : decode b_Code_assign 85 = .ok (.goto (-29), 3) := by decide +kernel
theorem d_Code_assign_88 : decode b_Code_assign 88 = .ok (.iconst 0, 1) := by decide +kernel
theorem d_Code_assign_89 : decode b_Code_assign 89 = .ok (.istore_n 2, 1) := by decide +kernel
theorem d_Code_assign_90 : decode b_Code_assign 90 = .ok (.iload_n 2, 1) := by decide +kernel
theorem d_Code_assign_91 : decode b_Code_assign 91 = .ok (.aload_n 0, 1) := by decide +kernel
theorem d_Code_assign_92 : decode b_Code_assign 92 = .ok (.getfield 15, 3) := by decide +kernel
theorem d_Code_assign_95 : decode b_Code_assign 95 = .ok (.arraylength, 1) := by decide +kernel
theorem d_Code_assign_96 : decode b_Code_assign 96 = .ok (.if_icmp .ge 52, 3) := by decide +kernel
theorem d_Code_assign_99 : decode b_Code_assign 99 = .ok (.aload_n 0, 1) := by decide +kernel
theorem d_Code_assign_100 : decode b_Code_assign 100 = .ok (.getfield 15, 3) := by decide +kernel
theorem d_Code_assign_103 : decode b_Code_assign 103 = .ok (.iload_n 2, 1) := by decide +kernel
theorem d_Code_assign_104 : decode b_Code_assign 104 = .ok (.iaload, 1) := by decide +kernel
theorem d_Code_assign_105 : decode b_Code_assign 105 = .ok (.istore_n 3, 1) := by decide +kernel
theorem d_Code_assign_106 : decode b_Code_assign 106 = .ok (.iload_n 3, 1) := by decide +kernel
theorem d_Code_assign_107 : decode b_Code_assign 107 = .ok (.ifCond .le 35, 3) := by decide +kernel
theorem d_Code_assign_110 : decode b_Code_assign 110 = .ok (.iload_n 3, 1) := by decide +kernel
theorem d_Code_assign_111 : decode b_Code_assign 111 = .ok (.bipush 15, 2) := by decide +kernel
theorem d_Code_assign_113 : decode b_Code_assign 113 = .ok (.if_icmp .gt 29, 3) := by decide +kernel
theorem d_Code_assign_116 : decode b_Code_assign 116 = .ok (.aload_n 0, 1) := by decide +kernel
theorem d_Code_assign_117 : decode b_Code_assign 117 = .ok (.getfield 21, 3) := by decide +kernel
theorem d_Code_assign_120 : decode b_Code_assign 120 = .ok (.iload_n 2, 1) := by decide +kernel
theorem d_Code_assign_121 : decode b_Code_assign 121 = .ok (.aload_n 0, 1) := by decide +kernel
theorem d_Code_assign_122 : decode b_Code_assign 122 = .ok (.getfield 24, 3) := by decide +kernel
theorem d_Code_assign_125 : decode b_Code_assign 125 = .ok (.iload_n 3, 1) := by decide +kernel
theorem d_Code_assign_126 : decode b_Code_assign 126 = .ok (.iaload, 1) := by decide +kernel
theorem d_Code_assign_127 : decode b_Code_assign 127 = .ok (.iload_n 3, 1) := by decide +kernel
theorem d_Code_assign_128 : decode b_Code_assign 128 = .ok (.invokestatic 33, 3) := by decide +kernel
theorem d_Code_assign_131 : decode b_Code_assign 131 = .ok (.iastore, 1) := by decide +kernel
theorem d_Code_assign_132 : decode b_Code_assign 132 = .ok (.aload_n 0, 1) := by decide +kernel
theorem d_Code_assign_133 : decode b_Code_assign 133 = .ok (.getfield 24, 3) := by decide +kernel
theorem d_Code_assign_136 : decode b_Code_assign 136 = .ok (.iload_n 3, 1) := by decide +kernel
theorem d_Code_assign_137 : decode b_Code_assign 137 = .ok (.dup2, 1) := by decide +kernel
theorem d_Code_assign_138 : decode b_Code_assign 138 = .ok (.iaload, 1) := by decide +kernel
theorem d_Code_assign_139 : decode b_Code_assign 139 = .ok (.iconst 1, 1) := by decide +kernel
theorem d_Code_assign_140 : decode b_Code_assign 140 = .ok (.iadd, 1) := by decide +kernel
theorem d_Code_assign_141 : decode b_Code_assign 141 = .ok (.iastore, 1) := by decide +kernel
theorem d_Code_assign_142 : decode b_Code_assign 142 = .ok (.iinc 2 1, 3) := by decide +kernel
theorem d_Code_assign_145 : decode b_Code_assign 145 = .ok (.goto (-55), 3) := by decide +kernel
theorem d_Code_assign_148 : decode b_Code_assign 148 = .ok (.return_, 1) := by decide +kernel
def Code_assign_142 (F : Nat) (k_90 : (Nat → Int32) → (Nat → Int32) → Int32 → Option (Unit × (Nat → Int32) × (Nat → Int32))) (c_next : Nat → Int32) (c_codes : Nat → Int32) (x2 : Int32) : Option (Unit × (Nat → Int32) × (Nat → Int32)) :=
  mL (x2 + 1) fun y2_1 => k_90 c_next c_codes y2_1
def Code_assign_90 (F : Nat) (n_lengths : Nat) (n_codes : Nat) (c_lengths : Nat → Int32) (k_90 : (Nat → Int32) → (Nat → Int32) → Int32 → Option (Unit × (Nat → Int32) × (Nat → Int32))) (c_next : Nat → Int32) (c_codes : Nat → Int32) (x2 : Int32) : Option (Unit × (Nat → Int32) × (Nat → Int32)) :=
  mC ((nI n_lengths) ≤ x2) (some ((), c_next, c_codes)) (mG x2 n_lengths (mL (c_lengths x2.toNatClampNeg) fun y3_2 => mC (y3_2 ≤ 0) ((Code_assign_142 F k_90) c_next c_codes x2) (mC (15 < y3_2) ((Code_assign_142 F k_90) c_next c_codes x2) (mG y3_2 16 (mL (c_next y3_2.toNatClampNeg) fun t_3 => mR0 (Code_turned F t_3 y3_2) fun r_4 => mG x2 n_codes (mL (upd c_codes x2.toNatClampNeg r_4) fun c_5 => mG y3_2 16 (mL ((c_next y3_2.toNatClampNeg) + 1) fun v_6 => mG y3_2 16 (mL (upd c_next y3_2.toNatClampNeg v_6) fun c_7 => (Code_assign_142 F k_90) c_7 c_5 x2))))))))
def Code_assign_88 (F : Nat) (n_lengths : Nat) (n_codes : Nat) (c_lengths : Nat → Int32) (c_next : Nat → Int32) (c_codes : Nat → Int32) : Option (Unit × (Nat → Int32) × (Nat → Int32)) :=
  (mW3 (Code_assign_90 F n_lengths n_codes c_lengths) F) c_next c_codes 0
def Code_assign_56 (F : Nat) (k_88 : (Nat → Int32) → (Nat → Int32) → Option (Unit × (Nat → Int32) × (Nat → Int32))) (k_56 : (Nat → Int32) → (Nat → Int32) → Int32 → Int32 → Option (Unit × (Nat → Int32) × (Nat → Int32))) (c_next : Nat → Int32) (c_codes : Nat → Int32) (x1 : Int32) (x2 : Int32) : Option (Unit × (Nat → Int32) × (Nat → Int32)) :=
  mC (15 < x2) (k_88 c_next c_codes) (mG x2 16 (mL (c_next x2.toNatClampNeg) fun y3_8 => mG x2 16 (mL (upd c_next x2.toNatClampNeg x1) fun c_9 => mL ((x1 + y3_8) <<< ((1 : Int32) &&& 31)) fun y1_10 => mL (x2 + 1) fun y2_11 => k_56 c_9 c_codes y1_10 y2_11)))
def Code_assign_52 (F : Nat) (n_lengths : Nat) (n_codes : Nat) (c_lengths : Nat → Int32) (c_next : Nat → Int32) (c_codes : Nat → Int32) : Option (Unit × (Nat → Int32) × (Nat → Int32)) :=
  (mW4 (Code_assign_56 F (Code_assign_88 F n_lengths n_codes c_lengths)) F) c_next c_codes 0 1
def Code_assign_46 (F : Nat) (k_10 : (Nat → Int32) → (Nat → Int32) → Int32 → Option (Unit × (Nat → Int32) × (Nat → Int32))) (c_next : Nat → Int32) (c_codes : Nat → Int32) (x1 : Int32) : Option (Unit × (Nat → Int32) × (Nat → Int32)) :=
  mL (x1 + 1) fun y1_12 => k_10 c_next c_codes y1_12
def Code_assign_10 (F : Nat) (n_lengths : Nat) (c_lengths : Nat → Int32) (k_52 : (Nat → Int32) → (Nat → Int32) → Option (Unit × (Nat → Int32) × (Nat → Int32))) (k_10 : (Nat → Int32) → (Nat → Int32) → Int32 → Option (Unit × (Nat → Int32) × (Nat → Int32))) (c_next : Nat → Int32) (c_codes : Nat → Int32) (x1 : Int32) : Option (Unit × (Nat → Int32) × (Nat → Int32)) :=
  mC ((nI n_lengths) ≤ x1) (k_52 c_next c_codes) (mG x1 n_lengths (mL (c_lengths x1.toNatClampNeg) fun y2_13 => mC (y2_13 ≤ 0) ((Code_assign_46 F k_10) c_next c_codes x1) (mC (15 < y2_13) ((Code_assign_46 F k_10) c_next c_codes x1) (mG y2_13 16 (mL ((c_next y2_13.toNatClampNeg) + 1) fun v_14 => mG y2_13 16 (mL (upd c_next y2_13.toNatClampNeg v_14) fun c_15 => (Code_assign_46 F k_10) c_15 c_codes x1))))))
abbrev Code_assign_w (E : xE) (a_this : Nat) (a_next : Nat) (a_lengths : Nat) (a_codes : Nat) (n_lengths : Nat) (n_codes : Nat) (c_lengths : Nat → Int32) (c_next : Nat → Int32) (c_codes : Nat → Int32) : va_W := [(a_this, .inr (3, [.ref a_lengths, .ref a_codes, .ref a_next])), (a_next, .inl (E.2.1, 16, .inl c_next)), (a_lengths, .inl (E.2.1, n_lengths, .inl c_lengths)), (a_codes, .inl (E.2.1, n_codes, .inl c_codes))]
def Code_assign (F : Nat) (n_lengths : Nat) (n_codes : Nat) (c_lengths : Nat → Int32) (c_next : Nat → Int32) (c_codes : Nat → Int32) : Option (Unit × (Nat → Int32) × (Nat → Int32)) :=
  mR1 (Arr_fill F 16 c_next 0) fun _ c_p0_16 => (mW3 (Code_assign_10 F n_lengths c_lengths (Code_assign_52 F n_lengths n_codes c_lengths)) F) c_p0_16 c_codes 0
abbrev Code_assign_rm : Room := { frames := 1, cells := 0, slots := 0, locals := 23 }
set_option maxHeartbeats 4000000 in
set_option maxRecDepth 100000 in
theorem c_Code_assign (l : Launch) (E : xE) (F sz : Nat) (a_this : Nat) (a_next : Nat) (a_lengths : Nat) (a_codes : Nat) (n_lengths : Nat) (n_codes : Nat) (c_lengths : Nat → Int32) (c_next : Nat → Int32) (c_codes : Nat → Int32) (res : Unit × (Nat → Int32) × (Nat → Int32)) (hm : Code_assign F n_lengths n_codes c_lengths c_next c_codes = some res) : Met l y_Code_assign (Cond.code y_Code_assign b_Code_assign 4 none :: x_tb) Code_assign_rm (va_Pc [.ref a_this] (xPre E (Code_assign_w E a_this a_next a_lengths a_codes n_lengths n_codes c_lengths c_next c_codes) sz)) (xQv E (fun (u : (Nat → Int32) × (Nat → Int32)) => u = res.2) (fun (u : (Nat → Int32) × (Nat → Int32)) => (Code_assign_w E a_this a_next a_lengths a_codes n_lengths n_codes c_lengths u.1 u.2)) (va_A (Code_assign_w E a_this a_next a_lengths a_codes n_lengths n_codes c_lengths c_next c_codes) sz)) 0 0 (va_A (Code_assign_w E a_this a_next a_lengths a_codes n_lengths n_codes c_lengths c_next c_codes) sz) := by
  refine xEnV (by decide) (Nat.le_of_ble_eq_true rfl) ?_
  intro p e s m args below meth c A ls Q hx hb hnm hts hown hml hK hA hI hN hret hP hD hS hl
  replace hown : s.vm.findClass R_Code = some m.cls := hown
  replace hl : lv_has ls 4 [(0, .ref a_this)] := hl
  obtain ⟨H, eH⟩ : ∃ z, z = s.heap := ⟨_, rfl⟩
  obtain ⟨locs, eL⟩ : ∃ z : List Loc, z = [] := ⟨_, rfl⟩
  rw [show W p l e Code_assign_rm s m args below meth c s.heap [] 0 0 Q (F0 m 0 ls []) = W p l e Code_assign_rm s m args below meth c H locs 0 0 Q (F0 m 0 ls []) by rw [eH, eL]]
  replace hP : va_P E.1 vwCl (Code_assign_w E a_this a_next a_lengths a_codes n_lengths n_codes c_lengths c_next c_codes) H := by rw [eH]; exact hP
  replace hS : va_S A s.heap H locs := by rw [eH, eL]; exact hS
  clear eH eL
  rw [Code_assign] at hm
  have h_52 : ∀ (c_next : Nat → Int32) (c_codes : Nat → Int32) (H : Heap) (locs : List Loc) (ls : Array Slot), (Code_assign_52 F n_lengths n_codes c_lengths) c_next c_codes = some res → va_P E.1 vwCl (Code_assign_w E a_this a_next a_lengths a_codes n_lengths n_codes c_lengths c_next c_codes) H → va_D A (Code_assign_w E a_this a_next a_lengths a_codes n_lengths n_codes c_lengths c_next c_codes) → va_S A s.heap H locs → lv_has ls 4 [(0, .ref a_this)] → W p l e Code_assign_rm s m args below meth c H locs 0 0 Q (F0 m 52 ls []) := by
    intro c_next c_codes H locs ls hm hP hD hS hl
    rw [Code_assign_52] at hm
    have h_88 : ∀ (c_next : Nat → Int32) (c_codes : Nat → Int32) (H : Heap) (locs : List Loc) (ls : Array Slot), (Code_assign_88 F n_lengths n_codes c_lengths) c_next c_codes = some res → va_P E.1 vwCl (Code_assign_w E a_this a_next a_lengths a_codes n_lengths n_codes c_lengths c_next c_codes) H → va_D A (Code_assign_w E a_this a_next a_lengths a_codes n_lengths n_codes c_lengths c_next c_codes) → va_S A s.heap H locs → lv_has ls 4 [(0, .ref a_this)] → W p l e Code_assign_rm s m args below meth c H locs 0 0 Q (F0 m 88 ls []) := by
      intro c_next c_codes H locs ls hm hP hD hS hl
      rw [Code_assign_88] at hm
      have h_90 : ∀ (n_90 : Nat) (c_next : Nat → Int32) (c_codes : Nat → Int32) (x2 : Int32) (H : Heap) (locs : List Loc) (ls : Array Slot), (mW3 (Code_assign_90 F n_lengths n_codes c_lengths) n_90) c_next c_codes x2 = some res → va_P E.1 vwCl (Code_assign_w E a_this a_next a_lengths a_codes n_lengths n_codes c_lengths c_next c_codes) H → va_D A (Code_assign_w E a_this a_next a_lengths a_codes n_lengths n_codes c_lengths c_next c_codes) → va_S A s.heap H locs → lv_has ls 4 [(0, .ref a_this), (2, .int x2)] → W p l e Code_assign_rm s m args below meth c H locs 0 0 Q (F0 m 90 ls []) := by
        intro n_90
        induction n_90 with
        | zero => exact fun _ _ _ _ _ _ hm _ _ _ _ => (mW3_z hm).elim
        | succ n_90 ih_90 =>
          intro c_next c_codes x2 H locs ls hm hP hD hS hl
          replace hm := mW3_s hm
          rw [Code_assign_90] at hm
          refine lv_iload_n hx hb d_Code_assign_90 rfl (lv_at hl 1 rfl) ?_
          refine lv_aload_n hx hb d_Code_assign_91 rfl (lv_at hl 0 rfl) ?_
          refine va_get (D := E.1) (ci := 3) (v := .ref a_lengths) (C := R_Code) (T := F_Code) (N := 3) hx hb hts i_Code hown hK hP 0 rfl rfl 0 (by decide) (hts _ tw_190) (fun _ h9 => h9) rfl d_Code_assign_92 ?_
          refine va_alen (v := nI n_lengths) hx hb hK hP 2 0 rfl rfl rfl d_Code_assign_95 ?_
          refine lv_icmp_ge (tgt := 148) hx hb d_Code_assign_96 (by decide) (fun c96 => ?_) (fun c96 => ?_)
          · replace hm := mC_t hm c96
            replace hm := Option.some.inj hm
            subst hm
            exact hret d_Code_assign_148 (u := (c_next, c_codes)) rfl hP hD hS
          · replace hm := mC_f hm c96
            have h_142 : ∀ (c_next : Nat → Int32) (c_codes : Nat → Int32) (x2 : Int32) (H : Heap) (locs : List Loc) (ls : Array Slot), (Code_assign_142 F (mW3 (Code_assign_90 F n_lengths n_codes c_lengths) n_90)) c_next c_codes x2 = some res → va_P E.1 vwCl (Code_assign_w E a_this a_next a_lengths a_codes n_lengths n_codes c_lengths c_next c_codes) H → va_D A (Code_assign_w E a_this a_next a_lengths a_codes n_lengths n_codes c_lengths c_next c_codes) → va_S A s.heap H locs → lv_has ls 4 [(0, .ref a_this), (2, .int x2)] → W p l e Code_assign_rm s m args below meth c H locs 0 0 Q (F0 m 142 ls []) := by
              intro c_next c_codes x2 H locs ls hm hP hD hS hl
              rw [Code_assign_142] at hm
              obtain ⟨y2_1, ey2_1⟩ : ∃ y : Int32, y = x2 + 1 := ⟨_, rfl⟩
              replace hm := mL_e hm y2_1 ey2_1
              refine lv_iinc (v := y2_1) (lv' := [(2, .int y2_1), (0, .ref a_this)]) hx hb d_Code_assign_142 hl (k := 1) rfl (by rw [ey2_1]; rfl) (by decide) rfl (fun ls hl => ?_)
              refine lv_goto (tgt := 90) hx hb d_Code_assign_145 (by decide) ?_
              exact ih_90 _ _ _ H locs ls hm hP hD hS (lv_sub hl [1, 0] rfl)
            refine lv_aload_n hx hb d_Code_assign_99 rfl (lv_at hl 0 rfl) ?_
            refine va_get (D := E.1) (ci := 3) (v := .ref a_lengths) (C := R_Code) (T := F_Code) (N := 3) hx hb hts i_Code hown hK hP 0 rfl rfl 0 (by decide) (hts _ tw_190) (fun _ h9 => h9) rfl d_Code_assign_100 ?_
            refine lv_iload_n hx hb d_Code_assign_103 rfl (lv_at hl 1 rfl) ?_
            obtain ⟨hi104, hm⟩ := mG_e hm
            refine va_iald hx hb hK hP 2 0 rfl rfl hi104 d_Code_assign_104 ?_
            refine lv_topi (fun y3_2 ey3_2 => ?_)
            replace hm := mL_e hm y3_2 ey3_2
            refine lv_istore_n (lv' := [(3, .int y3_2), (0, .ref a_this), (2, .int x2)]) hx hb d_Code_assign_105 rfl hl (by decide) rfl (fun ls hl => ?_)
            refine lv_iload_n hx hb d_Code_assign_106 rfl (lv_at hl 0 rfl) ?_
            refine lv_if_le (tgt := 142) hx hb d_Code_assign_107 (by decide) (fun c107 => ?_) (fun c107 => ?_)
            · replace hm := mC_t hm c107
              exact h_142 _ _ _ H locs ls hm hP hD hS (lv_sub hl [1, 2] rfl)
            · replace hm := mC_f hm c107
              refine lv_iload_n hx hb d_Code_assign_110 rfl (lv_at hl 0 rfl) ?_
              refine lv_bipush (v := 15) hx hb d_Code_assign_111 (by decide) ?_
              refine lv_icmp_gt (tgt := 142) hx hb d_Code_assign_113 (by decide) (fun c113 => ?_) (fun c113 => ?_)
              · replace hm := mC_t hm c113
                exact h_142 _ _ _ H locs ls hm hP hD hS (lv_sub hl [1, 2] rfl)
              · replace hm := mC_f hm c113
                refine lv_aload_n hx hb d_Code_assign_116 rfl (lv_at hl 1 rfl) ?_
                refine va_get (D := E.1) (ci := 3) (v := .ref a_codes) (C := R_Code) (T := F_Code) (N := 3) hx hb hts i_Code hown hK hP 0 rfl rfl 1 (by decide) (hts _ tw_193) (fun _ h9 => h9) rfl d_Code_assign_117 ?_
                refine lv_iload_n hx hb d_Code_assign_120 rfl (lv_at hl 2 rfl) ?_
                refine lv_aload_n hx hb d_Code_assign_121 rfl (lv_at hl 1 rfl) ?_
                refine va_get (D := E.1) (ci := 3) (v := .ref a_next) (C := R_Code) (T := F_Code) (N := 3) hx hb hts i_Code hown hK hP 0 rfl rfl 2 (by decide) (hts _ tw_194) (fun _ h9 => h9) rfl d_Code_assign_122 ?_
                refine lv_iload_n hx hb d_Code_assign_125 rfl (lv_at hl 0 rfl) ?_
                obtain ⟨hi126, hm⟩ := mG_e hm
                refine va_iald hx hb hK hP 1 0 rfl rfl hi126 d_Code_assign_126 ?_
                refine lv_iload_n hx hb d_Code_assign_127 rfl (lv_at hl 0 rfl) ?_
                obtain ⟨t_3, et_3⟩ : ∃ z : Int32, z = c_next y3_2.toNatClampNeg := ⟨_, rfl⟩
                rw [← et_3]
                replace hm := mL_e hm t_3 et_3
                obtain ⟨r_4, hc128, hm⟩ := mR0_e hm
                refine xmi (wc := (Code_turned_w E)) [false, false, false, false] [] [] hP hD hS hA rfl (by decide) (by decide) 0 (by decide) (fun _ => rfl) (fun hPc hDc hFc => va_runS (As := [.int t_3, .int y3_2]) (rest := [.int x2, .ref a_codes]) ⟨hx, hb, hml, hown, hts⟩ (c_Code_turned l E F H.size t_3 y3_2 (r_4, ()) hc128) (va_cwS 2 hts (x_gS tw_246 tw_247 tw_74 tw_248) rfl rfl rfl (by decide +kernel) ⟨Nat.le_of_ble_eq_true rfl, Nat.le_of_ble_eq_true rfl⟩) (xPS hPc hDc hFc hK hI hN hS) rfl rfl hl.1 rfl (lv_room (Nat.le_of_ble_eq_true rfl)) d_Code_assign_128 ⟨Nat.le_of_ble_eq_true rfl, Nat.le_of_ble_eq_true rfl⟩) (fun r9 u9 H locs hw hP hD hS => ?_)
                have hw1 : r_4 = r9 := hw.1.symm
                subst hw1
                replace hP : va_P E.1 vwCl (Code_assign_w E a_this a_next a_lengths a_codes n_lengths n_codes c_lengths c_next c_codes) H := hP
                replace hD : va_D A (Code_assign_w E a_this a_next a_lengths a_codes n_lengths n_codes c_lengths c_next c_codes) := hD
                obtain ⟨hi131, hm⟩ := mG_e hm
                obtain ⟨c_5, ec_5⟩ : ∃ z : Nat → Int32, z = upd c_codes x2.toNatClampNeg r_4 := ⟨_, rfl⟩
                replace hm := mL_e hm c_5 ec_5
                refine va_iast hx hb hK hP hD hS 3 0 rfl rfl hi131 d_Code_assign_131 (fun H locs hP hD hS => ?_)
                rw [← ec_5] at hP hD
                replace hP : va_P E.1 vwCl (Code_assign_w E a_this a_next a_lengths a_codes n_lengths n_codes c_lengths c_next c_5) H := hP
                replace hD : va_D A (Code_assign_w E a_this a_next a_lengths a_codes n_lengths n_codes c_lengths c_next c_5) := hD
                refine lv_aload_n hx hb d_Code_assign_132 rfl (lv_at hl 1 rfl) ?_
                refine va_get (D := E.1) (ci := 3) (v := .ref a_next) (C := R_Code) (T := F_Code) (N := 3) hx hb hts i_Code hown hK hP 0 rfl rfl 2 (by decide) (hts _ tw_194) (fun _ h9 => h9) rfl d_Code_assign_133 ?_
                refine lv_iload_n hx hb d_Code_assign_136 rfl (lv_at hl 0 rfl) ?_
                refine lv_dup2_11 hx hb d_Code_assign_137 rfl rfl ?_
                obtain ⟨hi138, hm⟩ := mG_e hm
                refine va_iald hx hb hK hP 1 0 rfl rfl hi138 d_Code_assign_138 ?_
                refine lv_iconst (v := 1) hx hb d_Code_assign_139 (by decide) ?_
                refine lv_iadd hx hb d_Code_assign_140 ?_
                refine lv_topi (fun v_6 ev_6 => ?_)
                replace hm := mL_e hm v_6 ev_6
                obtain ⟨hi141, hm⟩ := mG_e hm
                obtain ⟨c_7, ec_7⟩ : ∃ z : Nat → Int32, z = upd c_next y3_2.toNatClampNeg v_6 := ⟨_, rfl⟩
                replace hm := mL_e hm c_7 ec_7
                refine va_iast hx hb hK hP hD hS 1 0 rfl rfl hi141 d_Code_assign_141 (fun H locs hP hD hS => ?_)
                rw [← ec_7] at hP hD
                replace hP : va_P E.1 vwCl (Code_assign_w E a_this a_next a_lengths a_codes n_lengths n_codes c_lengths c_7 c_5) H := hP
                replace hD : va_D A (Code_assign_w E a_this a_next a_lengths a_codes n_lengths n_codes c_lengths c_7 c_5) := hD
                exact h_142 _ _ _ H locs ls hm hP hD hS (lv_sub hl [1, 2] rfl)
      refine lv_iconst (v := 0) hx hb d_Code_assign_88 (by decide) ?_
      refine lv_istore_n (lv' := [(2, .int 0), (0, .ref a_this)]) hx hb d_Code_assign_89 rfl hl (by decide) rfl (fun ls hl => ?_)
      exact h_90 F _ _ _ H locs ls hm hP hD hS (lv_sub hl [1, 0] rfl)
    have h_56 : ∀ (n_56 : Nat) (c_next : Nat → Int32) (c_codes : Nat → Int32) (x1 : Int32) (x2 : Int32) (H : Heap) (locs : List Loc) (ls : Array Slot), (mW4 (Code_assign_56 F (Code_assign_88 F n_lengths n_codes c_lengths)) n_56) c_next c_codes x1 x2 = some res → va_P E.1 vwCl (Code_assign_w E a_this a_next a_lengths a_codes n_lengths n_codes c_lengths c_next c_codes) H → va_D A (Code_assign_w E a_this a_next a_lengths a_codes n_lengths n_codes c_lengths c_next c_codes) → va_S A s.heap H locs → lv_has ls 4 [(0, .ref a_this), (1, .int x1), (2, .int x2)] → W p l e Code_assign_rm s m args below meth c H locs 0 0 Q (F0 m 56 ls []) := by
      intro n_56
      induction n_56 with
      | zero => exact fun _ _ _ _ _ _ _ hm _ _ _ _ => (mW4_z hm).elim
      | succ n_56 ih_56 =>
        intro c_next c_codes x1 x2 H locs ls hm hP hD hS hl
        replace hm := mW4_s hm
        rw [Code_assign_56] at hm
        refine lv_iload_n hx hb d_Code_assign_56 rfl (lv_at hl 2 rfl) ?_
        refine lv_bipush (v := 15) hx hb d_Code_assign_57 (by decide) ?_
        refine lv_icmp_gt (tgt := 88) hx hb d_Code_assign_59 (by decide) (fun c59 => ?_) (fun c59 => ?_)
        · replace hm := mC_t hm c59
          exact h_88 _ _ H locs ls hm hP hD hS (lv_sub hl [0] rfl)
        · replace hm := mC_f hm c59
          refine lv_aload_n hx hb d_Code_assign_62 rfl (lv_at hl 0 rfl) ?_
          refine va_get (D := E.1) (ci := 3) (v := .ref a_next) (C := R_Code) (T := F_Code) (N := 3) hx hb hts i_Code hown hK hP 0 rfl rfl 2 (by decide) (hts _ tw_194) (fun _ h9 => h9) rfl d_Code_assign_63 ?_
          refine lv_iload_n hx hb d_Code_assign_66 rfl (lv_at hl 2 rfl) ?_
          obtain ⟨hi67, hm⟩ := mG_e hm
          refine va_iald hx hb hK hP 1 0 rfl rfl hi67 d_Code_assign_67 ?_
          refine lv_topi (fun y3_8 ey3_8 => ?_)
          replace hm := mL_e hm y3_8 ey3_8
          refine lv_istore_n (lv' := [(3, .int y3_8), (0, .ref a_this), (1, .int x1), (2, .int x2)]) hx hb d_Code_assign_68 rfl hl (by decide) rfl (fun ls hl => ?_)
          refine lv_aload_n hx hb d_Code_assign_69 rfl (lv_at hl 1 rfl) ?_
          refine va_get (D := E.1) (ci := 3) (v := .ref a_next) (C := R_Code) (T := F_Code) (N := 3) hx hb hts i_Code hown hK hP 0 rfl rfl 2 (by decide) (hts _ tw_194) (fun _ h9 => h9) rfl d_Code_assign_70 ?_
          refine lv_iload_n hx hb d_Code_assign_73 rfl (lv_at hl 3 rfl) ?_
          refine lv_iload_n hx hb d_Code_assign_74 rfl (lv_at hl 2 rfl) ?_
          obtain ⟨hi75, hm⟩ := mG_e hm
          obtain ⟨c_9, ec_9⟩ : ∃ z : Nat → Int32, z = upd c_next x2.toNatClampNeg x1 := ⟨_, rfl⟩
          replace hm := mL_e hm c_9 ec_9
          refine va_iast hx hb hK hP hD hS 1 0 rfl rfl hi75 d_Code_assign_75 (fun H locs hP hD hS => ?_)
          rw [← ec_9] at hP hD
          replace hP : va_P E.1 vwCl (Code_assign_w E a_this a_next a_lengths a_codes n_lengths n_codes c_lengths c_9 c_codes) H := hP
          replace hD : va_D A (Code_assign_w E a_this a_next a_lengths a_codes n_lengths n_codes c_lengths c_9 c_codes) := hD
          refine lv_iload_n hx hb d_Code_assign_76 rfl (lv_at hl 2 rfl) ?_
          refine lv_iload_n hx hb d_Code_assign_77 rfl (lv_at hl 0 rfl) ?_
          refine lv_iadd hx hb d_Code_assign_78 ?_
          refine lv_iconst (v := 1) hx hb d_Code_assign_79 (by decide) ?_
          refine lv_ishl hx hb d_Code_assign_80 ?_
          refine lv_topi (fun y1_10 ey1_10 => ?_)
          replace hm := mL_e hm y1_10 ey1_10
          refine lv_istore_n (lv' := [(1, .int y1_10), (3, .int y3_8), (0, .ref a_this), (2, .int x2)]) hx hb d_Code_assign_81 rfl hl (by decide) rfl (fun ls hl => ?_)
          obtain ⟨y2_11, ey2_11⟩ : ∃ y : Int32, y = x2 + 1 := ⟨_, rfl⟩
          replace hm := mL_e hm y2_11 ey2_11
          refine lv_iinc (v := y2_11) (lv' := [(2, .int y2_11), (1, .int y1_10), (3, .int y3_8), (0, .ref a_this)]) hx hb d_Code_assign_82 hl (k := 3) rfl (by rw [ey2_11]; rfl) (by decide) rfl (fun ls hl => ?_)
          refine lv_goto (tgt := 56) hx hb d_Code_assign_85 (by decide) ?_
          exact ih_56 _ _ _ _ H locs ls hm hP hD hS (lv_sub hl [3, 1, 0] rfl)
    refine lv_iconst (v := 0) hx hb d_Code_assign_52 (by decide) ?_
    refine lv_istore_n (lv' := [(1, .int 0), (0, .ref a_this)]) hx hb d_Code_assign_53 rfl hl (by decide) rfl (fun ls hl => ?_)
    refine lv_iconst (v := 1) hx hb d_Code_assign_54 (by decide) ?_
    refine lv_istore_n (lv' := [(2, .int 1), (1, .int 0), (0, .ref a_this)]) hx hb d_Code_assign_55 rfl hl (by decide) rfl (fun ls hl => ?_)
    exact h_56 F _ _ _ _ H locs ls hm hP hD hS (lv_sub hl [2, 1, 0] rfl)
  have h_10 : ∀ (n_10 : Nat) (c_next : Nat → Int32) (c_codes : Nat → Int32) (x1 : Int32) (H : Heap) (locs : List Loc) (ls : Array Slot), (mW3 (Code_assign_10 F n_lengths c_lengths (Code_assign_52 F n_lengths n_codes c_lengths)) n_10) c_next c_codes x1 = some res → va_P E.1 vwCl (Code_assign_w E a_this a_next a_lengths a_codes n_lengths n_codes c_lengths c_next c_codes) H → va_D A (Code_assign_w E a_this a_next a_lengths a_codes n_lengths n_codes c_lengths c_next c_codes) → va_S A s.heap H locs → lv_has ls 4 [(0, .ref a_this), (1, .int x1)] → W p l e Code_assign_rm s m args below meth c H locs 0 0 Q (F0 m 10 ls []) := by
    intro n_10
    induction n_10 with
    | zero => exact fun _ _ _ _ _ _ hm _ _ _ _ => (mW3_z hm).elim
    | succ n_10 ih_10 =>
      intro c_next c_codes x1 H locs ls hm hP hD hS hl
      replace hm := mW3_s hm
      rw [Code_assign_10] at hm
      refine lv_iload_n hx hb d_Code_assign_10 rfl (lv_at hl 1 rfl) ?_
      refine lv_aload_n hx hb d_Code_assign_11 rfl (lv_at hl 0 rfl) ?_
      refine va_get (D := E.1) (ci := 3) (v := .ref a_lengths) (C := R_Code) (T := F_Code) (N := 3) hx hb hts i_Code hown hK hP 0 rfl rfl 0 (by decide) (hts _ tw_190) (fun _ h9 => h9) rfl d_Code_assign_12 ?_
      refine va_alen (v := nI n_lengths) hx hb hK hP 2 0 rfl rfl rfl d_Code_assign_15 ?_
      refine lv_icmp_ge (tgt := 52) hx hb d_Code_assign_16 (by decide) (fun c16 => ?_) (fun c16 => ?_)
      · replace hm := mC_t hm c16
        exact h_52 _ _ H locs ls hm hP hD hS (lv_sub hl [0] rfl)
      · replace hm := mC_f hm c16
        have h_46 : ∀ (c_next : Nat → Int32) (c_codes : Nat → Int32) (x1 : Int32) (H : Heap) (locs : List Loc) (ls : Array Slot), (Code_assign_46 F (mW3 (Code_assign_10 F n_lengths c_lengths (Code_assign_52 F n_lengths n_codes c_lengths)) n_10)) c_next c_codes x1 = some res → va_P E.1 vwCl (Code_assign_w E a_this a_next a_lengths a_codes n_lengths n_codes c_lengths c_next c_codes) H → va_D A (Code_assign_w E a_this a_next a_lengths a_codes n_lengths n_codes c_lengths c_next c_codes) → va_S A s.heap H locs → lv_has ls 4 [(0, .ref a_this), (1, .int x1)] → W p l e Code_assign_rm s m args below meth c H locs 0 0 Q (F0 m 46 ls []) := by
          intro c_next c_codes x1 H locs ls hm hP hD hS hl
          rw [Code_assign_46] at hm
          obtain ⟨y1_12, ey1_12⟩ : ∃ y : Int32, y = x1 + 1 := ⟨_, rfl⟩
          replace hm := mL_e hm y1_12 ey1_12
          refine lv_iinc (v := y1_12) (lv' := [(1, .int y1_12), (0, .ref a_this)]) hx hb d_Code_assign_46 hl (k := 1) rfl (by rw [ey1_12]; rfl) (by decide) rfl (fun ls hl => ?_)
          refine lv_goto (tgt := 10) hx hb d_Code_assign_49 (by decide) ?_
          exact ih_10 _ _ _ H locs ls hm hP hD hS (lv_sub hl [1, 0] rfl)
        refine lv_aload_n hx hb d_Code_assign_19 rfl (lv_at hl 0 rfl) ?_
        refine va_get (D := E.1) (ci := 3) (v := .ref a_lengths) (C := R_Code) (T := F_Code) (N := 3) hx hb hts i_Code hown hK hP 0 rfl rfl 0 (by decide) (hts _ tw_190) (fun _ h9 => h9) rfl d_Code_assign_20 ?_
        refine lv_iload_n hx hb d_Code_assign_23 rfl (lv_at hl 1 rfl) ?_
        obtain ⟨hi24, hm⟩ := mG_e hm
        refine va_iald hx hb hK hP 2 0 rfl rfl hi24 d_Code_assign_24 ?_
        refine lv_topi (fun y2_13 ey2_13 => ?_)
        replace hm := mL_e hm y2_13 ey2_13
        refine lv_istore_n (lv' := [(2, .int y2_13), (0, .ref a_this), (1, .int x1)]) hx hb d_Code_assign_25 rfl hl (by decide) rfl (fun ls hl => ?_)
        refine lv_iload_n hx hb d_Code_assign_26 rfl (lv_at hl 0 rfl) ?_
        refine lv_if_le (tgt := 46) hx hb d_Code_assign_27 (by decide) (fun c27 => ?_) (fun c27 => ?_)
        · replace hm := mC_t hm c27
          exact h_46 _ _ _ H locs ls hm hP hD hS (lv_sub hl [1, 2] rfl)
        · replace hm := mC_f hm c27
          refine lv_iload_n hx hb d_Code_assign_30 rfl (lv_at hl 0 rfl) ?_
          refine lv_bipush (v := 15) hx hb d_Code_assign_31 (by decide) ?_
          refine lv_icmp_gt (tgt := 46) hx hb d_Code_assign_33 (by decide) (fun c33 => ?_) (fun c33 => ?_)
          · replace hm := mC_t hm c33
            exact h_46 _ _ _ H locs ls hm hP hD hS (lv_sub hl [1, 2] rfl)
          · replace hm := mC_f hm c33
            refine lv_aload_n hx hb d_Code_assign_36 rfl (lv_at hl 1 rfl) ?_
            refine va_get (D := E.1) (ci := 3) (v := .ref a_next) (C := R_Code) (T := F_Code) (N := 3) hx hb hts i_Code hown hK hP 0 rfl rfl 2 (by decide) (hts _ tw_194) (fun _ h9 => h9) rfl d_Code_assign_37 ?_
            refine lv_iload_n hx hb d_Code_assign_40 rfl (lv_at hl 0 rfl) ?_
            refine lv_dup2_11 hx hb d_Code_assign_41 rfl rfl ?_
            obtain ⟨hi42, hm⟩ := mG_e hm
            refine va_iald hx hb hK hP 1 0 rfl rfl hi42 d_Code_assign_42 ?_
            refine lv_iconst (v := 1) hx hb d_Code_assign_43 (by decide) ?_
            refine lv_iadd hx hb d_Code_assign_44 ?_
            refine lv_topi (fun v_14 ev_14 => ?_)
            replace hm := mL_e hm v_14 ev_14
            obtain ⟨hi45, hm⟩ := mG_e hm
            obtain ⟨c_15, ec_15⟩ : ∃ z : Nat → Int32, z = upd c_next y2_13.toNatClampNeg v_14 := ⟨_, rfl⟩
            replace hm := mL_e hm c_15 ec_15
            refine va_iast hx hb hK hP hD hS 1 0 rfl rfl hi45 d_Code_assign_45 (fun H locs hP hD hS => ?_)
            rw [← ec_15] at hP hD
            replace hP : va_P E.1 vwCl (Code_assign_w E a_this a_next a_lengths a_codes n_lengths n_codes c_lengths c_15 c_codes) H := hP
            replace hD : va_D A (Code_assign_w E a_this a_next a_lengths a_codes n_lengths n_codes c_lengths c_15 c_codes) := hD
            exact h_46 _ _ _ H locs ls hm hP hD hS (lv_sub hl [1, 2] rfl)
  refine lv_aload_n hx hb d_Code_assign_0 rfl (lv_at hl 0 rfl) ?_
  refine va_get (D := E.1) (ci := 3) (v := .ref a_next) (C := R_Code) (T := F_Code) (N := 3) hx hb hts i_Code hown hK hP 0 rfl rfl 2 (by decide) (hts _ tw_194) (fun _ h9 => h9) rfl d_Code_assign_1 ?_
  refine lv_iconst (v := 0) hx hb d_Code_assign_4 (by decide) ?_
  obtain ⟨r_17, c_p0_16, hc5, hm⟩ := mR1_e hm
  refine xmv (wc := (Arr_fill_w E a_next 16 c_next)) [false, true, false, false] [0] [0] hP hD hS hA rfl (by decide) (by decide) 1 (by decide) (fun _ => rfl) (fun hPc hDc hFc => va_runS (As := [.ref a_next, .int 0]) (rest := []) ⟨hx, hb, hml, hown, hts⟩ (c_Arr_fill l E F H.size a_next 16 c_next 0 (r_17, c_p0_16) hc5) (va_cwS 2 hts (x_gS tw_245 tw_239 tw_75 tw_240) rfl rfl rfl (by decide +kernel) ⟨Nat.le_of_ble_eq_true rfl, Nat.le_of_ble_eq_true rfl⟩) (xPS hPc hDc hFc hK hI hN hS) rfl rfl hl.1 rfl (lv_room (Nat.le_of_ble_eq_true rfl)) d_Code_assign_5 ⟨Nat.le_of_ble_eq_true rfl, Nat.le_of_ble_eq_true rfl⟩) (fun u9 H locs hw hP hD hS => ?_)
  have hw2 : c_p0_16 = u9 := hw.symm
  subst hw2
  replace hP : va_P E.1 vwCl (Code_assign_w E a_this a_next a_lengths a_codes n_lengths n_codes c_lengths c_p0_16 c_codes) H := hP
  replace hD : va_D A (Code_assign_w E a_this a_next a_lengths a_codes n_lengths n_codes c_lengths c_p0_16 c_codes) := hD
  refine lv_iconst (v := 0) hx hb d_Code_assign_8 (by decide) ?_
  refine lv_istore_n (lv' := [(1, .int 0), (0, .ref a_this)]) hx hb d_Code_assign_9 rfl hl (by decide) rfl (fun ls hl => ?_)
  exact h_10 F _ _ _ H locs ls hm hP hD hS (lv_sub hl [1, 0] rfl)
theorem d_Code_bitsFor_0 : decode b_Code_bitsFor 0 = .ok (.iconst 0, 1) := by decide +kernel
theorem d_Code_bitsFor_1 : decode b_Code_bitsFor 1 = .ok (.istore_n 2, 1) := by decide +kernel
theorem d_Code_bitsFor_2 : decode b_Code_bitsFor 2 = .ok (.iconst 0, 1) := by decide +kernel
theorem d_Code_bitsFor_3 : decode b_Code_bitsFor 3 = .ok (.istore_n 3, 1) := by decide +kernel
theorem d_Code_bitsFor_4 : decode b_Code_bitsFor 4 = .ok (.iload_n 3, 1) := by decide +kernel
theorem d_Code_bitsFor_5 : decode b_Code_bitsFor 5 = .ok (.aload_n 0, 1) := by decide +kernel
theorem d_Code_bitsFor_6 : decode b_Code_bitsFor 6 = .ok (.getfield 15, 3) := by decide +kernel
theorem d_Code_bitsFor_9 : decode b_Code_bitsFor 9 = .ok (.arraylength, 1) := by decide +kernel
theorem d_Code_bitsFor_10 : decode b_Code_bitsFor 10 = .ok (.if_icmp .ge 28, 3) := by decide +kernel
theorem d_Code_bitsFor_13 : decode b_Code_bitsFor 13 = .ok (.iload_n 3, 1) := by decide +kernel
theorem d_Code_bitsFor_14 : decode b_Code_bitsFor 14 = .ok (.aload_n 1, 1) := by decide +kernel
theorem d_Code_bitsFor_15 : decode b_Code_bitsFor 15 = .ok (.arraylength, 1) := by decide +kernel
theorem d_Code_bitsFor_16 : decode b_Code_bitsFor 16 = .ok (.if_icmp .ge 22, 3) := by decide +kernel
theorem d_Code_bitsFor_19 : decode b_Code_bitsFor 19 = .ok (.iload_n 2, 1) := by decide +kernel
theorem d_Code_bitsFor_20 : decode b_Code_bitsFor 20 = .ok (.aload_n 0, 1) := by decide +kernel
theorem d_Code_bitsFor_21 : decode b_Code_bitsFor 21 = .ok (.getfield 15, 3) := by decide +kernel
theorem d_Code_bitsFor_24 : decode b_Code_bitsFor 24 = .ok (.iload_n 3, 1) := by decide +kernel
theorem d_Code_bitsFor_25 : decode b_Code_bitsFor 25 = .ok (.iaload, 1) := by decide +kernel
theorem d_Code_bitsFor_26 : decode b_Code_bitsFor 26 = .ok (.aload_n 1, 1) := by decide +kernel
theorem d_Code_bitsFor_27 : decode b_Code_bitsFor 27 = .ok (.iload_n 3, 1) := by decide +kernel
theorem d_Code_bitsFor_28 : decode b_Code_bitsFor 28 = .ok (.iaload, 1) := by decide +kernel
theorem d_Code_bitsFor_29 : decode b_Code_bitsFor 29 = .ok (.imul, 1) := by decide +kernel
theorem d_Code_bitsFor_30 : decode b_Code_bitsFor 30 = .ok (.iadd, 1) := by decide +kernel
theorem d_Code_bitsFor_31 : decode b_Code_bitsFor 31 = .ok (.istore_n 2, 1) := by decide +kernel
theorem d_Code_bitsFor_32 : decode b_Code_bitsFor 32 = .ok (.iinc 3 1, 3) := by decide +kernel
theorem d_Code_bitsFor_35 : decode b_Code_bitsFor 35 = .ok (.goto (-31), 3) := by decide +kernel
theorem d_Code_bitsFor_38 : decode b_Code_bitsFor 38 = .ok (.iload_n 2, 1) := by decide +kernel
theorem d_Code_bitsFor_39 : decode b_Code_bitsFor 39 = .ok (.ireturn, 1) := by decide +kernel
def Code_bitsFor_4 (F : Nat) (n_lengths : Nat) (n_p1 : Nat) (c_lengths : Nat → Int32) (c_p1 : Nat → Int32) (k_4 : Int32 → Int32 → Option (Int32 × Unit)) (x2 : Int32) (x3 : Int32) : Option (Int32 × Unit) :=
  mC ((nI n_lengths) ≤ x3) (some (x2, ())) (mC ((nI n_p1) ≤ x3) (some (x2, ())) (mG x3 n_lengths (mG x3 n_p1 (mL (x2 + ((c_lengths x3.toNatClampNeg) * (c_p1 x3.toNatClampNeg))) fun y2_1 => mL (x3 + 1) fun y3_2 => k_4 y2_1 y3_2))))
abbrev Code_bitsFor_w (E : xE) (a_this : Nat) (a_lengths : Nat) (a_p1 : Nat) (n_lengths : Nat) (n_p1 : Nat) (x_codes : Value) (x_next : Value) (c_lengths : Nat → Int32) (c_p1 : Nat → Int32) : va_W := [(a_this, .inr (3, [.ref a_lengths, x_codes, x_next])), (a_lengths, .inl (E.2.1, n_lengths, .inl c_lengths)), (a_p1, .inl (E.2.1, n_p1, .inl c_p1))]
def Code_bitsFor (F : Nat) (n_lengths : Nat) (n_p1 : Nat) (c_lengths : Nat → Int32) (c_p1 : Nat → Int32) : Option (Int32 × Unit) :=
  (mW2 (Code_bitsFor_4 F n_lengths n_p1 c_lengths c_p1) F) 0 0
abbrev Code_bitsFor_rm : Room := { frames := 0, cells := 0, slots := 0, locals := 0 }
set_option maxHeartbeats 4000000 in
set_option maxRecDepth 100000 in
theorem c_Code_bitsFor (l : Launch) (E : xE) (F sz : Nat) (a_this : Nat) (a_lengths : Nat) (a_p1 : Nat) (n_lengths : Nat) (n_p1 : Nat) (x_codes : Value) (x_next : Value) (c_lengths : Nat → Int32) (c_p1 : Nat → Int32) (res : Int32 × Unit) (hm : Code_bitsFor F n_lengths n_p1 c_lengths c_p1 = some res) : Met l y_Code_bitsFor (Cond.code y_Code_bitsFor b_Code_bitsFor 4 (some .int) :: x_tb) Code_bitsFor_rm (va_Pc [.ref a_this, .ref a_p1] (xPre E (Code_bitsFor_w E a_this a_lengths a_p1 n_lengths n_p1 x_codes x_next c_lengths c_p1) sz)) (xQi E (fun (r : Int32) (u : Unit) => r = res.1 ∧ u = res.2) (fun (u : Unit) => (Code_bitsFor_w E a_this a_lengths a_p1 n_lengths n_p1 x_codes x_next c_lengths c_p1)) (va_A (Code_bitsFor_w E a_this a_lengths a_p1 n_lengths n_p1 x_codes x_next c_lengths c_p1) sz)) 0 0 (va_A (Code_bitsFor_w E a_this a_lengths a_p1 n_lengths n_p1 x_codes x_next c_lengths c_p1) sz) := by
  refine xEnI (by decide) (Nat.le_of_ble_eq_true rfl) ?_
  intro p e s m args below meth c A ls Q hx hb hnm hts hown hml hK hA hI hN hret hP hD hS hl
  replace hown : s.vm.findClass R_Code = some m.cls := hown
  replace hl : lv_has ls 4 [(0, .ref a_this), (1, .ref a_p1)] := hl
  obtain ⟨H, eH⟩ : ∃ z, z = s.heap := ⟨_, rfl⟩
  obtain ⟨locs, eL⟩ : ∃ z : List Loc, z = [] := ⟨_, rfl⟩
  rw [show W p l e Code_bitsFor_rm s m args below meth c s.heap [] 0 0 Q (F0 m 0 ls []) = W p l e Code_bitsFor_rm s m args below meth c H locs 0 0 Q (F0 m 0 ls []) by rw [eH, eL]]
  replace hP : va_P E.1 vwCl (Code_bitsFor_w E a_this a_lengths a_p1 n_lengths n_p1 x_codes x_next c_lengths c_p1) H := by rw [eH]; exact hP
  replace hS : va_S A s.heap H locs := by rw [eH, eL]; exact hS
  clear eH eL
  rw [Code_bitsFor] at hm
  have h_4 : ∀ (n_4 : Nat) (x2 : Int32) (x3 : Int32) (H : Heap) (locs : List Loc) (ls : Array Slot), (mW2 (Code_bitsFor_4 F n_lengths n_p1 c_lengths c_p1) n_4) x2 x3 = some res → va_P E.1 vwCl (Code_bitsFor_w E a_this a_lengths a_p1 n_lengths n_p1 x_codes x_next c_lengths c_p1) H → va_D A (Code_bitsFor_w E a_this a_lengths a_p1 n_lengths n_p1 x_codes x_next c_lengths c_p1) → va_S A s.heap H locs → lv_has ls 4 [(0, .ref a_this), (1, .ref a_p1), (2, .int x2), (3, .int x3)] → W p l e Code_bitsFor_rm s m args below meth c H locs 0 0 Q (F0 m 4 ls []) := by
    intro n_4
    induction n_4 with
    | zero => exact fun _ _ _ _ _ hm _ _ _ _ => (mW2_z hm).elim
    | succ n_4 ih_4 =>
      intro x2 x3 H locs ls hm hP hD hS hl
      replace hm := mW2_s hm
      rw [Code_bitsFor_4] at hm
      refine lv_iload_n hx hb d_Code_bitsFor_4 rfl (lv_at hl 3 rfl) ?_
      refine lv_aload_n hx hb d_Code_bitsFor_5 rfl (lv_at hl 0 rfl) ?_
      refine va_get (D := E.1) (ci := 3) (v := .ref a_lengths) (C := R_Code) (T := F_Code) (N := 3) hx hb hts i_Code hown hK hP 0 rfl rfl 0 (by decide) (hts _ tw_190) (fun _ h9 => h9) rfl d_Code_bitsFor_6 ?_
      refine va_alen (v := nI n_lengths) hx hb hK hP 1 0 rfl rfl rfl d_Code_bitsFor_9 ?_
      refine lv_icmp_ge (tgt := 38) hx hb d_Code_bitsFor_10 (by decide) (fun c10 => ?_) (fun c10 => ?_)
      · replace hm := mC_t hm c10
        refine lv_iload_n hx hb d_Code_bitsFor_38 rfl (lv_at hl 2 rfl) ?_
        replace hm := Option.some.inj hm
        subst hm
        exact hret d_Code_bitsFor_39 (u := ()) ⟨rfl, rfl⟩ hP hD hS
      · replace hm := mC_f hm c10
        refine lv_iload_n hx hb d_Code_bitsFor_13 rfl (lv_at hl 3 rfl) ?_
        refine lv_aload_n hx hb d_Code_bitsFor_14 rfl (lv_at hl 1 rfl) ?_
        refine va_alen (v := nI n_p1) hx hb hK hP 2 0 rfl rfl rfl d_Code_bitsFor_15 ?_
        refine lv_icmp_ge (tgt := 38) hx hb d_Code_bitsFor_16 (by decide) (fun c16 => ?_) (fun c16 => ?_)
        · replace hm := mC_t hm c16
          refine lv_iload_n hx hb d_Code_bitsFor_38 rfl (lv_at hl 2 rfl) ?_
          replace hm := Option.some.inj hm
          subst hm
          exact hret d_Code_bitsFor_39 (u := ()) ⟨rfl, rfl⟩ hP hD hS
        · replace hm := mC_f hm c16
          refine lv_iload_n hx hb d_Code_bitsFor_19 rfl (lv_at hl 2 rfl) ?_
          refine lv_aload_n hx hb d_Code_bitsFor_20 rfl (lv_at hl 0 rfl) ?_
          refine va_get (D := E.1) (ci := 3) (v := .ref a_lengths) (C := R_Code) (T := F_Code) (N := 3) hx hb hts i_Code hown hK hP 0 rfl rfl 0 (by decide) (hts _ tw_190) (fun _ h9 => h9) rfl d_Code_bitsFor_21 ?_
          refine lv_iload_n hx hb d_Code_bitsFor_24 rfl (lv_at hl 3 rfl) ?_
          obtain ⟨hi25, hm⟩ := mG_e hm
          refine va_iald hx hb hK hP 1 0 rfl rfl hi25 d_Code_bitsFor_25 ?_
          refine lv_aload_n hx hb d_Code_bitsFor_26 rfl (lv_at hl 1 rfl) ?_
          refine lv_iload_n hx hb d_Code_bitsFor_27 rfl (lv_at hl 3 rfl) ?_
          obtain ⟨hi28, hm⟩ := mG_e hm
          refine va_iald hx hb hK hP 2 0 rfl rfl hi28 d_Code_bitsFor_28 ?_
          refine lv_imul hx hb d_Code_bitsFor_29 ?_
          refine lv_iadd hx hb d_Code_bitsFor_30 ?_
          refine lv_topi (fun y2_1 ey2_1 => ?_)
          replace hm := mL_e hm y2_1 ey2_1
          refine lv_istore_n (lv' := [(2, .int y2_1), (0, .ref a_this), (1, .ref a_p1), (3, .int x3)]) hx hb d_Code_bitsFor_31 rfl hl (by decide) rfl (fun ls hl => ?_)
          obtain ⟨y3_2, ey3_2⟩ : ∃ y : Int32, y = x3 + 1 := ⟨_, rfl⟩
          replace hm := mL_e hm y3_2 ey3_2
          refine lv_iinc (v := y3_2) (lv' := [(3, .int y3_2), (2, .int y2_1), (0, .ref a_this), (1, .ref a_p1)]) hx hb d_Code_bitsFor_32 hl (k := 3) rfl (by rw [ey3_2]; rfl) (by decide) rfl (fun ls hl => ?_)
          refine lv_goto (tgt := 4) hx hb d_Code_bitsFor_35 (by decide) ?_
          exact ih_4 _ _ H locs ls hm hP hD hS (lv_sub hl [2, 3, 1, 0] rfl)
  refine lv_iconst (v := 0) hx hb d_Code_bitsFor_0 (by decide) ?_
  refine lv_istore_n (lv' := [(2, .int 0), (0, .ref a_this), (1, .ref a_p1)]) hx hb d_Code_bitsFor_1 rfl hl (by decide) rfl (fun ls hl => ?_)
  refine lv_iconst (v := 0) hx hb d_Code_bitsFor_2 (by decide) ?_
  refine lv_istore_n (lv' := [(3, .int 0), (2, .int 0), (0, .ref a_this), (1, .ref a_p1)]) hx hb d_Code_bitsFor_3 rfl hl (by decide) rfl (fun ls hl => ?_)
  exact h_4 F _ _ H locs ls hm hP hD hS (lv_sub hl [2, 3, 1, 0] rfl)
theorem d_Code_write_0 : decode b_Code_write 0 = .ok (.iload_n 2, 1) := by decide +kernel
theorem d_Code_write_1 : decode b_Code_write 1 = .ok (.ifCond .lt 37, 3) := by decide +kernel
theorem d_Code_write_4 : decode b_Code_write 4 = .ok (.iload_n 2, 1) := by decide +kernel
theorem d_Code_write_5 : decode b_Code_write 5 = .ok (.aload_n 0, 1) := by decide +kernel
theorem d_Code_write_6 : decode b_Code_write 6 = .ok (.getfield 15, 3) := by decide +kernel
theorem d_Code_write_9 : decode b_Code_write 9 = .ok (.arraylength, 1) := by decide +kernel
theorem d_Code_write_10 : decode b_Code_write 10 = .ok (.if_icmp .ge 28, 3) := by decide +kernel
theorem d_Code_write_13 : decode b_Code_write 13 = .ok (.iload_n 2, 1) := by decide +kernel
theorem d_Code_write_14 : decode b_Code_write 14 = .ok (.aload_n 0, 1) := by decide +kernel
theorem d_Code_write_15 : decode b_Code_write 15 = .ok (.getfield 21, 3) := by decide +kernel
theorem d_Code_write_18 : decode b_Code_write 18 = .ok (.arraylength, 1) := by decide +kernel
theorem d_Code_write_19 : decode b_Code_write 19 = .ok (.if_icmp .ge 19, 3) := by decide +kernel
theorem d_Code_write_22 : decode b_Code_write 22 = .ok (.aload_n 1, 1) := by decide +kernel
theorem d_Code_write_23 : decode b_Code_write 23 = .ok (.aload_n 0, 1) := by decide +kernel
theorem d_Code_write_24 : decode b_Code_write 24 = .ok (.getfield 21, 3) := by decide +kernel
theorem d_Code_write_27 : decode b_Code_write 27 = .ok (.iload_n 2, 1) := by decide +kernel
theorem d_Code_write_28 : decode b_Code_write 28 = .ok (.iaload, 1) := by decide +kernel
theorem d_Code_write_29 : decode b_Code_write 29 = .ok (.aload_n 0, 1) := by decide +kernel
theorem d_Code_write_30 : decode b_Code_write 30 = .ok (.getfield 15, 3) := by decide +kernel
theorem d_Code_write_33 : decode b_Code_write 33 = .ok (.iload_n 2, 1) := by decide +kernel
theorem d_Code_write_34 : decode b_Code_write 34 = .ok (.iaload, 1) := by decide +kernel
theorem d_Code_write_35 : decode b_Code_write 35 = .ok (.invokevirtual 36, 3) := by decide +kernel
theorem d_Code_write_38 : decode b_Code_write 38 = .ok (.return_, 1) := by decide +kernel
abbrev Code_write_w (E : xE) (a_this : Nat) (a_lengths : Nat) (a_codes : Nat) (a_p1 : Nat) (a_p1_data : Nat) (n_lengths : Nat) (n_codes : Nat) (x_next : Value) (c_lengths : Nat → Int32) (c_codes : Nat → Int32) (v_p1_length : Int32) (v_p1_open : Int32) (v_p1_openCount : Int32) (c_p1_data : Nat → Int32) : va_W := [(a_this, .inr (3, [.ref a_lengths, .ref a_codes, x_next])), (a_lengths, .inl (E.2.1, n_lengths, .inl c_lengths)), (a_codes, .inl (E.2.1, n_codes, .inl c_codes)), (a_p1, .inr (1, [.ref a_p1_data, .int v_p1_length, .int v_p1_open, .int v_p1_openCount])), (a_p1_data, .inl (E.2.2.1, 8256, .inl c_p1_data))]
def Code_write (F : Nat) (n_lengths : Nat) (n_codes : Nat) (c_lengths : Nat → Int32) (c_codes : Nat → Int32) (v_p1_length : Int32) (v_p1_open : Int32) (v_p1_openCount : Int32) (c_p1_data : Nat → Int32) (x2 : Int32) : Option (Unit × Int32 × Int32 × Int32 × (Nat → Int32)) :=
  mC (x2 < 0) (some ((), v_p1_length, v_p1_open, v_p1_openCount, c_p1_data)) (mC ((nI n_lengths) ≤ x2) (some ((), v_p1_length, v_p1_open, v_p1_openCount, c_p1_data)) (mC ((nI n_codes) ≤ x2) (some ((), v_p1_length, v_p1_open, v_p1_openCount, c_p1_data)) (mG x2 n_codes (mG x2 n_lengths (mL (c_lengths x2.toNatClampNeg) fun t_1 => mL (c_codes x2.toNatClampNeg) fun t_2 => mR4 (BitWriter_number F v_p1_length v_p1_open v_p1_openCount c_p1_data t_2 t_1) fun _ v_length_3 v_open_4 v_openCount_5 c_data_6 => some ((), v_length_3, v_open_4, v_openCount_5, c_data_6))))))
abbrev Code_write_rm : Room := { frames := 1, cells := 0, slots := 0, locals := 22 }
set_option maxHeartbeats 4000000 in
set_option maxRecDepth 100000 in
theorem c_Code_write (l : Launch) (E : xE) (F sz : Nat) (a_this : Nat) (a_lengths : Nat) (a_codes : Nat) (a_p1 : Nat) (a_p1_data : Nat) (n_lengths : Nat) (n_codes : Nat) (x_next : Value) (c_lengths : Nat → Int32) (c_codes : Nat → Int32) (v_p1_length : Int32) (v_p1_open : Int32) (v_p1_openCount : Int32) (c_p1_data : Nat → Int32) (x2 : Int32) (res : Unit × Int32 × Int32 × Int32 × (Nat → Int32)) (hm : Code_write F n_lengths n_codes c_lengths c_codes v_p1_length v_p1_open v_p1_openCount c_p1_data x2 = some res) : Met l y_Code_write (Cond.code y_Code_write b_Code_write 3 none :: x_tb) Code_write_rm (va_Pc [.ref a_this, .ref a_p1, .int x2] (xPre E (Code_write_w E a_this a_lengths a_codes a_p1 a_p1_data n_lengths n_codes x_next c_lengths c_codes v_p1_length v_p1_open v_p1_openCount c_p1_data) sz)) (xQv E (fun (u : Int32 × Int32 × Int32 × (Nat → Int32)) => u = res.2) (fun (u : Int32 × Int32 × Int32 × (Nat → Int32)) => (Code_write_w E a_this a_lengths a_codes a_p1 a_p1_data n_lengths n_codes x_next c_lengths c_codes u.1 u.2.1 u.2.2.1 u.2.2.2)) (va_A (Code_write_w E a_this a_lengths a_codes a_p1 a_p1_data n_lengths n_codes x_next c_lengths c_codes v_p1_length v_p1_open v_p1_openCount c_p1_data) sz)) 0 0 (va_A (Code_write_w E a_this a_lengths a_codes a_p1 a_p1_data n_lengths n_codes x_next c_lengths c_codes v_p1_length v_p1_open v_p1_openCount c_p1_data) sz) := by
  refine xEnV (by decide) (Nat.le_of_ble_eq_true rfl) ?_
  intro p e s m args below meth c A ls Q hx hb hnm hts hown hml hK hA hI hN hret hP hD hS hl
  replace hown : s.vm.findClass R_Code = some m.cls := hown
  replace hl : lv_has ls 3 [(0, .ref a_this), (1, .ref a_p1), (2, .int x2)] := hl
  obtain ⟨H, eH⟩ : ∃ z, z = s.heap := ⟨_, rfl⟩
  obtain ⟨locs, eL⟩ : ∃ z : List Loc, z = [] := ⟨_, rfl⟩
  rw [show W p l e Code_write_rm s m args below meth c s.heap [] 0 0 Q (F0 m 0 ls []) = W p l e Code_write_rm s m args below meth c H locs 0 0 Q (F0 m 0 ls []) by rw [eH, eL]]
  replace hP : va_P E.1 vwCl (Code_write_w E a_this a_lengths a_codes a_p1 a_p1_data n_lengths n_codes x_next c_lengths c_codes v_p1_length v_p1_open v_p1_openCount c_p1_data) H := by rw [eH]; exact hP
  replace hS : va_S A s.heap H locs := by rw [eH, eL]; exact hS
  clear eH eL
  rw [Code_write] at hm
  refine lv_iload_n hx hb d_Code_write_0 rfl (lv_at hl 2 rfl) ?_
  refine lv_if_lt (tgt := 38) hx hb d_Code_write_1 (by decide) (fun c1 => ?_) (fun c1 => ?_)
  · replace hm := mC_t hm c1
    replace hm := Option.some.inj hm
    subst hm
    exact hret d_Code_write_38 (u := (v_p1_length, v_p1_open, v_p1_openCount, c_p1_data)) rfl hP hD hS
  · replace hm := mC_f hm c1
    refine lv_iload_n hx hb d_Code_write_4 rfl (lv_at hl 2 rfl) ?_
    refine lv_aload_n hx hb d_Code_write_5 rfl (lv_at hl 0 rfl) ?_
    refine va_get (D := E.1) (ci := 3) (v := .ref a_lengths) (C := R_Code) (T := F_Code) (N := 3) hx hb hts i_Code hown hK hP 0 rfl rfl 0 (by decide) (hts _ tw_190) (fun _ h9 => h9) rfl d_Code_write_6 ?_
    refine va_alen (v := nI n_lengths) hx hb hK hP 1 0 rfl rfl rfl d_Code_write_9 ?_
    refine lv_icmp_ge (tgt := 38) hx hb d_Code_write_10 (by decide) (fun c10 => ?_) (fun c10 => ?_)
    · replace hm := mC_t hm c10
      replace hm := Option.some.inj hm
      subst hm
      exact hret d_Code_write_38 (u := (v_p1_length, v_p1_open, v_p1_openCount, c_p1_data)) rfl hP hD hS
    · replace hm := mC_f hm c10
      refine lv_iload_n hx hb d_Code_write_13 rfl (lv_at hl 2 rfl) ?_
      refine lv_aload_n hx hb d_Code_write_14 rfl (lv_at hl 0 rfl) ?_
      refine va_get (D := E.1) (ci := 3) (v := .ref a_codes) (C := R_Code) (T := F_Code) (N := 3) hx hb hts i_Code hown hK hP 0 rfl rfl 1 (by decide) (hts _ tw_193) (fun _ h9 => h9) rfl d_Code_write_15 ?_
      refine va_alen (v := nI n_codes) hx hb hK hP 2 0 rfl rfl rfl d_Code_write_18 ?_
      refine lv_icmp_ge (tgt := 38) hx hb d_Code_write_19 (by decide) (fun c19 => ?_) (fun c19 => ?_)
      · replace hm := mC_t hm c19
        replace hm := Option.some.inj hm
        subst hm
        exact hret d_Code_write_38 (u := (v_p1_length, v_p1_open, v_p1_openCount, c_p1_data)) rfl hP hD hS
      · replace hm := mC_f hm c19
        refine lv_aload_n hx hb d_Code_write_22 rfl (lv_at hl 1 rfl) ?_
        refine lv_aload_n hx hb d_Code_write_23 rfl (lv_at hl 0 rfl) ?_
        refine va_get (D := E.1) (ci := 3) (v := .ref a_codes) (C := R_Code) (T := F_Code) (N := 3) hx hb hts i_Code hown hK hP 0 rfl rfl 1 (by decide) (hts _ tw_193) (fun _ h9 => h9) rfl d_Code_write_24 ?_
        refine lv_iload_n hx hb d_Code_write_27 rfl (lv_at hl 2 rfl) ?_
        obtain ⟨hi28, hm⟩ := mG_e hm
        refine va_iald hx hb hK hP 2 0 rfl rfl hi28 d_Code_write_28 ?_
        refine lv_aload_n hx hb d_Code_write_29 rfl (lv_at hl 0 rfl) ?_
        refine va_get (D := E.1) (ci := 3) (v := .ref a_lengths) (C := R_Code) (T := F_Code) (N := 3) hx hb hts i_Code hown hK hP 0 rfl rfl 0 (by decide) (hts _ tw_190) (fun _ h9 => h9) rfl d_Code_write_30 ?_
        refine lv_iload_n hx hb d_Code_write_33 rfl (lv_at hl 2 rfl) ?_
        obtain ⟨hi34, hm⟩ := mG_e hm
        refine va_iald hx hb hK hP 1 0 rfl rfl hi34 d_Code_write_34 ?_
        obtain ⟨t_1, et_1⟩ : ∃ z : Int32, z = c_lengths x2.toNatClampNeg := ⟨_, rfl⟩
        rw [← et_1]
        replace hm := mL_e hm t_1 et_1
        obtain ⟨t_2, et_2⟩ : ∃ z : Int32, z = c_codes x2.toNatClampNeg := ⟨_, rfl⟩
        rw [← et_2]
        replace hm := mL_e hm t_2 et_2
        obtain ⟨r_7, v_length_3, v_open_4, v_openCount_5, c_data_6, hc35, hm⟩ := mR4_e hm
        refine xmv (wc := (BitWriter_number_w E a_p1 a_p1_data v_p1_length v_p1_open v_p1_openCount c_p1_data)) [false, false, false, true, true] [0, 1] [0, 1] hP hD hS hA rfl (by decide) (by decide) 2 (by decide) (fun _ => rfl) (fun hPc hDc hFc => va_runV (As := [.int t_2, .int t_1]) (rest := []) ⟨hx, hb, hml, hown, hts⟩ (c_BitWriter_number l E F H.size a_p1 a_p1_data v_p1_length v_p1_open v_p1_openCount c_p1_data t_2 t_1 (r_7, v_length_3, v_open_4, v_openCount_5, c_data_6) hc35) (cwV 2 hts (x_gV tw_594 tw_453 tw_454 tw_70 tw_455) rfl rfl rfl (by decide +kernel) ⟨Nat.le_of_ble_eq_true rfl, Nat.le_of_ble_eq_true rfl⟩) (xPV 1 0 rfl rfl hPc hDc hFc hK hI hN hS) rfl rfl hl.1 rfl (lv_room (Nat.le_of_ble_eq_true rfl)) d_Code_write_35 ⟨Nat.le_of_ble_eq_true rfl, Nat.le_of_ble_eq_true rfl⟩) (fun u9 H locs hw hP hD hS => ?_)
        have hw2 : (v_length_3, v_open_4, v_openCount_5, c_data_6) = u9 := hw.symm
        subst hw2
        replace hP : va_P E.1 vwCl (Code_write_w E a_this a_lengths a_codes a_p1 a_p1_data n_lengths n_codes x_next c_lengths c_codes v_length_3 v_open_4 v_openCount_5 c_data_6) H := hP
        replace hD : va_D A (Code_write_w E a_this a_lengths a_codes a_p1 a_p1_data n_lengths n_codes x_next c_lengths c_codes v_length_3 v_open_4 v_openCount_5 c_data_6) := hD
        replace hm := Option.some.inj hm
        subst hm
        exact hret d_Code_write_38 (u := (v_length_3, v_open_4, v_openCount_5, c_data_6)) rfl hP hD hS
theorem d_Code_used_0 : decode b_Code_used 0 = .ok (.aload_n 0, 1) := by decide +kernel
theorem d_Code_used_1 : decode b_Code_used 1 = .ok (.getfield 15, 3) := by decide +kernel
theorem d_Code_used_4 : decode b_Code_used 4 = .ok (.arraylength, 1) := by decide +kernel
theorem d_Code_used_5 : decode b_Code_used 5 = .ok (.istore_n 1, 1) := by decide +kernel
theorem d_Code_used_6 : decode b_Code_used 6 = .ok (.iload_n 1, 1) := by decide +kernel
theorem d_Code_used_7 : decode b_Code_used 7 = .ok (.ifCond .le 20, 3) := by decide +kernel
theorem d_Code_used_10 : decode b_Code_used 10 = .ok (.aload_n 0, 1) := by decide +kernel
theorem d_Code_used_11 : decode b_Code_used 11 = .ok (.getfield 15, 3) := by decide +kernel
theorem d_Code_used_14 : decode b_Code_used 14 = .ok (.iload_n 1, 1) := by decide +kernel
theorem d_Code_used_15 : decode b_Code_used 15 = .ok (.iconst 1, 1) := by decide +kernel
theorem d_Code_used_16 : decode b_Code_used 16 = .ok (.isub, 1) := by decide +kernel
theorem d_Code_used_17 : decode b_Code_used 17 = .ok (.iaload, 1) := by decide +kernel
theorem d_Code_used_18 : decode b_Code_used 18 = .ok (.ifCond .ne 9, 3) := by decide +kernel
theorem d_Code_used_21 : decode b_Code_used 21 = .ok (.iinc 1 (-1), 3) := by decide +kernel
theorem d_Code_used_24 : decode b_Code_used 24 = .ok (.goto (-18), 3) := by decide +kernel
theorem d_Code_used_27 : decode b_Code_used 27 = .ok (.iload_n 1, 1) := by decide +kernel
theorem d_Code_used_28 : decode b_Code_used 28 = .ok (.ireturn, 1) := by decide +kernel
def Code_used_6 (F : Nat) (n_lengths : Nat) (c_lengths : Nat → Int32) (k_6 : Int32 → Option (Int32 × Unit)) (x1 : Int32) : Option (Int32 × Unit) :=
  mC (x1 ≤ 0) (some (x1, ())) (mL (x1 - 1) fun i_1 => mG i_1 n_lengths (mC ((c_lengths i_1.toNatClampNeg) = 0) (mL (x1 + (-1)) fun y1_2 => k_6 y1_2) (some (x1, ()))))
abbrev Code_used_w (E : xE) (a_this : Nat) (a_lengths : Nat) (n_lengths : Nat) (x_codes : Value) (x_next : Value) (c_lengths : Nat → Int32) : va_W := [(a_this, .inr (3, [.ref a_lengths, x_codes, x_next])), (a_lengths, .inl (E.2.1, n_lengths, .inl c_lengths))]
def Code_used (F : Nat) (n_lengths : Nat) (c_lengths : Nat → Int32) : Option (Int32 × Unit) :=
  mL (nI n_lengths) fun y1_3 => (mW1 (Code_used_6 F n_lengths c_lengths) F) y1_3
abbrev Code_used_rm : Room := { frames := 0, cells := 0, slots := 0, locals := 0 }
set_option maxHeartbeats 4000000 in
set_option maxRecDepth 100000 in
theorem c_Code_used (l : Launch) (E : xE) (F sz : Nat) (a_this : Nat) (a_lengths : Nat) (n_lengths : Nat) (x_codes : Value) (x_next : Value) (c_lengths : Nat → Int32) (res : Int32 × Unit) (hm : Code_used F n_lengths c_lengths = some res) : Met l y_Code_used (Cond.code y_Code_used b_Code_used 2 (some .int) :: x_tb) Code_used_rm (va_Pc [.ref a_this] (xPre E (Code_used_w E a_this a_lengths n_lengths x_codes x_next c_lengths) sz)) (xQi E (fun (r : Int32) (u : Unit) => r = res.1 ∧ u = res.2) (fun (u : Unit) => (Code_used_w E a_this a_lengths n_lengths x_codes x_next c_lengths)) (va_A (Code_used_w E a_this a_lengths n_lengths x_codes x_next c_lengths) sz)) 0 0 (va_A (Code_used_w E a_this a_lengths n_lengths x_codes x_next c_lengths) sz) := by
  refine xEnI (by decide) (Nat.le_of_ble_eq_true rfl) ?_
  intro p e s m args below meth c A ls Q hx hb hnm hts hown hml hK hA hI hN hret hP hD hS hl
  replace hown : s.vm.findClass R_Code = some m.cls := hown
  replace hl : lv_has ls 2 [(0, .ref a_this)] := hl
  obtain ⟨H, eH⟩ : ∃ z, z = s.heap := ⟨_, rfl⟩
  obtain ⟨locs, eL⟩ : ∃ z : List Loc, z = [] := ⟨_, rfl⟩
  rw [show W p l e Code_used_rm s m args below meth c s.heap [] 0 0 Q (F0 m 0 ls []) = W p l e Code_used_rm s m args below meth c H locs 0 0 Q (F0 m 0 ls []) by rw [eH, eL]]
  replace hP : va_P E.1 vwCl (Code_used_w E a_this a_lengths n_lengths x_codes x_next c_lengths) H := by rw [eH]; exact hP
  replace hS : va_S A s.heap H locs := by rw [eH, eL]; exact hS
  clear eH eL
  rw [Code_used] at hm
  have h_6 : ∀ (n_6 : Nat) (x1 : Int32) (H : Heap) (locs : List Loc) (ls : Array Slot), (mW1 (Code_used_6 F n_lengths c_lengths) n_6) x1 = some res → va_P E.1 vwCl (Code_used_w E a_this a_lengths n_lengths x_codes x_next c_lengths) H → va_D A (Code_used_w E a_this a_lengths n_lengths x_codes x_next c_lengths) → va_S A s.heap H locs → lv_has ls 2 [(0, .ref a_this), (1, .int x1)] → W p l e Code_used_rm s m args below meth c H locs 0 0 Q (F0 m 6 ls []) := by
    intro n_6
    induction n_6 with
    | zero => exact fun _ _ _ _ hm _ _ _ _ => (mW1_z hm).elim
    | succ n_6 ih_6 =>
      intro x1 H locs ls hm hP hD hS hl
      replace hm := mW1_s hm
      rw [Code_used_6] at hm
      refine lv_iload_n hx hb d_Code_used_6 rfl (lv_at hl 1 rfl) ?_
      refine lv_if_le (tgt := 27) hx hb d_Code_used_7 (by decide) (fun c7 => ?_) (fun c7 => ?_)
      · replace hm := mC_t hm c7
        refine lv_iload_n hx hb d_Code_used_27 rfl (lv_at hl 1 rfl) ?_
        replace hm := Option.some.inj hm
        subst hm
        exact hret d_Code_used_28 (u := ()) ⟨rfl, rfl⟩ hP hD hS
      · replace hm := mC_f hm c7
        refine lv_aload_n hx hb d_Code_used_10 rfl (lv_at hl 0 rfl) ?_
        refine va_get (D := E.1) (ci := 3) (v := .ref a_lengths) (C := R_Code) (T := F_Code) (N := 3) hx hb hts i_Code hown hK hP 0 rfl rfl 0 (by decide) (hts _ tw_190) (fun _ h9 => h9) rfl d_Code_used_11 ?_
        refine lv_iload_n hx hb d_Code_used_14 rfl (lv_at hl 1 rfl) ?_
        refine lv_iconst (v := 1) hx hb d_Code_used_15 (by decide) ?_
        refine lv_isub hx hb d_Code_used_16 ?_
        refine lv_topi (fun i_1 ei_1 => ?_)
        replace hm := mL_e hm i_1 ei_1
        obtain ⟨hi17, hm⟩ := mG_e hm
        refine va_iald hx hb hK hP 1 0 rfl rfl hi17 d_Code_used_17 ?_
        refine lv_if_ne (tgt := 27) hx hb d_Code_used_18 (by decide) (fun c18 => ?_) (fun c18 => ?_)
        · replace hm := mC_f hm c18
          refine lv_iload_n hx hb d_Code_used_27 rfl (lv_at hl 1 rfl) ?_
          replace hm := Option.some.inj hm
          subst hm
          exact hret d_Code_used_28 (u := ()) ⟨rfl, rfl⟩ hP hD hS
        · replace hm := mC_t hm c18
          obtain ⟨y1_2, ey1_2⟩ : ∃ y : Int32, y = x1 + (-1) := ⟨_, rfl⟩
          replace hm := mL_e hm y1_2 ey1_2
          refine lv_iinc (v := y1_2) (lv' := [(1, .int y1_2), (0, .ref a_this)]) hx hb d_Code_used_21 hl (k := 1) rfl (by rw [ey1_2]; rfl) (by decide) rfl (fun ls hl => ?_)
          refine lv_goto (tgt := 6) hx hb d_Code_used_24 (by decide) ?_
          exact ih_6 _ H locs ls hm hP hD hS (lv_sub hl [1, 0] rfl)
  refine lv_aload_n hx hb d_Code_used_0 rfl (lv_at hl 0 rfl) ?_
  refine va_get (D := E.1) (ci := 3) (v := .ref a_lengths) (C := R_Code) (T := F_Code) (N := 3) hx hb hts i_Code hown hK hP 0 rfl rfl 0 (by decide) (hts _ tw_190) (fun _ h9 => h9) rfl d_Code_used_1 ?_
  refine va_alen (v := nI n_lengths) hx hb hK hP 1 0 rfl rfl rfl d_Code_used_4 ?_
  refine lv_topi (fun y1_3 ey1_3 => ?_)
  replace hm := mL_e hm y1_3 ey1_3
  refine lv_istore_n (lv' := [(1, .int y1_3), (0, .ref a_this)]) hx hb d_Code_used_5 rfl hl (by decide) rfl (fun ls hl => ?_)
  exact h_6 F _ H locs ls hm hP hD hS (lv_sub hl [1, 0] rfl)
