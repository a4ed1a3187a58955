theorem d_BitWriter_clear_0 : decode b_BitWriter_clear 0 = .ok (.aload_n 0, 1) := by decide +kernel
theorem d_BitWriter_clear_1 : decode b_BitWriter_clear 1 = .ok (.iconst 0, 1) := by decide +kernel
theorem d_BitWriter_clear_2 : decode b_BitWriter_clear 2 = .ok (.putfield 15, 3) := by decide +kernel
theorem d_BitWriter_clear_5 : decode b_BitWriter_clear 5 = .ok (.aload_n 0, 1) := by decide +kernel
theorem d_BitWriter_clear_6 : decode b_BitWriter_clear 6 = .ok (.iconst 0, 1) := by decide +kernel
theorem d_BitWriter_clear_7 : decode b_BitWriter_clear 7 = .ok (.putfield 19, 3) := by decide +kernel
theorem d_BitWriter_clear_10 : decode b_BitWriter_clear 10 = .ok (.aload_n 0, 1) := by decide +kernel
theorem d_BitWriter_clear_11 : decode b_BitWriter_clear 11 = .ok (.iconst 0, 1) := by decide +kernel
theorem d_BitWriter_clear_12 : decode b_BitWriter_clear 12 = .ok (.putfield 22, 3) := by decide +kernel
theorem d_BitWriter_clear_15 : decode b_BitWriter_clear 15 = .ok (.return_, 1) := by decide +kernel
abbrev BitWriter_clear_w (E : xE) (a_this : Nat) (x_data : Value) (v_length : Int32) (v_open : Int32) (v_openCount : Int32) : va_W := [(a_this, .inr (1, [x_data, .int v_length, .int v_open, .int v_openCount]))]
def BitWriter_clear (F : Nat) (v_length : Int32) (v_open : Int32) (v_openCount : Int32) : Option (Unit × Int32 × Int32 × Int32) :=
  some ((), 0, 0, 0)
abbrev BitWriter_clear_rm : Room := { frames := 0, cells := 0, slots := 0, locals := 0 }
set_option maxHeartbeats 4000000 in
set_option maxRecDepth 100000 in
theorem c_BitWriter_clear (l : Launch) (E : xE) (F sz : Nat) (a_this : Nat) (x_data : Value) (v_length : Int32) (v_open : Int32) (v_openCount : Int32) (res : Unit × Int32 × Int32 × Int32) (hm : BitWriter_clear F v_length v_open v_openCount = some res) : Met l y_BitWriter_clear (Cond.code y_BitWriter_clear b_BitWriter_clear 1 none :: x_tb) BitWriter_clear_rm (va_Pc [.ref a_this] (xPre E (BitWriter_clear_w E a_this x_data v_length v_open v_openCount) sz)) (xQv E (fun (u : Int32 × Int32 × Int32) => u = res.2) (fun (u : Int32 × Int32 × Int32) => (BitWriter_clear_w E a_this x_data u.1 u.2.1 u.2.2)) (va_A (BitWriter_clear_w E a_this x_data v_length v_open v_openCount) sz)) 0 0 (va_A (BitWriter_clear_w E a_this x_data v_length v_open v_openCount) sz) := by
  refine xEnV (by decide) (Nat.le_of_ble_eq_true rfl) ?_
  intro p e s m args below meth c A ls Q hx hb hnm hts hown hml hK hA hI hN hret hP hD hS hl
  replace hown : s.vm.findClass R_BitWriter = some m.cls := hown
  replace hl : lv_has ls 1 [(0, .ref a_this)] := hl
  obtain ⟨H, eH⟩ : ∃ z, z = s.heap := ⟨_, rfl⟩
  obtain ⟨locs, eL⟩ : ∃ z : List Loc, z = [] := ⟨_, rfl⟩
  rw [show W p l e BitWriter_clear_rm s m args below meth c s.heap [] 0 0 Q (F0 m 0 ls []) = W p l e BitWriter_clear_rm s m args below meth c H locs 0 0 Q (F0 m 0 ls []) by rw [eH, eL]]
  replace hP : va_P E.1 vwCl (BitWriter_clear_w E a_this x_data v_length v_open v_openCount) H := by rw [eH]; exact hP
  replace hS : va_S A s.heap H locs := by rw [eH, eL]; exact hS
  clear eH eL
  rw [BitWriter_clear] at hm
  refine lv_aload_n hx hb d_BitWriter_clear_0 rfl (lv_at hl 0 rfl) ?_
  refine lv_iconst (v := 0) hx hb d_BitWriter_clear_1 (by decide) ?_
  refine va_put (D := E.1) (ci := 1) (v := .int 0) (ty := .int) (C := R_BitWriter) (T := F_BitWriter) (N := 4) hx hb hts i_BitWriter t_BitWriter t_BitWriter_ok n_BitWriter hown hK hP hD hS 0 rfl rfl 1 (by decide) (hts _ tw_121) (fun _ h9 => h9) rfl (by decide +kernel) rfl rfl (Nat.le_of_ble_eq_true rfl) d_BitWriter_clear_2 (fun H locs hP hD hS => ?_)
  replace hP : va_P E.1 vwCl (BitWriter_clear_w E a_this x_data 0 v_open v_openCount) H := hP
  replace hD : va_D A (BitWriter_clear_w E a_this x_data 0 v_open v_openCount) := hD
  refine lv_aload_n hx hb d_BitWriter_clear_5 rfl (lv_at hl 0 rfl) ?_
  refine lv_iconst (v := 0) hx hb d_BitWriter_clear_6 (by decide) ?_
  refine va_put (D := E.1) (ci := 1) (v := .int 0) (ty := .int) (C := R_BitWriter) (T := F_BitWriter) (N := 4) hx hb hts i_BitWriter t_BitWriter t_BitWriter_ok n_BitWriter hown hK hP hD hS 0 rfl rfl 2 (by decide) (hts _ tw_122) (fun _ h9 => h9) rfl (by decide +kernel) rfl rfl (Nat.le_of_ble_eq_true rfl) d_BitWriter_clear_7 (fun H locs hP hD hS => ?_)
  replace hP : va_P E.1 vwCl (BitWriter_clear_w E a_this x_data 0 0 v_openCount) H := hP
  replace hD : va_D A (BitWriter_clear_w E a_this x_data 0 0 v_openCount) := hD
  refine lv_aload_n hx hb d_BitWriter_clear_10 rfl (lv_at hl 0 rfl) ?_
  refine lv_iconst (v := 0) hx hb d_BitWriter_clear_11 (by decide) ?_
  refine va_put (D := E.1) (ci := 1) (v := .int 0) (ty := .int) (C := R_BitWriter) (T := F_BitWriter) (N := 4) hx hb hts i_BitWriter t_BitWriter t_BitWriter_ok n_BitWriter hown hK hP hD hS 0 rfl rfl 3 (by decide) (hts _ tw_123) (fun _ h9 => h9) rfl (by decide +kernel) rfl rfl (Nat.le_of_ble_eq_true rfl) d_BitWriter_clear_12 (fun H locs hP hD hS => ?_)
  replace hP : va_P E.1 vwCl (BitWriter_clear_w E a_this x_data 0 0 0) H := hP
  replace hD : va_D A (BitWriter_clear_w E a_this x_data 0 0 0) := hD
  replace hm := Option.some.inj hm
  subst hm
  exact hret d_BitWriter_clear_15 (u := (0, 0, 0)) rfl hP hD hS
theorem d_BitWriter_length_0 : decode b_BitWriter_length 0 = .ok (.aload_n 0, 1) := by decide +kernel
theorem d_BitWriter_length_1 : decode b_BitWriter_length 1 = .ok (.getfield 15, 3) := by decide +kernel
theorem d_BitWriter_length_4 : decode b_BitWriter_length 4 = .ok (.ireturn, 1) := by decide +kernel
abbrev BitWriter_length_w (E : xE) (a_this : Nat) (x_data : Value) (v_length : Int32) (v_open : Int32) (v_openCount : Int32) : va_W := [(a_this, .inr (1, [x_data, .int v_length, .int v_open, .int v_openCount]))]
def BitWriter_length (F : Nat) (v_length : Int32) : Option (Int32 × Unit) :=
  some (v_length, ())
abbrev BitWriter_length_rm : Room := { frames := 0, cells := 0, slots := 0, locals := 0 }
set_option maxHeartbeats 4000000 in
set_option maxRecDepth 100000 in
theorem c_BitWriter_length (l : Launch) (E : xE) (F sz : Nat) (a_this : Nat) (x_data : Value) (v_length : Int32) (v_open : Int32) (v_openCount : Int32) (res : Int32 × Unit) (hm : BitWriter_length F v_length = some res) : Met l y_BitWriter_length (Cond.code y_BitWriter_length b_BitWriter_length 1 (some .int) :: x_tb) BitWriter_length_rm (va_Pc [.ref a_this] (xPre E (BitWriter_length_w E a_this x_data v_length v_open v_openCount) sz)) (xQi E (fun (r : Int32) (u : Unit) => r = res.1 ∧ u = res.2) (fun (u : Unit) => (BitWriter_length_w E a_this x_data v_length v_open v_openCount)) (va_A (BitWriter_length_w E a_this x_data v_length v_open v_openCount) sz)) 0 0 (va_A (BitWriter_length_w E a_this x_data v_length v_open v_openCount) sz) := by
  refine xEnI (by decide) (Nat.le_of_ble_eq_true rfl) ?_
  intro p e s m args below meth c A ls Q hx hb hnm hts hown hml hK hA hI hN hret hP hD hS hl
  replace hown : s.vm.findClass R_BitWriter = some m.cls := hown
  replace hl : lv_has ls 1 [(0, .ref a_this)] := hl
  obtain ⟨H, eH⟩ : ∃ z, z = s.heap := ⟨_, rfl⟩
  obtain ⟨locs, eL⟩ : ∃ z : List Loc, z = [] := ⟨_, rfl⟩
  rw [show W p l e BitWriter_length_rm s m args below meth c s.heap [] 0 0 Q (F0 m 0 ls []) = W p l e BitWriter_length_rm s m args below meth c H locs 0 0 Q (F0 m 0 ls []) by rw [eH, eL]]
  replace hP : va_P E.1 vwCl (BitWriter_length_w E a_this x_data v_length v_open v_openCount) H := by rw [eH]; exact hP
  replace hS : va_S A s.heap H locs := by rw [eH, eL]; exact hS
  clear eH eL
  rw [BitWriter_length] at hm
  refine lv_aload_n hx hb d_BitWriter_length_0 rfl (lv_at hl 0 rfl) ?_
  refine va_get (D := E.1) (ci := 1) (v := .int v_length) (C := R_BitWriter) (T := F_BitWriter) (N := 4) hx hb hts i_BitWriter hown hK hP 0 rfl rfl 1 (by decide) (hts _ tw_121) (fun _ h9 => h9) rfl d_BitWriter_length_1 ?_
  replace hm := Option.some.inj hm
  subst hm
  exact hret d_BitWriter_length_4 (u := ()) ⟨rfl, rfl⟩ hP hD hS
theorem d_BitWriter_number_0 : decode b_BitWriter_number 0 = .ok (.aload_n 0, 1) := by decide +kernel
theorem d_BitWriter_number_1 : decode b_BitWriter_number 1 = .ok (.dup, 1) := by decide +kernel
theorem d_BitWriter_number_2 : decode b_BitWriter_number 2 = .ok (.getfield 19, 3) := by decide +kernel
theorem d_BitWriter_number_5 : decode b_BitWriter_number 5 = .ok (.iload_n 1, 1) := by decide +kernel
theorem d_BitWriter_number_6 : decode b_BitWriter_number 6 = .ok (.aload_n 0, 1) := by decide +kernel
theorem d_BitWriter_number_7 : decode b_BitWriter_number 7 = .ok (.getfield 22, 3) := by decide +kernel
theorem d_BitWriter_number_10 : decode b_BitWriter_number 10 = .ok (.ishl, 1) := by decide +kernel
theorem d_BitWriter_number_11 : decode b_BitWriter_number 11 = .ok (.ior, 1) := by decide +kernel
theorem d_BitWriter_number_12 : decode b_BitWriter_number 12 = .ok (.putfield 19, 3) := by decide +kernel
theorem d_BitWriter_number_15 : decode b_BitWriter_number 15 = .ok (.aload_n 0, 1) := by decide +kernel
theorem d_BitWriter_number_16 : decode b_BitWriter_number 16 = .ok (.dup, 1) := by decide +kernel
theorem d_BitWriter_number_17 : decode b_BitWriter_number 17 = .ok (.getfield 22, 3) := by decide +kernel
theorem d_BitWriter_number_20 : decode b_BitWriter_number 20 = .ok (.iload_n 2, 1) := by decide +kernel
theorem d_BitWriter_number_21 : decode b_BitWriter_number 21 = .ok (.iadd, 1) := by decide +kernel
theorem d_BitWriter_number_22 : decode b_BitWriter_number 22 = .ok (.putfield 22, 3) := by decide +kernel
theorem d_BitWriter_number_25 : decode b_BitWriter_number 25 = .ok (.aload_n 0, 1) := by decide +kernel
theorem d_BitWriter_number_26 : decode b_BitWriter_number 26 = .ok (.getfield 22, 3) := by decide +kernel
theorem d_BitWriter_number_29 : decode b_BitWriter_number 29 = .ok (.bipush 8, 2) := by decide +kernel
theorem d_BitWriter_number_31 : decode b_BitWriter_number 31 = .ok (.if_icmp .lt 64, 3) := by decide +kernel
theorem d_BitWriter_number_34 : decode b_BitWriter_number 34 = .ok (.aload_n 0, 1) := by decide +kernel
theorem d_BitWriter_number_35 : decode b_BitWriter_number 35 = .ok (.getfield 15, 3) := by decide +kernel
theorem d_BitWriter_number_38 : decode b_BitWriter_number 38 = .ok (.aload_n 0, 1) := by decide +kernel
theorem d_BitWriter_number_39 : decode b_BitWriter_number 39 = .ok (.getfield 11, 3) := by decide +kernel
theorem d_BitWriter_number_42 : decode b_BitWriter_number 42 = .ok (.arraylength, 1) := by decide +kernel
theorem d_BitWriter_number_43 : decode b_BitWriter_number 43 = .ok (.if_icmp .ge 27, 3) := by decide +kernel
theorem d_BitWriter_number_46 : decode b_BitWriter_number 46 = .ok (.aload_n 0, 1) := by decide +kernel
theorem d_BitWriter_number_47 : decode b_BitWriter_number 47 = .ok (.getfield 11, 3) := by decide +kernel
theorem d_BitWriter_number_50 : decode b_BitWriter_number 50 = .ok (.aload_n 0, 1) := by decide +kernel
theorem d_BitWriter_number_51 : decode b_BitWriter_number 51 = .ok (.getfield 15, 3) := by decide +kernel
theorem d_BitWriter_number_54 : decode b_BitWriter_number 54 = .ok (.aload_n 0, 1) := by decide +kernel
theorem d_BitWriter_number_55 : decode b_BitWriter_number 55 = .ok (.getfield 19, 3) := by decide +kernel
theorem d_BitWriter_number_58 : decode b_BitWriter_number 58 = .ok (.i2b, 1) := by decide +kernel
theorem d_BitWriter_number_59 : decode b_BitWriter_number 59 = .ok (.bastore, 1) := by decide +kernel
theorem d_BitWriter_number_60 : decode b_BitWriter_number 60 = .ok (.aload_n 0, 1) := by decide +kernel
theorem d_BitWriter_number_61 : decode b_BitWriter_number 61 = .ok (.dup, 1) := by decide +kernel
theorem d_BitWriter_number_62 : decode b_BitWriter_number 62 = .ok (.getfield 15, 3) := by decide +kernel
theorem d_BitWriter_number_65 : decode b_BitWriter_number 65 = .ok (.iconst 1, 1) := by decide +kernel
theorem d_BitWriter_number_66 : decode b_BitWriter_number 66 = .ok (.iadd, 1) := by decide +kernel
theorem d_BitWriter_number_67 : decode b_BitWriter_number 67 = .ok (.putfield 15, 3) := by decide +kernel
theorem d_BitWriter_number_70 : decode b_BitWriter_number 70 = .ok (.aload_n 0, 1) := by decide +kernel
theorem d_BitWriter_number_71 : decode b_BitWriter_number 71 = .ok (.dup, 1) := by decide +kernel
theorem d_BitWriter_number_72 : decode b_BitWriter_number 72 = .ok (.getfield 19, 3) := by decide +kernel
theorem d_BitWriter_number_75 : decode b_BitWriter_number 75 = .ok (.bipush 8, 2) := by decide +kernel
theorem d_BitWriter_number_77 : decode b_BitWriter_number 77 = .ok (.iushr, 1) := by decide +kernel
theorem d_BitWriter_number_78 : decode b_BitWriter_number 78 = .ok (.putfield 19, 3) := by decide +kernel
theorem d_BitWriter_number_81 : decode b_BitWriter_number 81 = .ok (.aload_n 0, 1) := by decide +kernel
theorem d_BitWriter_number_82 : decode b_BitWriter_number 82 = .ok (.dup, 1) := by decide +kernel
theorem d_BitWriter_number_83 : decode b_BitWriter_number 83 = .ok (.getfield 22, 3) := by decide +kernel
theorem d_BitWriter_number_86 : decode b_BitWriter_number 86 = .ok (.bipush 8, 2) := by decide +kernel
theorem d_BitWriter_number_88 : decode b_BitWriter_number 88 = .ok (.isub, 1) := by decide +kernel
theorem d_BitWriter_number_89 : decode b_BitWriter_number 89 = .ok (.putfield 22, 3) := by decide +kernel
theorem d_BitWriter_number_92 : decode b_BitWriter_number 92 = .ok (.goto (-67), 3) := by decide +kernel
theorem d_BitWriter_number_95 : decode b_BitWriter_number 95 = .ok (.return_, 1) := by decide +kernel
def BitWriter_number_70 (F : Nat) (k_25 : Int32 → Int32 → Int32 → (Nat → Int32) → Option (Unit × Int32 × Int32 × Int32 × (Nat → Int32))) (v_length : Int32) (v_open : Int32) (v_openCount : Int32) (c_data : Nat → Int32) : Option (Unit × Int32 × Int32 × Int32 × (Nat → Int32)) :=
  mL ((v_open.toUInt32 >>> ((8 : Int32).toUInt32 &&& Int32.toUInt32 31)).toInt32) fun v_1 => mL (v_openCount - 8) fun v_2 => k_25 v_length v_1 v_2 c_data
def BitWriter_number_25 (F : Nat) (k_25 : Int32 → Int32 → Int32 → (Nat → Int32) → Option (Unit × Int32 × Int32 × Int32 × (Nat → Int32))) (v_length : Int32) (v_open : Int32) (v_openCount : Int32) (c_data : Nat → Int32) : Option (Unit × Int32 × Int32 × Int32 × (Nat → Int32)) :=
  mC (v_openCount < 8) (some ((), v_length, v_open, v_openCount, c_data)) (mC (8256 ≤ v_length) ((BitWriter_number_70 F k_25) v_length v_open v_openCount c_data) (mG v_length 8256 (mL (upd c_data v_length.toNatClampNeg (vp_nar .byte v_open.toInt8.toInt32)) fun c_3 => mL (v_length + 1) fun v_4 => (BitWriter_number_70 F k_25) v_4 v_open v_openCount c_3)))
abbrev BitWriter_number_w (E : xE) (a_this : Nat) (a_data : Nat) (v_length : Int32) (v_open : Int32) (v_openCount : Int32) (c_data : Nat → Int32) : va_W := [(a_this, .inr (1, [.ref a_data, .int v_length, .int v_open, .int v_openCount])), (a_data, .inl (E.2.2.1, 8256, .inl c_data))]
def BitWriter_number (F : Nat) (v_length : Int32) (v_open : Int32) (v_openCount : Int32) (c_data : Nat → Int32) (x1 : Int32) (x2 : Int32) : Option (Unit × Int32 × Int32 × Int32 × (Nat → Int32)) :=
  mL (v_open ||| (x1 <<< (v_openCount &&& 31))) fun v_5 => mL (v_openCount + x2) fun v_6 => (mW4 (BitWriter_number_25 F) F) v_length v_5 v_6 c_data
abbrev BitWriter_number_rm : Room := { frames := 0, cells := 0, slots := 0, locals := 0 }
set_option maxHeartbeats 4000000 in
set_option maxRecDepth 100000 in
theorem c_BitWriter_number (l : Launch) (E : xE) (F sz : Nat) (a_this : Nat) (a_data : Nat) (v_length : Int32) (v_open : Int32) (v_openCount : Int32) (c_data : Nat → Int32) (x1 : Int32) (x2 : Int32) (res : Unit × Int32 × Int32 × Int32 × (Nat → Int32)) (hm : BitWriter_number F v_length v_open v_openCount c_data x1 x2 = some res) : Met l y_BitWriter_number (Cond.code y_BitWriter_number b_BitWriter_number 3 none :: x_tb) BitWriter_number_rm (va_Pc [.ref a_this, .int x1, .int x2] (xPre E (BitWriter_number_w E a_this a_data v_length v_open v_openCount c_data) sz)) (xQv E (fun (u : Int32 × Int32 × Int32 × (Nat → Int32)) => u = res.2) (fun (u : Int32 × Int32 × Int32 × (Nat → Int32)) => (BitWriter_number_w E a_this a_data u.1 u.2.1 u.2.2.1 u.2.2.2)) (va_A (BitWriter_number_w E a_this a_data v_length v_open v_openCount c_data) sz)) 0 0 (va_A (BitWriter_number_w E a_this a_data v_length v_open v_openCount c_data) sz) := by
  refine xEnV (by decide) (Nat.le_of_ble_eq_true rfl) ?_
  intro p e s m args below meth c A ls Q hx hb hnm hts hown hml hK hA hI hN hret hP hD hS hl
  replace hown : s.vm.findClass R_BitWriter = some m.cls := hown
  replace hl : lv_has ls 3 [(0, .ref a_this), (1, .int x1), (2, .int x2)] := hl
  obtain ⟨H, eH⟩ : ∃ z, z = s.heap := ⟨_, rfl⟩
  obtain ⟨locs, eL⟩ : ∃ z : List Loc, z = [] := ⟨_, rfl⟩
  rw [show W p l e BitWriter_number_rm s m args below meth c s.heap [] 0 0 Q (F0 m 0 ls []) = W p l e BitWriter_number_rm s m args below meth c H locs 0 0 Q (F0 m 0 ls []) by rw [eH, eL]]
  replace hP : va_P E.1 vwCl (BitWriter_number_w E a_this a_data v_length v_open v_openCount c_data) H := by rw [eH]; exact hP
  replace hS : va_S A s.heap H locs := by rw [eH, eL]; exact hS
  clear eH eL
  rw [BitWriter_number] at hm
  have h_25 : ∀ (n_25 : Nat) (v_length : Int32) (v_open : Int32) (v_openCount : Int32) (c_data : Nat → Int32) (H : Heap) (locs : List Loc) (ls : Array Slot), (mW4 (BitWriter_number_25 F) n_25) v_length v_open v_openCount c_data = some res → va_P E.1 vwCl (BitWriter_number_w E a_this a_data v_length v_open v_openCount c_data) H → va_D A (BitWriter_number_w E a_this a_data v_length v_open v_openCount c_data) → va_S A s.heap H locs → lv_has ls 3 [(0, .ref a_this)] → W p l e BitWriter_number_rm s m args below meth c H locs 0 0 Q (F0 m 25 ls []) := by
    intro n_25
    induction n_25 with
    | zero => exact fun _ _ _ _ _ _ _ hm _ _ _ _ => (mW4_z hm).elim
    | succ n_25 ih_25 =>
      intro v_length v_open v_openCount c_data H locs ls hm hP hD hS hl
      replace hm := mW4_s hm
      rw [BitWriter_number_25] at hm
      refine lv_aload_n hx hb d_BitWriter_number_25 rfl (lv_at hl 0 rfl) ?_
      refine va_get (D := E.1) (ci := 1) (v := .int v_openCount) (C := R_BitWriter) (T := F_BitWriter) (N := 4) hx hb hts i_BitWriter hown hK hP 0 rfl rfl 3 (by decide) (hts _ tw_123) (fun _ h9 => h9) rfl d_BitWriter_number_26 ?_
      refine lv_bipush (v := 8) hx hb d_BitWriter_number_29 (by decide) ?_
      refine lv_icmp_lt (tgt := 95) hx hb d_BitWriter_number_31 (by decide) (fun c31 => ?_) (fun c31 => ?_)
      · replace hm := mC_t hm c31
        replace hm := Option.some.inj hm
        subst hm
        exact hret d_BitWriter_number_95 (u := (v_length, v_open, v_openCount, c_data)) rfl hP hD hS
      · replace hm := mC_f hm c31
        have h_70 : ∀ (v_length : Int32) (v_open : Int32) (v_openCount : Int32) (c_data : Nat → Int32) (H : Heap) (locs : List Loc) (ls : Array Slot), (BitWriter_number_70 F (mW4 (BitWriter_number_25 F) n_25)) v_length v_open v_openCount c_data = some res → va_P E.1 vwCl (BitWriter_number_w E a_this a_data v_length v_open v_openCount c_data) H → va_D A (BitWriter_number_w E a_this a_data v_length v_open v_openCount c_data) → va_S A s.heap H locs → lv_has ls 3 [(0, .ref a_this)] → W p l e BitWriter_number_rm s m args below meth c H locs 0 0 Q (F0 m 70 ls []) := by
          intro v_length v_open v_openCount c_data H locs ls hm hP hD hS hl
          rw [BitWriter_number_70] at hm
          refine lv_aload_n hx hb d_BitWriter_number_70 rfl (lv_at hl 0 rfl) ?_
          refine lv_dup hx hb d_BitWriter_number_71 rfl ?_
          refine va_get (D := E.1) (ci := 1) (v := .int v_open) (C := R_BitWriter) (T := F_BitWriter) (N := 4) hx hb hts i_BitWriter hown hK hP 0 rfl rfl 2 (by decide) (hts _ tw_122) (fun _ h9 => h9) rfl d_BitWriter_number_72 ?_
          refine lv_bipush (v := 8) hx hb d_BitWriter_number_75 (by decide) ?_
          refine lv_iushr hx hb d_BitWriter_number_77 rfl ?_
          refine lv_topi (fun v_1 ev_1 => ?_)
          replace hm := mL_e hm v_1 ev_1
          refine va_put (D := E.1) (ci := 1) (v := .int v_1) (ty := .int) (C := R_BitWriter) (T := F_BitWriter) (N := 4) hx hb hts i_BitWriter t_BitWriter t_BitWriter_ok n_BitWriter hown hK hP hD hS 0 rfl rfl 2 (by decide) (hts _ tw_122) (fun _ h9 => h9) rfl (by decide +kernel) rfl rfl (Nat.le_of_ble_eq_true rfl) d_BitWriter_number_78 (fun H locs hP hD hS => ?_)
          replace hP : va_P E.1 vwCl (BitWriter_number_w E a_this a_data v_length v_1 v_openCount c_data) H := hP
          replace hD : va_D A (BitWriter_number_w E a_this a_data v_length v_1 v_openCount c_data) := hD
          refine lv_aload_n hx hb d_BitWriter_number_81 rfl (lv_at hl 0 rfl) ?_
          refine lv_dup hx hb d_BitWriter_number_82 rfl ?_
          refine va_get (D := E.1) (ci := 1) (v := .int v_openCount) (C := R_BitWriter) (T := F_BitWriter) (N := 4) hx hb hts i_BitWriter hown hK hP 0 rfl rfl 3 (by decide) (hts _ tw_123) (fun _ h9 => h9) rfl d_BitWriter_number_83 ?_
          refine lv_bipush (v := 8) hx hb d_BitWriter_number_86 (by decide) ?_
          refine lv_isub hx hb d_BitWriter_number_88 ?_
          refine lv_topi (fun v_2 ev_2 => ?_)
          replace hm := mL_e hm v_2 ev_2
          refine va_put (D := E.1) (ci := 1) (v := .int v_2) (ty := .int) (C := R_BitWriter) (T := F_BitWriter) (N := 4) hx hb hts i_BitWriter t_BitWriter t_BitWriter_ok n_BitWriter hown hK hP hD hS 0 rfl rfl 3 (by decide) (hts _ tw_123) (fun _ h9 => h9) rfl (by decide +kernel) rfl rfl (Nat.le_of_ble_eq_true rfl) d_BitWriter_number_89 (fun H locs hP hD hS => ?_)
          replace hP : va_P E.1 vwCl (BitWriter_number_w E a_this a_data v_length v_1 v_2 c_data) H := hP
          replace hD : va_D A (BitWriter_number_w E a_this a_data v_length v_1 v_2 c_data) := hD
          refine lv_goto (tgt := 25) hx hb d_BitWriter_number_92 (by decide) ?_
          exact ih_25 _ _ _ _ H locs ls hm hP hD hS hl
        refine lv_aload_n hx hb d_BitWriter_number_34 rfl (lv_at hl 0 rfl) ?_
        refine va_get (D := E.1) (ci := 1) (v := .int v_length) (C := R_BitWriter) (T := F_BitWriter) (N := 4) hx hb hts i_BitWriter hown hK hP 0 rfl rfl 1 (by decide) (hts _ tw_121) (fun _ h9 => h9) rfl d_BitWriter_number_35 ?_
        refine lv_aload_n hx hb d_BitWriter_number_38 rfl (lv_at hl 0 rfl) ?_
        refine va_get (D := E.1) (ci := 1) (v := .ref a_data) (C := R_BitWriter) (T := F_BitWriter) (N := 4) hx hb hts i_BitWriter hown hK hP 0 rfl rfl 0 (by decide) (hts _ tw_120) (fun _ h9 => h9) rfl d_BitWriter_number_39 ?_
        refine va_alen (v := 8256) hx hb hK hP 1 1 rfl rfl rfl d_BitWriter_number_42 ?_
        refine lv_icmp_ge (tgt := 70) hx hb d_BitWriter_number_43 (by decide) (fun c43 => ?_) (fun c43 => ?_)
        · replace hm := mC_t hm c43
          exact h_70 _ _ _ _ H locs ls hm hP hD hS hl
        · replace hm := mC_f hm c43
          refine lv_aload_n hx hb d_BitWriter_number_46 rfl (lv_at hl 0 rfl) ?_
          refine va_get (D := E.1) (ci := 1) (v := .ref a_data) (C := R_BitWriter) (T := F_BitWriter) (N := 4) hx hb hts i_BitWriter hown hK hP 0 rfl rfl 0 (by decide) (hts _ tw_120) (fun _ h9 => h9) rfl d_BitWriter_number_47 ?_
          refine lv_aload_n hx hb d_BitWriter_number_50 rfl (lv_at hl 0 rfl) ?_
          refine va_get (D := E.1) (ci := 1) (v := .int v_length) (C := R_BitWriter) (T := F_BitWriter) (N := 4) hx hb hts i_BitWriter hown hK hP 0 rfl rfl 1 (by decide) (hts _ tw_121) (fun _ h9 => h9) rfl d_BitWriter_number_51 ?_
          refine lv_aload_n hx hb d_BitWriter_number_54 rfl (lv_at hl 0 rfl) ?_
          refine va_get (D := E.1) (ci := 1) (v := .int v_open) (C := R_BitWriter) (T := F_BitWriter) (N := 4) hx hb hts i_BitWriter hown hK hP 0 rfl rfl 2 (by decide) (hts _ tw_122) (fun _ h9 => h9) rfl d_BitWriter_number_55 ?_
          refine lv_i2b hx hb d_BitWriter_number_58 rfl ?_
          obtain ⟨hi59, hm⟩ := mG_e hm
          obtain ⟨c_3, ec_3⟩ : ∃ z : Nat → Int32, z = upd c_data v_length.toNatClampNeg (vp_nar .byte v_open.toInt8.toInt32) := ⟨_, rfl⟩
          replace hm := mL_e hm c_3 ec_3
          refine va_bast hx hb hK hP hD hS 1 1 rfl rfl hi59 d_BitWriter_number_59 (fun H locs hP hD hS => ?_)
          rw [← ec_3] at hP hD
          replace hP : va_P E.1 vwCl (BitWriter_number_w E a_this a_data v_length v_open v_openCount c_3) H := hP
          replace hD : va_D A (BitWriter_number_w E a_this a_data v_length v_open v_openCount c_3) := hD
          refine lv_aload_n hx hb d_BitWriter_number_60 rfl (lv_at hl 0 rfl) ?_
          refine lv_dup hx hb d_BitWriter_number_61 rfl ?_
          refine va_get (D := E.1) (ci := 1) (v := .int v_length) (C := R_BitWriter) (T := F_BitWriter) (N := 4) hx hb hts i_BitWriter hown hK hP 0 rfl rfl 1 (by decide) (hts _ tw_121) (fun _ h9 => h9) rfl d_BitWriter_number_62 ?_
          refine lv_iconst (v := 1) hx hb d_BitWriter_number_65 (by decide) ?_
          refine lv_iadd hx hb d_BitWriter_number_66 ?_
          refine lv_topi (fun v_4 ev_4 => ?_)
          replace hm := mL_e hm v_4 ev_4
          refine va_put (D := E.1) (ci := 1) (v := .int v_4) (ty := .int) (C := R_BitWriter) (T := F_BitWriter) (N := 4) hx hb hts i_BitWriter t_BitWriter t_BitWriter_ok n_BitWriter hown hK hP hD hS 0 rfl rfl 1 (by decide) (hts _ tw_121) (fun _ h9 => h9) rfl (by decide +kernel) rfl rfl (Nat.le_of_ble_eq_true rfl) d_BitWriter_number_67 (fun H locs hP hD hS => ?_)
          replace hP : va_P E.1 vwCl (BitWriter_number_w E a_this a_data v_4 v_open v_openCount c_3) H := hP
          replace hD : va_D A (BitWriter_number_w E a_this a_data v_4 v_open v_openCount c_3) := hD
          exact h_70 _ _ _ _ H locs ls hm hP hD hS hl
  refine lv_aload_n hx hb d_BitWriter_number_0 rfl (lv_at hl 0 rfl) ?_
  refine lv_dup hx hb d_BitWriter_number_1 rfl ?_
  refine va_get (D := E.1) (ci := 1) (v := .int v_open) (C := R_BitWriter) (T := F_BitWriter) (N := 4) hx hb hts i_BitWriter hown hK hP 0 rfl rfl 2 (by decide) (hts _ tw_122) (fun _ h9 => h9) rfl d_BitWriter_number_2 ?_
  refine lv_iload_n hx hb d_BitWriter_number_5 rfl (lv_at hl 1 rfl) ?_
  refine lv_aload_n hx hb d_BitWriter_number_6 rfl (lv_at hl 0 rfl) ?_
  refine va_get (D := E.1) (ci := 1) (v := .int v_openCount) (C := R_BitWriter) (T := F_BitWriter) (N := 4) hx hb hts i_BitWriter hown hK hP 0 rfl rfl 3 (by decide) (hts _ tw_123) (fun _ h9 => h9) rfl d_BitWriter_number_7 ?_
  refine lv_ishl hx hb d_BitWriter_number_10 ?_
  refine lv_ior hx hb d_BitWriter_number_11 ?_
  refine lv_topi (fun v_5 ev_5 => ?_)
  replace hm := mL_e hm v_5 ev_5
  refine va_put (D := E.1) (ci := 1) (v := .int v_5) (ty := .int) (C := R_BitWriter) (T := F_BitWriter) (N := 4) hx hb hts i_BitWriter t_BitWriter t_BitWriter_ok n_BitWriter hown hK hP hD hS 0 rfl rfl 2 (by decide) (hts _ tw_122) (fun _ h9 => h9) rfl (by decide +kernel) rfl rfl (Nat.le_of_ble_eq_true rfl) d_BitWriter_number_12 (fun H locs hP hD hS => ?_)
  replace hP : va_P E.1 vwCl (BitWriter_number_w E a_this a_data v_length v_5 v_openCount c_data) H := hP
  replace hD : va_D A (BitWriter_number_w E a_this a_data v_length v_5 v_openCount c_data) := hD
  refine lv_aload_n hx hb d_BitWriter_number_15 rfl (lv_at hl 0 rfl) ?_
  refine lv_dup hx hb d_BitWriter_number_16 rfl ?_
  refine va_get (D := E.1) (ci := 1) (v := .int v_openCount) (C := R_BitWriter) (T := F_BitWriter) (N := 4) hx hb hts i_BitWriter hown hK hP 0 rfl rfl 3 (by decide) (hts _ tw_123) (fun _ h9 => h9) rfl d_BitWriter_number_17 ?_
  refine lv_iload_n hx hb d_BitWriter_number_20 rfl (lv_at hl 2 rfl) ?_
  refine lv_iadd hx hb d_BitWriter_number_21 ?_
  refine lv_topi (fun v_6 ev_6 => ?_)
  replace hm := mL_e hm v_6 ev_6
  refine va_put (D := E.1) (ci := 1) (v := .int v_6) (ty := .int) (C := R_BitWriter) (T := F_BitWriter) (N := 4) hx hb hts i_BitWriter t_BitWriter t_BitWriter_ok n_BitWriter hown hK hP hD hS 0 rfl rfl 3 (by decide) (hts _ tw_123) (fun _ h9 => h9) rfl (by decide +kernel) rfl rfl (Nat.le_of_ble_eq_true rfl) d_BitWriter_number_22 (fun H locs hP hD hS => ?_)
  replace hP : va_P E.1 vwCl (BitWriter_number_w E a_this a_data v_length v_5 v_6 c_data) H := hP
  replace hD : va_D A (BitWriter_number_w E a_this a_data v_length v_5 v_6 c_data) := hD
  exact h_25 F _ _ _ _ H locs ls hm hP hD hS (lv_sub hl [0] rfl)
theorem d_BitWriter_leftBehind_0 : decode b_BitWriter_leftBehind 0 = .ok (.aload_n 0, 1) := by decide +kernel
theorem d_BitWriter_leftBehind_1 : decode b_BitWriter_leftBehind 1 = .ok (.getfield 22, 3) := by decide +kernel
theorem d_BitWriter_leftBehind_4 : decode b_BitWriter_leftBehind 4 = .ok (.iload_n 1, 1) := by decide +kernel
theorem d_BitWriter_leftBehind_5 : decode b_BitWriter_leftBehind 5 = .ok (.iadd, 1) := by decide +kernel
theorem d_BitWriter_leftBehind_6 : decode b_BitWriter_leftBehind 6 = .ok (.ineg, 1) := by decide +kernel
theorem d_BitWriter_leftBehind_7 : decode b_BitWriter_leftBehind 7 = .ok (.bipush 7, 2) := by decide +kernel
theorem d_BitWriter_leftBehind_9 : decode b_BitWriter_leftBehind 9 = .ok (.iand, 1) := by decide +kernel
theorem d_BitWriter_leftBehind_10 : decode b_BitWriter_leftBehind 10 = .ok (.ireturn, 1) := by decide +kernel
abbrev BitWriter_leftBehind_w (E : xE) (a_this : Nat) (x_data : Value) (v_openCount : Int32) (v_length : Int32) (v_open : Int32) : va_W := [(a_this, .inr (1, [x_data, .int v_length, .int v_open, .int v_openCount]))]
def BitWriter_leftBehind (F : Nat) (v_openCount : Int32) (x1 : Int32) : Option (Int32 × Unit) :=
  some ((-(v_openCount + x1)) &&& 7, ())
abbrev BitWriter_leftBehind_rm : Room := { frames := 0, cells := 0, slots := 0, locals := 0 }
set_option maxHeartbeats 4000000 in
set_option maxRecDepth 100000 in
theorem c_BitWriter_leftBehind (l : Launch) (E : xE) (F sz : Nat) (a_this : Nat) (x_data : Value) (v_openCount : Int32) (v_length : Int32) (v_open : Int32) (x1 : Int32) (res : Int32 × Unit) (hm : BitWriter_leftBehind F v_openCount x1 = some res) : Met l y_BitWriter_leftBehind (Cond.code y_BitWriter_leftBehind b_BitWriter_leftBehind 2 (some .int) :: x_tb) BitWriter_leftBehind_rm (va_Pc [.ref a_this, .int x1] (xPre E (BitWriter_leftBehind_w E a_this x_data v_openCount v_length v_open) sz)) (xQi E (fun (r : Int32) (u : Unit) => r = res.1 ∧ u = res.2) (fun (u : Unit) => (BitWriter_leftBehind_w E a_this x_data v_openCount v_length v_open)) (va_A (BitWriter_leftBehind_w E a_this x_data v_openCount v_length v_open) sz)) 0 0 (va_A (BitWriter_leftBehind_w E a_this x_data v_openCount v_length v_open) sz) := by
  refine xEnI (by decide) (Nat.le_of_ble_eq_true rfl) ?_
  intro p e s m args below meth c A ls Q hx hb hnm hts hown hml hK hA hI hN hret hP hD hS hl
  replace hown : s.vm.findClass R_BitWriter = some m.cls := hown
  replace hl : lv_has ls 2 [(0, .ref a_this), (1, .int x1)] := hl
  obtain ⟨H, eH⟩ : ∃ z, z = s.heap := ⟨_, rfl⟩
  obtain ⟨locs, eL⟩ : ∃ z : List Loc, z = [] := ⟨_, rfl⟩
  rw [show W p l e BitWriter_leftBehind_rm s m args below meth c s.heap [] 0 0 Q (F0 m 0 ls []) = W p l e BitWriter_leftBehind_rm s m args below meth c H locs 0 0 Q (F0 m 0 ls []) by rw [eH, eL]]
  replace hP : va_P E.1 vwCl (BitWriter_leftBehind_w E a_this x_data v_openCount v_length v_open) H := by rw [eH]; exact hP
  replace hS : va_S A s.heap H locs := by rw [eH, eL]; exact hS
  clear eH eL
  rw [BitWriter_leftBehind] at hm
  refine lv_aload_n hx hb d_BitWriter_leftBehind_0 rfl (lv_at hl 0 rfl) ?_
  refine va_get (D := E.1) (ci := 1) (v := .int v_openCount) (C := R_BitWriter) (T := F_BitWriter) (N := 4) hx hb hts i_BitWriter hown hK hP 0 rfl rfl 3 (by decide) (hts _ tw_123) (fun _ h9 => h9) rfl d_BitWriter_leftBehind_1 ?_
  refine lv_iload_n hx hb d_BitWriter_leftBehind_4 rfl (lv_at hl 1 rfl) ?_
  refine lv_iadd hx hb d_BitWriter_leftBehind_5 ?_
  refine lv_ineg hx hb d_BitWriter_leftBehind_6 ?_
  refine lv_bipush (v := 7) hx hb d_BitWriter_leftBehind_7 (by decide) ?_
  refine lv_iand hx hb d_BitWriter_leftBehind_9 ?_
  replace hm := Option.some.inj hm
  subst hm
  exact hret d_BitWriter_leftBehind_10 (u := ()) ⟨rfl, rfl⟩ hP hD hS
theorem d_BitWriter_align_0 : decode b_BitWriter_align 0 = .ok (.aload_n 0, 1) := by decide +kernel
theorem d_BitWriter_align_1 : decode b_BitWriter_align 1 = .ok (.iconst 0, 1) := by decide +kernel
theorem d_BitWriter_align_2 : decode b_BitWriter_align 2 = .ok (.aload_n 0, 1) := by decide +kernel
theorem d_BitWriter_align_3 : decode b_BitWriter_align 3 = .ok (.iconst 0, 1) := by decide +kernel
theorem d_BitWriter_align_4 : decode b_BitWriter_align 4 = .ok (.invokevirtual 25, 3) := by decide +kernel
theorem d_BitWriter_align_7 : decode b_BitWriter_align 7 = .ok (.invokevirtual 29, 3) := by decide +kernel
theorem d_BitWriter_align_10 : decode b_BitWriter_align 10 = .ok (.return_, 1) := by decide +kernel
abbrev BitWriter_align_w (E : xE) (a_this : Nat) (a_data : Nat) (v_length : Int32) (v_open : Int32) (v_openCount : Int32) (c_data : Nat → Int32) : va_W := [(a_this, .inr (1, [.ref a_data, .int v_length, .int v_open, .int v_openCount])), (a_data, .inl (E.2.2.1, 8256, .inl c_data))]
def BitWriter_align (F : Nat) (v_length : Int32) (v_open : Int32) (v_openCount : Int32) (c_data : Nat → Int32) : Option (Unit × Int32 × Int32 × Int32 × (Nat → Int32)) :=
  mR0 (BitWriter_leftBehind F v_openCount 0) fun r_1 => mR4 (BitWriter_number F v_length v_open v_openCount c_data 0 r_1) fun _ v_length_2 v_open_3 v_openCount_4 c_data_5 => some ((), v_length_2, v_open_3, v_openCount_4, c_data_5)
abbrev BitWriter_align_rm : Room := { frames := 1, cells := 0, slots := 0, locals := 22 }
set_option maxHeartbeats 4000000 in
set_option maxRecDepth 100000 in
theorem c_BitWriter_align (l : Launch) (E : xE) (F sz : Nat) (a_this : Nat) (a_data : Nat) (v_length : Int32) (v_open : Int32) (v_openCount : Int32) (c_data : Nat → Int32) (res : Unit × Int32 × Int32 × Int32 × (Nat → Int32)) (hm : BitWriter_align F v_length v_open v_openCount c_data = some res) : Met l y_BitWriter_align (Cond.code y_BitWriter_align b_BitWriter_align 1 none :: x_tb) BitWriter_align_rm (va_Pc [.ref a_this] (xPre E (BitWriter_align_w E a_this a_data v_length v_open v_openCount c_data) sz)) (xQv E (fun (u : Int32 × Int32 × Int32 × (Nat → Int32)) => u = res.2) (fun (u : Int32 × Int32 × Int32 × (Nat → Int32)) => (BitWriter_align_w E a_this a_data u.1 u.2.1 u.2.2.1 u.2.2.2)) (va_A (BitWriter_align_w E a_this a_data v_length v_open v_openCount c_data) sz)) 0 0 (va_A (BitWriter_align_w E a_this a_data v_length v_open v_openCount c_data) sz) := by
  refine xEnV (by decide) (Nat.le_of_ble_eq_true rfl) ?_
  intro p e s m args below meth c A ls Q hx hb hnm hts hown hml hK hA hI hN hret hP hD hS hl
  replace hown : s.vm.findClass R_BitWriter = some m.cls := hown
  replace hl : lv_has ls 1 [(0, .ref a_this)] := hl
  obtain ⟨H, eH⟩ : ∃ z, z = s.heap := ⟨_, rfl⟩
  obtain ⟨locs, eL⟩ : ∃ z : List Loc, z = [] := ⟨_, rfl⟩
  rw [show W p l e BitWriter_align_rm s m args below meth c s.heap [] 0 0 Q (F0 m 0 ls []) = W p l e BitWriter_align_rm s m args below meth c H locs 0 0 Q (F0 m 0 ls []) by rw [eH, eL]]
  replace hP : va_P E.1 vwCl (BitWriter_align_w E a_this a_data v_length v_open v_openCount c_data) H := by rw [eH]; exact hP
  replace hS : va_S A s.heap H locs := by rw [eH, eL]; exact hS
  clear eH eL
  rw [BitWriter_align] at hm
  refine lv_aload_n hx hb d_BitWriter_align_0 rfl (lv_at hl 0 rfl) ?_
  refine lv_iconst (v := 0) hx hb d_BitWriter_align_1 (by decide) ?_
  refine lv_aload_n hx hb d_BitWriter_align_2 rfl (lv_at hl 0 rfl) ?_
  refine lv_iconst (v := 0) hx hb d_BitWriter_align_3 (by decide) ?_
  obtain ⟨r_1, hc4, hm⟩ := mR0_e hm
  refine xmi (wc := (BitWriter_leftBehind_w E a_this (.ref a_data) v_openCount v_length v_open)) [true, false] [0] [0] hP hD hS hA rfl (by decide) (by decide) 1 (by decide) (fun _ => rfl) (fun hPc hDc hFc => va_runV (As := [.int 0]) (rest := [.int 0, .ref a_this]) ⟨hx, hb, hml, hown, hts⟩ (c_BitWriter_leftBehind l E F H.size a_this (.ref a_data) v_openCount v_length v_open 0 (r_1, ()) hc4) (cwV 1 hts (x_gV tw_584 tw_523 tw_524 tw_70 tw_525) rfl rfl rfl (by decide +kernel) ⟨Nat.le_of_ble_eq_true rfl, Nat.le_of_ble_eq_true rfl⟩) (xPV 1 0 rfl rfl hPc hDc hFc hK hI hN hS) rfl rfl hl.1 rfl (lv_room (Nat.le_of_ble_eq_true rfl)) d_BitWriter_align_4 ⟨Nat.le_of_ble_eq_true rfl, Nat.le_of_ble_eq_true rfl⟩) (fun r9 u9 H locs hw hP hD hS => ?_)
  have hw1 : r_1 = r9 := hw.1.symm
  subst hw1
  replace hP : va_P E.1 vwCl (BitWriter_align_w E a_this a_data v_length v_open v_openCount c_data) H := hP
  replace hD : va_D A (BitWriter_align_w E a_this a_data v_length v_open v_openCount c_data) := hD
  obtain ⟨r_6, v_length_2, v_open_3, v_openCount_4, c_data_5, hc7, hm⟩ := mR4_e hm
  refine xmv (wc := (BitWriter_number_w E a_this a_data v_length v_open v_openCount c_data)) [true, true] [0, 1] [0, 1] hP hD hS hA rfl (by decide) (by decide) 2 (by decide) (fun _ => rfl) (fun hPc hDc hFc => va_runV (As := [.int 0, .int r_1]) (rest := []) ⟨hx, hb, hml, hown, hts⟩ (c_BitWriter_number l E F H.size a_this a_data v_length v_open v_openCount c_data 0 r_1 (r_6, v_length_2, v_open_3, v_openCount_4, c_data_5) hc7) (cwV 2 hts (x_gV tw_585 tw_453 tw_454 tw_70 tw_455) rfl rfl rfl (by decide +kernel) ⟨Nat.le_of_ble_eq_true rfl, Nat.le_of_ble_eq_true rfl⟩) (xPV 1 0 rfl rfl hPc hDc hFc hK hI hN hS) rfl rfl hl.1 rfl (lv_room (Nat.le_of_ble_eq_true rfl)) d_BitWriter_align_7 ⟨Nat.le_of_ble_eq_true rfl, Nat.le_of_ble_eq_true rfl⟩) (fun u9 H locs hw hP hD hS => ?_)
  have hw2 : (v_length_2, v_open_3, v_openCount_4, c_data_5) = u9 := hw.symm
  subst hw2
  replace hP : va_P E.1 vwCl (BitWriter_align_w E a_this a_data v_length_2 v_open_3 v_openCount_4 c_data_5) H := hP
  replace hD : va_D A (BitWriter_align_w E a_this a_data v_length_2 v_open_3 v_openCount_4 c_data_5) := hD
  replace hm := Option.some.inj hm
  subst hm
  exact hret d_BitWriter_align_10 (u := (v_length_2, v_open_3, v_openCount_4, c_data_5)) rfl hP hD hS
theorem d_BitWriter_copyTo_0 : decode b_BitWriter_copyTo 0 = .ok (.iconst 0, 1) := by decide +kernel
theorem d_BitWriter_copyTo_1 : decode b_BitWriter_copyTo 1 = .ok (.istore_n 2, 1) := by decide +kernel
theorem d_BitWriter_copyTo_2 : decode b_BitWriter_copyTo 2 = .ok (.iload_n 2, 1) := by decide +kernel
theorem d_BitWriter_copyTo_3 : decode b_BitWriter_copyTo 3 = .ok (.aload_n 0, 1) := by decide +kernel
theorem d_BitWriter_copyTo_4 : decode b_BitWriter_copyTo 4 = .ok (.getfield 15, 3) := by decide +kernel
theorem d_BitWriter_copyTo_7 : decode b_BitWriter_copyTo 7 = .ok (.if_icmp .ge 28, 3) := by decide +kernel
theorem d_BitWriter_copyTo_10 : decode b_BitWriter_copyTo 10 = .ok (.iload_n 2, 1) := by decide +kernel
theorem d_BitWriter_copyTo_11 : decode b_BitWriter_copyTo 11 = .ok (.aload_n 0, 1) := by decide +kernel
theorem d_BitWriter_copyTo_12 : decode b_BitWriter_copyTo 12 = .ok (.getfield 11, 3) := by decide +kernel
theorem d_BitWriter_copyTo_15 : decode b_BitWriter_copyTo 15 = .ok (.arraylength, 1) := by decide +kernel
theorem d_BitWriter_copyTo_16 : decode b_BitWriter_copyTo 16 = .ok (.if_icmp .ge 19, 3) := by decide +kernel
theorem d_BitWriter_copyTo_19 : decode b_BitWriter_copyTo 19 = .ok (.aload_n 1, 1) := by decide +kernel
theorem d_BitWriter_copyTo_20 : decode b_BitWriter_copyTo 20 = .ok (.aload_n 0, 1) := by decide +kernel
theorem d_BitWriter_copyTo_21 : decode b_BitWriter_copyTo 21 = .ok (.getfield 11, 3) := by decide +kernel
theorem d_BitWriter_copyTo_24 : decode b_BitWriter_copyTo 24 = .ok (.iload_n 2, 1) := by decide +kernel
theorem d_BitWriter_copyTo_25 : decode b_BitWriter_copyTo 25 = .ok (.baload, 1) := by decide +kernel
theorem d_BitWriter_copyTo_26 : decode b_BitWriter_copyTo 26 = .ok (.invokevirtual 33, 3) := by decide +kernel
theorem d_BitWriter_copyTo_29 : decode b_BitWriter_copyTo 29 = .ok (.iinc 2 1, 3) := by decide +kernel
theorem d_BitWriter_copyTo_32 : decode b_BitWriter_copyTo 32 = .ok (.goto (-30), 3) := by decide +kernel
theorem d_BitWriter_copyTo_35 : decode b_BitWriter_copyTo 35 = .ok (.return_, 1) := by decide +kernel
def BitWriter_copyTo_2 (F : Nat) (n_p1_data : Nat) (v_length : Int32) (c_data : Nat → Int32) (k_2 : Int32 → (Nat → Int32) → Int32 → Option (Unit × Int32 × (Nat → Int32))) (v_p1_length : Int32) (c_p1_data : Nat → Int32) (x2 : Int32) : Option (Unit × Int32 × (Nat → Int32)) :=
  mC (v_length ≤ x2) (some ((), v_p1_length, c_p1_data)) (mC (8256 ≤ x2) (some ((), v_p1_length, c_p1_data)) (mG x2 8256 (mL (c_data x2.toNatClampNeg) fun t_1 => mR2 (Bytes_add F n_p1_data v_p1_length c_p1_data t_1) fun _ v_length_2 c_data_3 => mL (x2 + 1) fun y2_5 => k_2 v_length_2 c_data_3 y2_5)))
abbrev BitWriter_copyTo_w (E : xE) (a_this : Nat) (a_data : Nat) (a_p1 : Nat) (a_p1_data : Nat) (n_p1_data : Nat) (v_length : Int32) (c_data : Nat → Int32) (v_p1_length : Int32) (c_p1_data : Nat → Int32) (v_open : Int32) (v_openCount : Int32) : va_W := [(a_this, .inr (1, [.ref a_data, .int v_length, .int v_open, .int v_openCount])), (a_data, .inl (E.2.2.1, 8256, .inl c_data)), (a_p1, .inr (2, [.ref a_p1_data, .int v_p1_length])), (a_p1_data, .inl (E.2.2.1, n_p1_data, .inl c_p1_data))]
def BitWriter_copyTo (F : Nat) (n_p1_data : Nat) (v_length : Int32) (c_data : Nat → Int32) (v_p1_length : Int32) (c_p1_data : Nat → Int32) : Option (Unit × Int32 × (Nat → Int32)) :=
  (mW3 (BitWriter_copyTo_2 F n_p1_data v_length c_data) F) v_p1_length c_p1_data 0
abbrev BitWriter_copyTo_rm : Room := { frames := 1, cells := 0, slots := 0, locals := 21 }
set_option maxHeartbeats 4000000 in
set_option maxRecDepth 100000 in
theorem c_BitWriter_copyTo (l : Launch) (E : xE) (F sz : Nat) (a_this : Nat) (a_data : Nat) (a_p1 : Nat) (a_p1_data : Nat) (n_p1_data : Nat) (v_length : Int32) (c_data : Nat → Int32) (v_p1_length : Int32) (c_p1_data : Nat → Int32) (v_open : Int32) (v_openCount : Int32) (res : Unit × Int32 × (Nat → Int32)) (hm : BitWriter_copyTo F n_p1_data v_length c_data v_p1_length c_p1_data = some res) : Met l y_BitWriter_copyTo (Cond.code y_BitWriter_copyTo b_BitWriter_copyTo 3 none :: x_tb) BitWriter_copyTo_rm (va_Pc [.ref a_this, .ref a_p1] (xPre E (BitWriter_copyTo_w E a_this a_data a_p1 a_p1_data n_p1_data v_length c_data v_p1_length c_p1_data v_open v_openCount) sz)) (xQv E (fun (u : Int32 × (Nat → Int32)) => u = res.2) (fun (u : Int32 × (Nat → Int32)) => (BitWriter_copyTo_w E a_this a_data a_p1 a_p1_data n_p1_data v_length c_data u.1 u.2 v_open v_openCount)) (va_A (BitWriter_copyTo_w E a_this a_data a_p1 a_p1_data n_p1_data v_length c_data v_p1_length c_p1_data v_open v_openCount) sz)) 0 0 (va_A (BitWriter_copyTo_w E a_this a_data a_p1 a_p1_data n_p1_data v_length c_data v_p1_length c_p1_data v_open v_openCount) sz) := by
  refine xEnV (by decide) (Nat.le_of_ble_eq_true rfl) ?_
  intro p e s m args below meth c A ls Q hx hb hnm hts hown hml hK hA hI hN hret hP hD hS hl
  replace hown : s.vm.findClass R_BitWriter = some m.cls := hown
  replace hl : lv_has ls 3 [(0, .ref a_this), (1, .ref a_p1)] := hl
  obtain ⟨H, eH⟩ : ∃ z, z = s.heap := ⟨_, rfl⟩
  obtain ⟨locs, eL⟩ : ∃ z : List Loc, z = [] := ⟨_, rfl⟩
  rw [show W p l e BitWriter_copyTo_rm s m args below meth c s.heap [] 0 0 Q (F0 m 0 ls []) = W p l e BitWriter_copyTo_rm s m args below meth c H locs 0 0 Q (F0 m 0 ls []) by rw [eH, eL]]
  replace hP : va_P E.1 vwCl (BitWriter_copyTo_w E a_this a_data a_p1 a_p1_data n_p1_data v_length c_data v_p1_length c_p1_data v_open v_openCount) H := by rw [eH]; exact hP
  replace hS : va_S A s.heap H locs := by rw [eH, eL]; exact hS
  clear eH eL
  rw [BitWriter_copyTo] at hm
  have h_2 : ∀ (n_2 : Nat) (v_p1_length : Int32) (c_p1_data : Nat → Int32) (x2 : Int32) (H : Heap) (locs : List Loc) (ls : Array Slot), (mW3 (BitWriter_copyTo_2 F n_p1_data v_length c_data) n_2) v_p1_length c_p1_data x2 = some res → va_P E.1 vwCl (BitWriter_copyTo_w E a_this a_data a_p1 a_p1_data n_p1_data v_length c_data v_p1_length c_p1_data v_open v_openCount) H → va_D A (BitWriter_copyTo_w E a_this a_data a_p1 a_p1_data n_p1_data v_length c_data v_p1_length c_p1_data v_open v_openCount) → va_S A s.heap H locs → lv_has ls 3 [(0, .ref a_this), (1, .ref a_p1), (2, .int x2)] → W p l e BitWriter_copyTo_rm s m args below meth c H locs 0 0 Q (F0 m 2 ls []) := by
    intro n_2
    induction n_2 with
    | zero => exact fun _ _ _ _ _ _ hm _ _ _ _ => (mW3_z hm).elim
    | succ n_2 ih_2 =>
      intro v_p1_length c_p1_data x2 H locs ls hm hP hD hS hl
      replace hm := mW3_s hm
      rw [BitWriter_copyTo_2] at hm
      refine lv_iload_n hx hb d_BitWriter_copyTo_2 rfl (lv_at hl 2 rfl) ?_
      refine lv_aload_n hx hb d_BitWriter_copyTo_3 rfl (lv_at hl 0 rfl) ?_
      refine va_get (D := E.1) (ci := 1) (v := .int v_length) (C := R_BitWriter) (T := F_BitWriter) (N := 4) hx hb hts i_BitWriter hown hK hP 0 rfl rfl 1 (by decide) (hts _ tw_121) (fun _ h9 => h9) rfl d_BitWriter_copyTo_4 ?_
      refine lv_icmp_ge (tgt := 35) hx hb d_BitWriter_copyTo_7 (by decide) (fun c7 => ?_) (fun c7 => ?_)
      · replace hm := mC_t hm c7
        replace hm := Option.some.inj hm
        subst hm
        exact hret d_BitWriter_copyTo_35 (u := (v_p1_length, c_p1_data)) rfl hP hD hS
      · replace hm := mC_f hm c7
        refine lv_iload_n hx hb d_BitWriter_copyTo_10 rfl (lv_at hl 2 rfl) ?_
        refine lv_aload_n hx hb d_BitWriter_copyTo_11 rfl (lv_at hl 0 rfl) ?_
        refine va_get (D := E.1) (ci := 1) (v := .ref a_data) (C := R_BitWriter) (T := F_BitWriter) (N := 4) hx hb hts i_BitWriter hown hK hP 0 rfl rfl 0 (by decide) (hts _ tw_120) (fun _ h9 => h9) rfl d_BitWriter_copyTo_12 ?_
        refine va_alen (v := 8256) hx hb hK hP 1 1 rfl rfl rfl d_BitWriter_copyTo_15 ?_
        refine lv_icmp_ge (tgt := 35) hx hb d_BitWriter_copyTo_16 (by decide) (fun c16 => ?_) (fun c16 => ?_)
        · replace hm := mC_t hm c16
          replace hm := Option.some.inj hm
          subst hm
          exact hret d_BitWriter_copyTo_35 (u := (v_p1_length, c_p1_data)) rfl hP hD hS
        · replace hm := mC_f hm c16
          refine lv_aload_n hx hb d_BitWriter_copyTo_19 rfl (lv_at hl 1 rfl) ?_
          refine lv_aload_n hx hb d_BitWriter_copyTo_20 rfl (lv_at hl 0 rfl) ?_
          refine va_get (D := E.1) (ci := 1) (v := .ref a_data) (C := R_BitWriter) (T := F_BitWriter) (N := 4) hx hb hts i_BitWriter hown hK hP 0 rfl rfl 0 (by decide) (hts _ tw_120) (fun _ h9 => h9) rfl d_BitWriter_copyTo_21 ?_
          refine lv_iload_n hx hb d_BitWriter_copyTo_24 rfl (lv_at hl 2 rfl) ?_
          obtain ⟨hi25, hm⟩ := mG_e hm
          refine va_bald hx hb hK hP 1 1 rfl rfl hi25 d_BitWriter_copyTo_25 ?_
          obtain ⟨t_1, et_1⟩ : ∃ z : Int32, z = c_data x2.toNatClampNeg := ⟨_, rfl⟩
          rw [← et_1]
          replace hm := mL_e hm t_1 et_1
          obtain ⟨r_4, v_length_2, c_data_3, hc26, hm⟩ := mR2_e hm
          refine xmv (wc := (Bytes_add_w E a_p1 a_p1_data n_p1_data v_p1_length c_p1_data)) [false, false, true, true] [0, 1] [0, 1] hP hD hS hA rfl (by decide) (by decide) 2 (by decide) (fun _ => rfl) (fun hPc hDc hFc => va_runV (As := [.int t_1]) (rest := []) ⟨hx, hb, hml, hown, hts⟩ (c_Bytes_add l E F H.size a_p1 a_p1_data n_p1_data v_p1_length c_p1_data t_1 (r_4, v_length_2, c_data_3) hc26) (cwV 1 hts (x_gV tw_630 tw_426 tw_427 tw_67 tw_428) rfl rfl rfl (by decide +kernel) ⟨Nat.le_of_ble_eq_true rfl, Nat.le_of_ble_eq_true rfl⟩) (xPV 2 0 rfl rfl hPc hDc hFc hK hI hN hS) rfl rfl hl.1 rfl (lv_room (Nat.le_of_ble_eq_true rfl)) d_BitWriter_copyTo_26 ⟨Nat.le_of_ble_eq_true rfl, Nat.le_of_ble_eq_true rfl⟩) (fun u9 H locs hw hP hD hS => ?_)
          have hw2 : (v_length_2, c_data_3) = u9 := hw.symm
          subst hw2
          replace hP : va_P E.1 vwCl (BitWriter_copyTo_w E a_this a_data a_p1 a_p1_data n_p1_data v_length c_data v_length_2 c_data_3 v_open v_openCount) H := hP
          replace hD : va_D A (BitWriter_copyTo_w E a_this a_data a_p1 a_p1_data n_p1_data v_length c_data v_length_2 c_data_3 v_open v_openCount) := hD
          obtain ⟨y2_5, ey2_5⟩ : ∃ y : Int32, y = x2 + 1 := ⟨_, rfl⟩
          replace hm := mL_e hm y2_5 ey2_5
          refine lv_iinc (v := y2_5) (lv' := [(2, .int y2_5), (0, .ref a_this), (1, .ref a_p1)]) hx hb d_BitWriter_copyTo_29 hl (k := 2) rfl (by rw [ey2_5]; rfl) (by decide) rfl (fun ls hl => ?_)
          refine lv_goto (tgt := 2) hx hb d_BitWriter_copyTo_32 (by decide) ?_
          exact ih_2 _ _ _ H locs ls hm hP hD hS (lv_sub hl [1, 2, 0] rfl)
  refine lv_iconst (v := 0) hx hb d_BitWriter_copyTo_0 (by decide) ?_
  refine lv_istore_n (lv' := [(2, .int 0), (0, .ref a_this), (1, .ref a_p1)]) hx hb d_BitWriter_copyTo_1 rfl hl (by decide) rfl (fun ls hl => ?_)
  exact h_2 F _ _ _ H locs ls hm hP hD hS (lv_sub hl [1, 2, 0] rfl)
theorem d_BitReader_open_0 : decode b_BitReader_open 0 = .ok (.aload_n 0, 1) := by decide +kernel
theorem d_BitReader_open_1 : decode b_BitReader_open 1 = .ok (.bipush 8, 2) := by decide +kernel
theorem d_BitReader_open_3 : decode b_BitReader_open 3 = .ok (.iload_n 1, 1) := by decide +kernel
theorem d_BitReader_open_4 : decode b_BitReader_open 4 = .ok (.imul, 1) := by decide +kernel
theorem d_BitReader_open_5 : decode b_BitReader_open 5 = .ok (.putfield 13, 3) := by decide +kernel
theorem d_BitReader_open_8 : decode b_BitReader_open 8 = .ok (.aload_n 0, 1) := by decide +kernel
theorem d_BitReader_open_9 : decode b_BitReader_open 9 = .ok (.aload_n 0, 1) := by decide +kernel
theorem d_BitReader_open_10 : decode b_BitReader_open 10 = .ok (.getfield 13, 3) := by decide +kernel
theorem d_BitReader_open_13 : decode b_BitReader_open 13 = .ok (.bipush 8, 2) := by decide +kernel
theorem d_BitReader_open_15 : decode b_BitReader_open 15 = .ok (.iload_n 2, 1) := by decide +kernel
theorem d_BitReader_open_16 : decode b_BitReader_open 16 = .ok (.imul, 1) := by decide +kernel
theorem d_BitReader_open_17 : decode b_BitReader_open 17 = .ok (.iadd, 1) := by decide +kernel
theorem d_BitReader_open_18 : decode b_BitReader_open 18 = .ok (.putfield 17, 3) := by decide +kernel
theorem d_BitReader_open_21 : decode b_BitReader_open 21 = .ok (.return_, 1) := by decide +kernel
abbrev BitReader_open_w (E : xE) (a_this : Nat) (x_row : Value) (v_at : Int32) (v_end : Int32) : va_W := [(a_this, .inr (0, [x_row, .int v_at, .int v_end]))]
def BitReader_open (F : Nat) (v_at : Int32) (v_end : Int32) (x1 : Int32) (x2 : Int32) : Option (Unit × Int32 × Int32) :=
  mL (8 * x1) fun v_1 => mL (v_1 + (8 * x2)) fun v_2 => some ((), v_1, v_2)
abbrev BitReader_open_rm : Room := { frames := 0, cells := 0, slots := 0, locals := 0 }
set_option maxHeartbeats 4000000 in
set_option maxRecDepth 100000 in
theorem c_BitReader_open (l : Launch) (E : xE) (F sz : Nat) (a_this : Nat) (x_row : Value) (v_at : Int32) (v_end : Int32) (x1 : Int32) (x2 : Int32) (res : Unit × Int32 × Int32) (hm : BitReader_open F v_at v_end x1 x2 = some res) : Met l y_BitReader_open (Cond.code y_BitReader_open b_BitReader_open 3 none :: x_tb) BitReader_open_rm (va_Pc [.ref a_this, .int x1, .int x2] (xPre E (BitReader_open_w E a_this x_row v_at v_end) sz)) (xQv E (fun (u : Int32 × Int32) => u = res.2) (fun (u : Int32 × Int32) => (BitReader_open_w E a_this x_row u.1 u.2)) (va_A (BitReader_open_w E a_this x_row v_at v_end) sz)) 0 0 (va_A (BitReader_open_w E a_this x_row v_at v_end) sz) := by
  refine xEnV (by decide) (Nat.le_of_ble_eq_true rfl) ?_
  intro p e s m args below meth c A ls Q hx hb hnm hts hown hml hK hA hI hN hret hP hD hS hl
  replace hown : s.vm.findClass R_BitReader = some m.cls := hown
  replace hl : lv_has ls 3 [(0, .ref a_this), (1, .int x1), (2, .int x2)] := hl
  obtain ⟨H, eH⟩ : ∃ z, z = s.heap := ⟨_, rfl⟩
  obtain ⟨locs, eL⟩ : ∃ z : List Loc, z = [] := ⟨_, rfl⟩
  rw [show W p l e BitReader_open_rm s m args below meth c s.heap [] 0 0 Q (F0 m 0 ls []) = W p l e BitReader_open_rm s m args below meth c H locs 0 0 Q (F0 m 0 ls []) by rw [eH, eL]]
  replace hP : va_P E.1 vwCl (BitReader_open_w E a_this x_row v_at v_end) H := by rw [eH]; exact hP
  replace hS : va_S A s.heap H locs := by rw [eH, eL]; exact hS
  clear eH eL
  rw [BitReader_open] at hm
  refine lv_aload_n hx hb d_BitReader_open_0 rfl (lv_at hl 0 rfl) ?_
  refine lv_bipush (v := 8) hx hb d_BitReader_open_1 (by decide) ?_
  refine lv_iload_n hx hb d_BitReader_open_3 rfl (lv_at hl 1 rfl) ?_
  refine lv_imul hx hb d_BitReader_open_4 ?_
  refine lv_topi (fun v_1 ev_1 => ?_)
  replace hm := mL_e hm v_1 ev_1
  refine va_put (D := E.1) (ci := 0) (v := .int v_1) (ty := .int) (C := R_BitReader) (T := F_BitReader) (N := 3) hx hb hts i_BitReader t_BitReader t_BitReader_ok n_BitReader hown hK hP hD hS 0 rfl rfl 1 (by decide) (hts _ tw_306) (fun _ h9 => h9) rfl (by decide +kernel) rfl rfl (Nat.le_of_ble_eq_true rfl) d_BitReader_open_5 (fun H locs hP hD hS => ?_)
  replace hP : va_P E.1 vwCl (BitReader_open_w E a_this x_row v_1 v_end) H := hP
  replace hD : va_D A (BitReader_open_w E a_this x_row v_1 v_end) := hD
  refine lv_aload_n hx hb d_BitReader_open_8 rfl (lv_at hl 0 rfl) ?_
  refine lv_aload_n hx hb d_BitReader_open_9 rfl (lv_at hl 0 rfl) ?_
  refine va_get (D := E.1) (ci := 0) (v := .int v_1) (C := R_BitReader) (T := F_BitReader) (N := 3) hx hb hts i_BitReader hown hK hP 0 rfl rfl 1 (by decide) (hts _ tw_306) (fun _ h9 => h9) rfl d_BitReader_open_10 ?_
  refine lv_bipush (v := 8) hx hb d_BitReader_open_13 (by decide) ?_
  refine lv_iload_n hx hb d_BitReader_open_15 rfl (lv_at hl 2 rfl) ?_
  refine lv_imul hx hb d_BitReader_open_16 ?_
  refine lv_iadd hx hb d_BitReader_open_17 ?_
  refine lv_topi (fun v_2 ev_2 => ?_)
  replace hm := mL_e hm v_2 ev_2
  refine va_put (D := E.1) (ci := 0) (v := .int v_2) (ty := .int) (C := R_BitReader) (T := F_BitReader) (N := 3) hx hb hts i_BitReader t_BitReader t_BitReader_ok n_BitReader hown hK hP hD hS 0 rfl rfl 2 (by decide) (hts _ tw_307) (fun _ h9 => h9) rfl (by decide +kernel) rfl rfl (Nat.le_of_ble_eq_true rfl) d_BitReader_open_18 (fun H locs hP hD hS => ?_)
  replace hP : va_P E.1 vwCl (BitReader_open_w E a_this x_row v_1 v_2) H := hP
  replace hD : va_D A (BitReader_open_w E a_this x_row v_1 v_2) := hD
  replace hm := Option.some.inj hm
  subst hm
  exact hret d_BitReader_open_21 (u := (v_1, v_2)) rfl hP hD hS
theorem d_BitReader_bitsLeft_0 : decode b_BitReader_bitsLeft 0 = .ok (.aload_n 0, 1) := by decide +kernel
theorem d_BitReader_bitsLeft_1 : decode b_BitReader_bitsLeft 1 = .ok (.getfield 17, 3) := by decide +kernel
theorem d_BitReader_bitsLeft_4 : decode b_BitReader_bitsLeft 4 = .ok (.aload_n 0, 1) := by decide +kernel
theorem d_BitReader_bitsLeft_5 : decode b_BitReader_bitsLeft 5 = .ok (.getfield 13, 3) := by decide +kernel
theorem d_BitReader_bitsLeft_8 : decode b_BitReader_bitsLeft 8 = .ok (.isub, 1) := by decide +kernel
theorem d_BitReader_bitsLeft_9 : decode b_BitReader_bitsLeft 9 = .ok (.ireturn, 1) := by decide +kernel
abbrev BitReader_bitsLeft_w (E : xE) (a_this : Nat) (x_row : Value) (v_at : Int32) (v_end : Int32) : va_W := [(a_this, .inr (0, [x_row, .int v_at, .int v_end]))]
def BitReader_bitsLeft (F : Nat) (v_at : Int32) (v_end : Int32) : Option (Int32 × Unit) :=
  some (v_end - v_at, ())
abbrev BitReader_bitsLeft_rm : Room := { frames := 0, cells := 0, slots := 0, locals := 0 }
set_option maxHeartbeats 4000000 in
set_option maxRecDepth 100000 in
theorem c_BitReader_bitsLeft (l : Launch) (E : xE) (F sz : Nat) (a_this : Nat) (x_row : Value) (v_at : Int32) (v_end : Int32) (res : Int32 × Unit) (hm : BitReader_bitsLeft F v_at v_end = some res) : Met l y_BitReader_bitsLeft (Cond.code y_BitReader_bitsLeft b_BitReader_bitsLeft 1 (some .int) :: x_tb) BitReader_bitsLeft_rm (va_Pc [.ref a_this] (xPre E (BitReader_bitsLeft_w E a_this x_row v_at v_end) sz)) (xQi E (fun (r : Int32) (u : Unit) => r = res.1 ∧ u = res.2) (fun (u : Unit) => (BitReader_bitsLeft_w E a_this x_row v_at v_end)) (va_A (BitReader_bitsLeft_w E a_this x_row v_at v_end) sz)) 0 0 (va_A (BitReader_bitsLeft_w E a_this x_row v_at v_end) sz) := by
  refine xEnI (by decide) (Nat.le_of_ble_eq_true rfl) ?_
  intro p e s m args below meth c A ls Q hx hb hnm hts hown hml hK hA hI hN hret hP hD hS hl
  replace hown : s.vm.findClass R_BitReader = some m.cls := hown
  replace hl : lv_has ls 1 [(0, .ref a_this)] := hl
  obtain ⟨H, eH⟩ : ∃ z, z = s.heap := ⟨_, rfl⟩
  obtain ⟨locs, eL⟩ : ∃ z : List Loc, z = [] := ⟨_, rfl⟩
  rw [show W p l e BitReader_bitsLeft_rm s m args below meth c s.heap [] 0 0 Q (F0 m 0 ls []) = W p l e BitReader_bitsLeft_rm s m args below meth c H locs 0 0 Q (F0 m 0 ls []) by rw [eH, eL]]
  replace hP : va_P E.1 vwCl (BitReader_bitsLeft_w E a_this x_row v_at v_end) H := by rw [eH]; exact hP
  replace hS : va_S A s.heap H locs := by rw [eH, eL]; exact hS
  clear eH eL
  rw [BitReader_bitsLeft] at hm
  refine lv_aload_n hx hb d_BitReader_bitsLeft_0 rfl (lv_at hl 0 rfl) ?_
  refine va_get (D := E.1) (ci := 0) (v := .int v_end) (C := R_BitReader) (T := F_BitReader) (N := 3) hx hb hts i_BitReader hown hK hP 0 rfl rfl 2 (by decide) (hts _ tw_307) (fun _ h9 => h9) rfl d_BitReader_bitsLeft_1 ?_
  refine lv_aload_n hx hb d_BitReader_bitsLeft_4 rfl (lv_at hl 0 rfl) ?_
  refine va_get (D := E.1) (ci := 0) (v := .int v_at) (C := R_BitReader) (T := F_BitReader) (N := 3) hx hb hts i_BitReader hown hK hP 0 rfl rfl 1 (by decide) (hts _ tw_306) (fun _ h9 => h9) rfl d_BitReader_bitsLeft_5 ?_
  refine lv_isub hx hb d_BitReader_bitsLeft_8 ?_
  replace hm := Option.some.inj hm
  subst hm
  exact hret d_BitReader_bitsLeft_9 (u := ()) ⟨rfl, rfl⟩ hP hD hS
theorem d_BitReader_number_0 : decode b_BitReader_number 0 = .ok (.iload_n 1, 1) := by decide +kernel
theorem d_BitReader_number_1 : decode b_BitReader_number 1 = .ok (.ifCond .lt 16, 3) := by decide +kernel
theorem d_BitReader_number_4 : decode b_BitReader_number 4 = .ok (.iload_n 1, 1) := by decide +kernel
theorem d_BitReader_number_5 : decode b_BitReader_number 5 = .ok (.aload_n 0, 1) := by decide +kernel
theorem d_BitReader_number_6 : decode b_BitReader_number 6 = .ok (.getfield 17, 3) := by decide +kernel
theorem d_BitReader_number_9 : decode b_BitReader_number 9 = .ok (.aload_n 0, 1) := by decide +kernel
theorem d_BitReader_number_10 : decode b_BitReader_number 10 = .ok (.getfield 13, 3) := by decide +kernel
theorem d_BitReader_number_13 : decode b_BitReader_number 13 = .ok (.isub, 1) := by decide +kernel
theorem d_BitReader_number_14 : decode b_BitReader_number 14 = .ok (.if_icmp .le 5, 3) := by decide +kernel
theorem d_BitReader_number_17 : decode b_BitReader_number 17 = .ok (.iconst (-1), 1) := by decide +kernel
theorem d_BitReader_number_18 : decode b_BitReader_number 18 = .ok (.ireturn, 1) := by decide +kernel
theorem d_BitReader_number_19 : decode b_BitReader_number 19 = .ok (.iconst 0, 1) := by decide +kernel
theorem d_BitReader_number_20 : decode b_BitReader_number 20 = .ok (.istore_n 2, 1) := by decide +kernel
theorem d_BitReader_number_21 : decode b_BitReader_number 21 = .ok (.iconst 0, 1) := by decide +kernel
theorem d_BitReader_number_22 : decode b_BitReader_number 22 = .ok (.istore_n 3, 1) := by decide +kernel
theorem d_BitReader_number_23 : decode b_BitReader_number 23 = .ok (.iload_n 3, 1) := by decide +kernel
theorem d_BitReader_number_24 : decode b_BitReader_number 24 = .ok (.iload_n 1, 1) := by decide +kernel
theorem d_BitReader_number_25 : decode b_BitReader_number 25 = .ok (.if_icmp .ge 47, 3) := by decide +kernel
theorem d_BitReader_number_28 : decode b_BitReader_number 28 = .ok (.iload_n 2, 1) := by decide +kernel
theorem d_BitReader_number_29 : decode b_BitReader_number 29 = .ok (.aload_n 0, 1) := by decide +kernel
theorem d_BitReader_number_30 : decode b_BitReader_number 30 = .ok (.getfield 7, 3) := by decide +kernel
theorem d_BitReader_number_33 : decode b_BitReader_number 33 = .ok (.aload_n 0, 1) := by decide +kernel
theorem d_BitReader_number_34 : decode b_BitReader_number 34 = .ok (.getfield 13, 3) := by decide +kernel
theorem d_BitReader_number_37 : decode b_BitReader_number 37 = .ok (.iconst 3, 1) := by decide +kernel
theorem d_BitReader_number_38 : decode b_BitReader_number 38 = .ok (.ishr, 1) := by decide +kernel
theorem d_BitReader_number_39 : decode b_BitReader_number 39 = .ok (.invokevirtual 20, 3) := by decide +kernel
theorem d_BitReader_number_42 : decode b_BitReader_number 42 = .ok (.aload_n 0, 1) := by decide +kernel
theorem d_BitReader_number_43 : decode b_BitReader_number 43 = .ok (.getfield 13, 3) := by decide +kernel
theorem d_BitReader_number_46 : decode b_BitReader_number 46 = .ok (.bipush 7, 2) := by decide +kernel
theorem d_BitReader_number_48 : decode b_BitReader_number 48 = .ok (.iand, 1) := by decide +kernel
theorem d_BitReader_number_49 : decode b_BitReader_number 49 = .ok (.ishr, 1) := by decide +kernel
theorem d_BitReader_number_50 : decode b_BitReader_number 50 = .ok (.iconst 1, 1) := by decide +kernel
theorem d_BitReader_number_51 : decode b_BitReader_number 51 = .ok (.iand, 1) := by decide +kernel
theorem d_BitReader_number_52 : decode b_BitReader_number 52 = .ok (.iload_n 3, 1) := by decide +kernel
theorem d_BitReader_number_53 : decode b_BitReader_number 53 = .ok (.ishl, 1) := by decide +kernel
theorem d_BitReader_number_54 : decode b_BitReader_number 54 = .ok (.ior, 1) := by decide +kernel
theorem d_BitReader_number_55 : decode b_BitReader_number 55 = .ok (.istore_n 2, 1) := by decide +kernel
theorem d_BitReader_number_56 : decode b_BitReader_number 56 = .ok (.aload_n 0, 1) := by decide +kernel
theorem d_BitReader_number_57 : decode b_BitReader_number 57 = .ok (.dup, 1) := by decide +kernel
theorem d_BitReader_number_58 : decode b_BitReader_number 58 = .ok (.getfield 13, 3) := by decide +kernel
theorem d_BitReader_number_61 : decode b_BitReader_number 61 = .ok (.iconst 1, 1) := by decide +kernel
theorem d_BitReader_number_62 : decode b_BitReader_number 62 = .ok (.iadd, 1) := by decide +kernel
theorem d_BitReader_number_63 : decode b_BitReader_number 63 = .ok (.putfield 13, 3) := by decide +kernel
theorem d_BitReader_number_66 : decode b_BitReader_number 66 = .ok (.iinc 3 1, 3) := by decide +kernel
theorem d_BitReader_number_69 : decode b_BitReader_number 69 = .ok (.goto (-46), 3) := by decide +kernel
theorem d_BitReader_number_72 : decode b_BitReader_number 72 = .ok (.iload_n 2, 1) := by decide +kernel
theorem d_BitReader_number_73 : decode b_BitReader_number 73 = .ok (.ireturn, 1) := by decide +kernel
def BitReader_number_23 (F : Nat) (n_row_data : Nat) (v_row_length : Int32) (c_row_data : Nat → Int32) (x1 : Int32) (k_23 : Int32 → Int32 → Int32 → Option (Int32 × Int32)) (v_at : Int32) (x2 : Int32) (x3 : Int32) : Option (Int32 × Int32) :=
  mC (x1 ≤ x3) (some (x2, v_at)) (mL (v_at >>> ((3 : Int32) &&& 31)) fun t_1 => mR0 (Bytes_at F n_row_data v_row_length c_row_data t_1) fun r_2 => mL (x2 ||| (((r_2 >>> ((v_at &&& 7) &&& 31)) &&& 1) <<< (x3 &&& 31))) fun y2_3 => mL (v_at + 1) fun v_4 => mL (x3 + 1) fun y3_5 => k_23 v_4 y2_3 y3_5)
abbrev BitReader_number_w (E : xE) (a_this : Nat) (a_row : Nat) (a_row_data : Nat) (n_row_data : Nat) (v_end : Int32) (v_row_length : Int32) (c_row_data : Nat → Int32) (v_at : Int32) : va_W := [(a_this, .inr (0, [.ref a_row, .int v_at, .int v_end])), (a_row, .inr (2, [.ref a_row_data, .int v_row_length])), (a_row_data, .inl (E.2.2.1, n_row_data, .inl c_row_data))]
def BitReader_number (F : Nat) (n_row_data : Nat) (v_end : Int32) (v_row_length : Int32) (c_row_data : Nat → Int32) (v_at : Int32) (x1 : Int32) : Option (Int32 × Int32) :=
  mC (x1 < 0) (some ((-1), v_at)) (mC (x1 ≤ (v_end - v_at)) ((mW3 (BitReader_number_23 F n_row_data v_row_length c_row_data x1) F) v_at 0 0) (some ((-1), v_at)))
abbrev BitReader_number_rm : Room := { frames := 1, cells := 0, slots := 0, locals := 21 }
set_option maxHeartbeats 4000000 in
set_option maxRecDepth 100000 in
theorem c_BitReader_number (l : Launch) (E : xE) (F sz : Nat) (a_this : Nat) (a_row : Nat) (a_row_data : Nat) (n_row_data : Nat) (v_end : Int32) (v_row_length : Int32) (c_row_data : Nat → Int32) (v_at : Int32) (x1 : Int32) (res : Int32 × Int32) (hm : BitReader_number F n_row_data v_end v_row_length c_row_data v_at x1 = some res) : Met l y_BitReader_number (Cond.code y_BitReader_number b_BitReader_number 4 (some .int) :: x_tb) BitReader_number_rm (va_Pc [.ref a_this, .int x1] (xPre E (BitReader_number_w E a_this a_row a_row_data n_row_data v_end v_row_length c_row_data v_at) sz)) (xQi E (fun (r : Int32) (u : Int32) => r = res.1 ∧ u = res.2) (fun (u : Int32) => (BitReader_number_w E a_this a_row a_row_data n_row_data v_end v_row_length c_row_data u)) (va_A (BitReader_number_w E a_this a_row a_row_data n_row_data v_end v_row_length c_row_data v_at) sz)) 0 0 (va_A (BitReader_number_w E a_this a_row a_row_data n_row_data v_end v_row_length c_row_data v_at) sz) := by
  refine xEnI (by decide) (Nat.le_of_ble_eq_true rfl) ?_
  intro p e s m args below meth c A ls Q hx hb hnm hts hown hml hK hA hI hN hret hP hD hS hl
  replace hown : s.vm.findClass R_BitReader = some m.cls := hown
  replace hl : lv_has ls 4 [(0, .ref a_this), (1, .int x1)] := hl
  obtain ⟨H, eH⟩ : ∃ z, z = s.heap := ⟨_, rfl⟩
  obtain ⟨locs, eL⟩ : ∃ z : List Loc, z = [] := ⟨_, rfl⟩
  rw [show W p l e BitReader_number_rm s m args below meth c s.heap [] 0 0 Q (F0 m 0 ls []) = W p l e BitReader_number_rm s m args below meth c H locs 0 0 Q (F0 m 0 ls []) by rw [eH, eL]]
  replace hP : va_P E.1 vwCl (BitReader_number_w E a_this a_row a_row_data n_row_data v_end v_row_length c_row_data v_at) H := by rw [eH]; exact hP
  replace hS : va_S A s.heap H locs := by rw [eH, eL]; exact hS
  clear eH eL
  rw [BitReader_number] at hm
  refine lv_iload_n hx hb d_BitReader_number_0 rfl (lv_at hl 1 rfl) ?_
  refine lv_if_lt (tgt := 17) hx hb d_BitReader_number_1 (by decide) (fun c1 => ?_) (fun c1 => ?_)
  · replace hm := mC_t hm c1
    refine lv_iconst (v := (-1)) hx hb d_BitReader_number_17 (by decide) ?_
    replace hm := Option.some.inj hm
    subst hm
    exact hret d_BitReader_number_18 (u := v_at) ⟨rfl, rfl⟩ hP hD hS
  · replace hm := mC_f hm c1
    refine lv_iload_n hx hb d_BitReader_number_4 rfl (lv_at hl 1 rfl) ?_
    refine lv_aload_n hx hb d_BitReader_number_5 rfl (lv_at hl 0 rfl) ?_
    refine va_get (D := E.1) (ci := 0) (v := .int v_end) (C := R_BitReader) (T := F_BitReader) (N := 3) hx hb hts i_BitReader hown hK hP 0 rfl rfl 2 (by decide) (hts _ tw_307) (fun _ h9 => h9) rfl d_BitReader_number_6 ?_
    refine lv_aload_n hx hb d_BitReader_number_9 rfl (lv_at hl 0 rfl) ?_
    refine va_get (D := E.1) (ci := 0) (v := .int v_at) (C := R_BitReader) (T := F_BitReader) (N := 3) hx hb hts i_BitReader hown hK hP 0 rfl rfl 1 (by decide) (hts _ tw_306) (fun _ h9 => h9) rfl d_BitReader_number_10 ?_
    refine lv_isub hx hb d_BitReader_number_13 ?_
    refine lv_icmp_le (tgt := 19) hx hb d_BitReader_number_14 (by decide) (fun c14 => ?_) (fun c14 => ?_)
    · replace hm := mC_t hm c14
      have h_23 : ∀ (n_23 : Nat) (v_at : Int32) (x2 : Int32) (x3 : Int32) (H : Heap) (locs : List Loc) (ls : Array Slot), (mW3 (BitReader_number_23 F n_row_data v_row_length c_row_data x1) n_23) v_at x2 x3 = some res → va_P E.1 vwCl (BitReader_number_w E a_this a_row a_row_data n_row_data v_end v_row_length c_row_data v_at) H → va_D A (BitReader_number_w E a_this a_row a_row_data n_row_data v_end v_row_length c_row_data v_at) → va_S A s.heap H locs → lv_has ls 4 [(0, .ref a_this), (1, .int x1), (2, .int x2), (3, .int x3)] → W p l e BitReader_number_rm s m args below meth c H locs 0 0 Q (F0 m 23 ls []) := by
        intro n_23
        induction n_23 with
        | zero => exact fun _ _ _ _ _ _ hm _ _ _ _ => (mW3_z hm).elim
        | succ n_23 ih_23 =>
          intro v_at x2 x3 H locs ls hm hP hD hS hl
          replace hm := mW3_s hm
          rw [BitReader_number_23] at hm
          refine lv_iload_n hx hb d_BitReader_number_23 rfl (lv_at hl 3 rfl) ?_
          refine lv_iload_n hx hb d_BitReader_number_24 rfl (lv_at hl 1 rfl) ?_
          refine lv_icmp_ge (tgt := 72) hx hb d_BitReader_number_25 (by decide) (fun c25 => ?_) (fun c25 => ?_)
          · replace hm := mC_t hm c25
            refine lv_iload_n hx hb d_BitReader_number_72 rfl (lv_at hl 2 rfl) ?_
            replace hm := Option.some.inj hm
            subst hm
            exact hret d_BitReader_number_73 (u := v_at) ⟨rfl, rfl⟩ hP hD hS
          · replace hm := mC_f hm c25
            refine lv_iload_n hx hb d_BitReader_number_28 rfl (lv_at hl 2 rfl) ?_
            refine lv_aload_n hx hb d_BitReader_number_29 rfl (lv_at hl 0 rfl) ?_
            refine va_get (D := E.1) (ci := 0) (v := .ref a_row) (C := R_BitReader) (T := F_BitReader) (N := 3) hx hb hts i_BitReader hown hK hP 0 rfl rfl 0 (by decide) (hts _ tw_305) (fun _ h9 => h9) rfl d_BitReader_number_30 ?_
            refine lv_aload_n hx hb d_BitReader_number_33 rfl (lv_at hl 0 rfl) ?_
            refine va_get (D := E.1) (ci := 0) (v := .int v_at) (C := R_BitReader) (T := F_BitReader) (N := 3) hx hb hts i_BitReader hown hK hP 0 rfl rfl 1 (by decide) (hts _ tw_306) (fun _ h9 => h9) rfl d_BitReader_number_34 ?_
            refine lv_iconst (v := 3) hx hb d_BitReader_number_37 (by decide) ?_
            refine lv_ishr hx hb d_BitReader_number_38 ?_
            obtain ⟨t_1, et_1⟩ : ∃ z : Int32, z = v_at >>> ((3 : Int32) &&& 31) := ⟨_, rfl⟩
            rw [← et_1]
            replace hm := mL_e hm t_1 et_1
            obtain ⟨r_2, hc39, hm⟩ := mR0_e hm
            refine xmi (wc := (Bytes_at_w E a_row a_row_data n_row_data v_row_length c_row_data)) [false, true, true] [0, 1] [0, 1] hP hD hS hA rfl (by decide) (by decide) 2 (by decide) (fun _ => rfl) (fun hPc hDc hFc => va_runV (As := [.int t_1]) (rest := [.int x2]) ⟨hx, hb, hml, hown, hts⟩ (c_Bytes_at l E F H.size a_row a_row_data n_row_data v_row_length c_row_data t_1 (r_2, ()) hc39) (cwV 1 hts (x_gV tw_710 tw_448 tw_449 tw_67 tw_450) rfl rfl rfl (by decide +kernel) ⟨Nat.le_of_ble_eq_true rfl, Nat.le_of_ble_eq_true rfl⟩) (xPV 2 0 rfl rfl hPc hDc hFc hK hI hN hS) rfl rfl hl.1 rfl (lv_room (Nat.le_of_ble_eq_true rfl)) d_BitReader_number_39 ⟨Nat.le_of_ble_eq_true rfl, Nat.le_of_ble_eq_true rfl⟩) (fun r9 u9 H locs hw hP hD hS => ?_)
            have hw1 : r_2 = r9 := hw.1.symm
            subst hw1
            replace hP : va_P E.1 vwCl (BitReader_number_w E a_this a_row a_row_data n_row_data v_end v_row_length c_row_data v_at) H := hP
            replace hD : va_D A (BitReader_number_w E a_this a_row a_row_data n_row_data v_end v_row_length c_row_data v_at) := hD
            refine lv_aload_n hx hb d_BitReader_number_42 rfl (lv_at hl 0 rfl) ?_
            refine va_get (D := E.1) (ci := 0) (v := .int v_at) (C := R_BitReader) (T := F_BitReader) (N := 3) hx hb hts i_BitReader hown hK hP 0 rfl rfl 1 (by decide) (hts _ tw_306) (fun _ h9 => h9) rfl d_BitReader_number_43 ?_
            refine lv_bipush (v := 7) hx hb d_BitReader_number_46 (by decide) ?_
            refine lv_iand hx hb d_BitReader_number_48 ?_
            refine lv_ishr hx hb d_BitReader_number_49 ?_
            refine lv_iconst (v := 1) hx hb d_BitReader_number_50 (by decide) ?_
            refine lv_iand hx hb d_BitReader_number_51 ?_
            refine lv_iload_n hx hb d_BitReader_number_52 rfl (lv_at hl 3 rfl) ?_
            refine lv_ishl hx hb d_BitReader_number_53 ?_
            refine lv_ior hx hb d_BitReader_number_54 ?_
            refine lv_topi (fun y2_3 ey2_3 => ?_)
            replace hm := mL_e hm y2_3 ey2_3
            refine lv_istore_n (lv' := [(2, .int y2_3), (0, .ref a_this), (1, .int x1), (3, .int x3)]) hx hb d_BitReader_number_55 rfl hl (by decide) rfl (fun ls hl => ?_)
            refine lv_aload_n hx hb d_BitReader_number_56 rfl (lv_at hl 1 rfl) ?_
            refine lv_dup hx hb d_BitReader_number_57 rfl ?_
            refine va_get (D := E.1) (ci := 0) (v := .int v_at) (C := R_BitReader) (T := F_BitReader) (N := 3) hx hb hts i_BitReader hown hK hP 0 rfl rfl 1 (by decide) (hts _ tw_306) (fun _ h9 => h9) rfl d_BitReader_number_58 ?_
            refine lv_iconst (v := 1) hx hb d_BitReader_number_61 (by decide) ?_
            refine lv_iadd hx hb d_BitReader_number_62 ?_
            refine lv_topi (fun v_4 ev_4 => ?_)
            replace hm := mL_e hm v_4 ev_4
            refine va_put (D := E.1) (ci := 0) (v := .int v_4) (ty := .int) (C := R_BitReader) (T := F_BitReader) (N := 3) hx hb hts i_BitReader t_BitReader t_BitReader_ok n_BitReader hown hK hP hD hS 0 rfl rfl 1 (by decide) (hts _ tw_306) (fun _ h9 => h9) rfl (by decide +kernel) rfl rfl (Nat.le_of_ble_eq_true rfl) d_BitReader_number_63 (fun H locs hP hD hS => ?_)
            replace hP : va_P E.1 vwCl (BitReader_number_w E a_this a_row a_row_data n_row_data v_end v_row_length c_row_data v_4) H := hP
            replace hD : va_D A (BitReader_number_w E a_this a_row a_row_data n_row_data v_end v_row_length c_row_data v_4) := hD
            obtain ⟨y3_5, ey3_5⟩ : ∃ y : Int32, y = x3 + 1 := ⟨_, rfl⟩
            replace hm := mL_e hm y3_5 ey3_5
            refine lv_iinc (v := y3_5) (lv' := [(3, .int y3_5), (2, .int y2_3), (0, .ref a_this), (1, .int x1)]) hx hb d_BitReader_number_66 hl (k := 3) rfl (by rw [ey3_5]; rfl) (by decide) rfl (fun ls hl => ?_)
            refine lv_goto (tgt := 23) hx hb d_BitReader_number_69 (by decide) ?_
            exact ih_23 _ _ _ H locs ls hm hP hD hS (lv_sub hl [2, 3, 1, 0] rfl)
      refine lv_iconst (v := 0) hx hb d_BitReader_number_19 (by decide) ?_
      refine lv_istore_n (lv' := [(2, .int 0), (0, .ref a_this), (1, .int x1)]) hx hb d_BitReader_number_20 rfl hl (by decide) rfl (fun ls hl => ?_)
      refine lv_iconst (v := 0) hx hb d_BitReader_number_21 (by decide) ?_
      refine lv_istore_n (lv' := [(3, .int 0), (2, .int 0), (0, .ref a_this), (1, .int x1)]) hx hb d_BitReader_number_22 rfl hl (by decide) rfl (fun ls hl => ?_)
      exact h_23 F _ _ _ H locs ls hm hP hD hS (lv_sub hl [2, 3, 1, 0] rfl)
    · replace hm := mC_f hm c14
      refine lv_iconst (v := (-1)) hx hb d_BitReader_number_17 (by decide) ?_
      replace hm := Option.some.inj hm
      subst hm
      exact hret d_BitReader_number_18 (u := v_at) ⟨rfl, rfl⟩ hP hD hS
theorem d_BitReader_align_0 : decode b_BitReader_align 0 = .ok (.aload_n 0, 1) := by decide +kernel
theorem d_BitReader_align_1 : decode b_BitReader_align 1 = .ok (.aload_n 0, 1) := by decide +kernel
theorem d_BitReader_align_2 : decode b_BitReader_align 2 = .ok (.getfield 13, 3) := by decide +kernel
theorem d_BitReader_align_5 : decode b_BitReader_align 5 = .ok (.bipush 7, 2) := by decide +kernel
theorem d_BitReader_align_7 : decode b_BitReader_align 7 = .ok (.iadd, 1) := by decide +kernel
theorem d_BitReader_align_8 : decode b_BitReader_align 8 = .ok (.bipush (-8), 2) := by decide +kernel
theorem d_BitReader_align_10 : decode b_BitReader_align 10 = .ok (.iand, 1) := by decide +kernel
theorem d_BitReader_align_11 : decode b_BitReader_align 11 = .ok (.putfield 13, 3) := by decide +kernel
theorem d_BitReader_align_14 : decode b_BitReader_align 14 = .ok (.return_, 1) := by decide +kernel
abbrev BitReader_align_w (E : xE) (a_this : Nat) (x_row : Value) (v_at : Int32) (v_end : Int32) : va_W := [(a_this, .inr (0, [x_row, .int v_at, .int v_end]))]
def BitReader_align (F : Nat) (v_at : Int32) : Option (Unit × Int32) :=
  mL ((v_at + 7) &&& (-8)) fun v_1 => some ((), v_1)
abbrev BitReader_align_rm : Room := { frames := 0, cells := 0, slots := 0, locals := 0 }
set_option maxHeartbeats 4000000 in
set_option maxRecDepth 100000 in
theorem c_BitReader_align (l : Launch) (E : xE) (F sz : Nat) (a_this : Nat) (x_row : Value) (v_at : Int32) (v_end : Int32) (res : Unit × Int32) (hm : BitReader_align F v_at = some res) : Met l y_BitReader_align (Cond.code y_BitReader_align b_BitReader_align 1 none :: x_tb) BitReader_align_rm (va_Pc [.ref a_this] (xPre E (BitReader_align_w E a_this x_row v_at v_end) sz)) (xQv E (fun (u : Int32) => u = res.2) (fun (u : Int32) => (BitReader_align_w E a_this x_row u v_end)) (va_A (BitReader_align_w E a_this x_row v_at v_end) sz)) 0 0 (va_A (BitReader_align_w E a_this x_row v_at v_end) sz) := by
  refine xEnV (by decide) (Nat.le_of_ble_eq_true rfl) ?_
  intro p e s m args below meth c A ls Q hx hb hnm hts hown hml hK hA hI hN hret hP hD hS hl
  replace hown : s.vm.findClass R_BitReader = some m.cls := hown
  replace hl : lv_has ls 1 [(0, .ref a_this)] := hl
  obtain ⟨H, eH⟩ : ∃ z, z = s.heap := ⟨_, rfl⟩
  obtain ⟨locs, eL⟩ : ∃ z : List Loc, z = [] := ⟨_, rfl⟩
  rw [show W p l e BitReader_align_rm s m args below meth c s.heap [] 0 0 Q (F0 m 0 ls []) = W p l e BitReader_align_rm s m args below meth c H locs 0 0 Q (F0 m 0 ls []) by rw [eH, eL]]
  replace hP : va_P E.1 vwCl (BitReader_align_w E a_this x_row v_at v_end) H := by rw [eH]; exact hP
  replace hS : va_S A s.heap H locs := by rw [eH, eL]; exact hS
  clear eH eL
  rw [BitReader_align] at hm
  refine lv_aload_n hx hb d_BitReader_align_0 rfl (lv_at hl 0 rfl) ?_
  refine lv_aload_n hx hb d_BitReader_align_1 rfl (lv_at hl 0 rfl) ?_
  refine va_get (D := E.1) (ci := 0) (v := .int v_at) (C := R_BitReader) (T := F_BitReader) (N := 3) hx hb hts i_BitReader hown hK hP 0 rfl rfl 1 (by decide) (hts _ tw_306) (fun _ h9 => h9) rfl d_BitReader_align_2 ?_
  refine lv_bipush (v := 7) hx hb d_BitReader_align_5 (by decide) ?_
  refine lv_iadd hx hb d_BitReader_align_7 ?_
  refine lv_bipush (v := (-8)) hx hb d_BitReader_align_8 (by decide) ?_
  refine lv_iand hx hb d_BitReader_align_10 ?_
  refine lv_topi (fun v_1 ev_1 => ?_)
  replace hm := mL_e hm v_1 ev_1
  refine va_put (D := E.1) (ci := 0) (v := .int v_1) (ty := .int) (C := R_BitReader) (T := F_BitReader) (N := 3) hx hb hts i_BitReader t_BitReader t_BitReader_ok n_BitReader hown hK hP hD hS 0 rfl rfl 1 (by decide) (hts _ tw_306) (fun _ h9 => h9) rfl (by decide +kernel) rfl rfl (Nat.le_of_ble_eq_true rfl) d_BitReader_align_11 (fun H locs hP hD hS => ?_)
  replace hP : va_P E.1 vwCl (BitReader_align_w E a_this x_row v_1 v_end) H := hP
  replace hD : va_D A (BitReader_align_w E a_this x_row v_1 v_end) := hD
  replace hm := Option.some.inj hm
  subst hm
  exact hret d_BitReader_align_14 (u := v_1) rfl hP hD hS
