theorem d_Bytes_length_0 : decode b_Bytes_length 0 = .ok (.aload_n 0, 1) := by decide +kernel
theorem d_Bytes_length_1 : decode b_Bytes_length 1 = .ok (.getfield 19, 3) := by decide +kernel
theorem d_Bytes_length_4 : decode b_Bytes_length 4 = .ok (.ireturn, 1) := by decide +kernel
abbrev Bytes_length_w (E : xE) (a_this : Nat) (x_data : Value) (v_length : Int32) : va_W := [(a_this, .inr (2, [x_data, .int v_length]))]
def Bytes_length (F : Nat) (v_length : Int32) : Option (Int32 × Unit) :=
  some (v_length, ())
abbrev Bytes_length_rm : Room := { frames := 0, cells := 0, slots := 0, locals := 0 }
set_option maxHeartbeats 4000000 in
set_option maxRecDepth 100000 in
theorem c_Bytes_length (l : Launch) (E : xE) (F sz : Nat) (a_this : Nat) (x_data : Value) (v_length : Int32) (res : Int32 × Unit) (hm : Bytes_length F v_length = some res) : Met l y_Bytes_length (Cond.code y_Bytes_length b_Bytes_length 1 (some .int) :: x_tb) Bytes_length_rm (va_Pc [.ref a_this] (xPre E (Bytes_length_w E a_this x_data v_length) sz)) (xQi E (fun (r : Int32) (u : Unit) => r = res.1 ∧ u = res.2) (fun (u : Unit) => (Bytes_length_w E a_this x_data v_length)) (va_A (Bytes_length_w E a_this x_data v_length) sz)) 0 0 (va_A (Bytes_length_w E a_this x_data v_length) sz) := by
  refine xEnI (by decide) (Nat.le_of_ble_eq_true rfl) ?_
  intro p e s m args below meth c A ls Q hx hb hnm hts hown hml hK hA hI hN hret hP hD hS hl
  replace hown : s.vm.findClass R_Bytes = some m.cls := hown
  replace hl : lv_has ls 1 [(0, .ref a_this)] := hl
  obtain ⟨H, eH⟩ : ∃ z, z = s.heap := ⟨_, rfl⟩
  obtain ⟨locs, eL⟩ : ∃ z : List Loc, z = [] := ⟨_, rfl⟩
  rw [show W p l e Bytes_length_rm s m args below meth c s.heap [] 0 0 Q (F0 m 0 ls []) = W p l e Bytes_length_rm s m args below meth c H locs 0 0 Q (F0 m 0 ls []) by rw [eH, eL]]
  replace hP : va_P E.1 vwCl (Bytes_length_w E a_this x_data v_length) H := by rw [eH]; exact hP
  replace hS : va_S A s.heap H locs := by rw [eH, eL]; exact hS
  clear eH eL
  rw [Bytes_length] at hm
  refine lv_aload_n hx hb d_Bytes_length_0 rfl (lv_at hl 0 rfl) ?_
  refine va_get (D := E.1) (ci := 2) (v := .int v_length) (C := R_Bytes) (T := F_Bytes) (N := 2) hx hb hts i_Bytes hown hK hP 0 rfl rfl 1 (by decide) (hts _ tw_100) (fun _ h9 => h9) rfl d_Bytes_length_1 ?_
  replace hm := Option.some.inj hm
  subst hm
  exact hret d_Bytes_length_4 (u := ()) ⟨rfl, rfl⟩ hP hD hS
theorem d_Bytes_at_0 : decode b_Bytes_at 0 = .ok (.iload_n 1, 1) := by decide +kernel
theorem d_Bytes_at_1 : decode b_Bytes_at 1 = .ok (.ifCond .lt 24, 3) := by decide +kernel
theorem d_Bytes_at_4 : decode b_Bytes_at 4 = .ok (.iload_n 1, 1) := by decide +kernel
theorem d_Bytes_at_5 : decode b_Bytes_at 5 = .ok (.aload_n 0, 1) := by decide +kernel
theorem d_Bytes_at_6 : decode b_Bytes_at 6 = .ok (.getfield 19, 3) := by decide +kernel
theorem d_Bytes_at_9 : decode b_Bytes_at 9 = .ok (.if_icmp .ge 16, 3) := by decide +kernel
theorem d_Bytes_at_12 : decode b_Bytes_at 12 = .ok (.aload_n 0, 1) := by decide +kernel
theorem d_Bytes_at_13 : decode b_Bytes_at 13 = .ok (.getfield 13, 3) := by decide +kernel
theorem d_Bytes_at_16 : decode b_Bytes_at 16 = .ok (.iload_n 1, 1) := by decide +kernel
theorem d_Bytes_at_17 : decode b_Bytes_at 17 = .ok (.baload, 1) := by decide +kernel
theorem d_Bytes_at_18 : decode b_Bytes_at 18 = .ok (.sipush 255, 3) := by decide +kernel
theorem d_Bytes_at_21 : decode b_Bytes_at 21 = .ok (.iand, 1) := by decide +kernel
theorem d_Bytes_at_22 : decode b_Bytes_at 22 = .ok (.goto 4, 3) := by decide +kernel
theorem d_Bytes_at_25 : decode b_Bytes_at 25 = .ok (.iconst 0, 1) := by decide +kernel
theorem d_Bytes_at_26 : decode b_Bytes_at 26 = .ok (.ireturn, 1) := by decide +kernel
abbrev Bytes_at_w (E : xE) (a_this : Nat) (a_data : Nat) (n_data : Nat) (v_length : Int32) (c_data : Nat → Int32) : va_W := [(a_this, .inr (2, [.ref a_data, .int v_length])), (a_data, .inl (E.2.2.1, n_data, .inl c_data))]
def Bytes_at (F : Nat) (n_data : Nat) (v_length : Int32) (c_data : Nat → Int32) (x1 : Int32) : Option (Int32 × Unit) :=
  mC (x1 < 0) (some (0, ())) (mC (v_length ≤ x1) (some (0, ())) (mG x1 n_data (some ((c_data x1.toNatClampNeg) &&& 255, ()))))
abbrev Bytes_at_rm : Room := { frames := 0, cells := 0, slots := 0, locals := 0 }
set_option maxHeartbeats 4000000 in
set_option maxRecDepth 100000 in
theorem c_Bytes_at (l : Launch) (E : xE) (F sz : Nat) (a_this : Nat) (a_data : Nat) (n_data : Nat) (v_length : Int32) (c_data : Nat → Int32) (x1 : Int32) (res : Int32 × Unit) (hm : Bytes_at F n_data v_length c_data x1 = some res) : Met l y_Bytes_at (Cond.code y_Bytes_at b_Bytes_at 2 (some .int) :: x_tb) Bytes_at_rm (va_Pc [.ref a_this, .int x1] (xPre E (Bytes_at_w E a_this a_data n_data v_length c_data) sz)) (xQi E (fun (r : Int32) (u : Unit) => r = res.1 ∧ u = res.2) (fun (u : Unit) => (Bytes_at_w E a_this a_data n_data v_length c_data)) (va_A (Bytes_at_w E a_this a_data n_data v_length c_data) sz)) 0 0 (va_A (Bytes_at_w E a_this a_data n_data v_length c_data) sz) := by
  refine xEnI (by decide) (Nat.le_of_ble_eq_true rfl) ?_
  intro p e s m args below meth c A ls Q hx hb hnm hts hown hml hK hA hI hN hret hP hD hS hl
  replace hown : s.vm.findClass R_Bytes = some m.cls := hown
  replace hl : lv_has ls 2 [(0, .ref a_this), (1, .int x1)] := hl
  obtain ⟨H, eH⟩ : ∃ z, z = s.heap := ⟨_, rfl⟩
  obtain ⟨locs, eL⟩ : ∃ z : List Loc, z = [] := ⟨_, rfl⟩
  rw [show W p l e Bytes_at_rm s m args below meth c s.heap [] 0 0 Q (F0 m 0 ls []) = W p l e Bytes_at_rm s m args below meth c H locs 0 0 Q (F0 m 0 ls []) by rw [eH, eL]]
  replace hP : va_P E.1 vwCl (Bytes_at_w E a_this a_data n_data v_length c_data) H := by rw [eH]; exact hP
  replace hS : va_S A s.heap H locs := by rw [eH, eL]; exact hS
  clear eH eL
  rw [Bytes_at] at hm
  refine lv_iload_n hx hb d_Bytes_at_0 rfl (lv_at hl 1 rfl) ?_
  refine lv_if_lt (tgt := 25) hx hb d_Bytes_at_1 (by decide) (fun c1 => ?_) (fun c1 => ?_)
  · replace hm := mC_t hm c1
    refine lv_iconst (v := 0) hx hb d_Bytes_at_25 (by decide) ?_
    replace hm := Option.some.inj hm
    subst hm
    exact hret d_Bytes_at_26 (u := ()) ⟨rfl, rfl⟩ hP hD hS
  · replace hm := mC_f hm c1
    refine lv_iload_n hx hb d_Bytes_at_4 rfl (lv_at hl 1 rfl) ?_
    refine lv_aload_n hx hb d_Bytes_at_5 rfl (lv_at hl 0 rfl) ?_
    refine va_get (D := E.1) (ci := 2) (v := .int v_length) (C := R_Bytes) (T := F_Bytes) (N := 2) hx hb hts i_Bytes hown hK hP 0 rfl rfl 1 (by decide) (hts _ tw_100) (fun _ h9 => h9) rfl d_Bytes_at_6 ?_
    refine lv_icmp_ge (tgt := 25) hx hb d_Bytes_at_9 (by decide) (fun c9 => ?_) (fun c9 => ?_)
    · replace hm := mC_t hm c9
      refine lv_iconst (v := 0) hx hb d_Bytes_at_25 (by decide) ?_
      replace hm := Option.some.inj hm
      subst hm
      exact hret d_Bytes_at_26 (u := ()) ⟨rfl, rfl⟩ hP hD hS
    · replace hm := mC_f hm c9
      refine lv_aload_n hx hb d_Bytes_at_12 rfl (lv_at hl 0 rfl) ?_
      refine va_get (D := E.1) (ci := 2) (v := .ref a_data) (C := R_Bytes) (T := F_Bytes) (N := 2) hx hb hts i_Bytes hown hK hP 0 rfl rfl 0 (by decide) (hts _ tw_99) (fun _ h9 => h9) rfl d_Bytes_at_13 ?_
      refine lv_iload_n hx hb d_Bytes_at_16 rfl (lv_at hl 1 rfl) ?_
      obtain ⟨hi17, hm⟩ := mG_e hm
      refine va_bald hx hb hK hP 1 1 rfl rfl hi17 d_Bytes_at_17 ?_
      refine lv_sipush (v := 255) hx hb d_Bytes_at_18 (by decide) ?_
      refine lv_iand hx hb d_Bytes_at_21 ?_
      refine lv_goto (tgt := 26) hx hb d_Bytes_at_22 (by decide) ?_
      replace hm := Option.some.inj hm
      subst hm
      exact hret d_Bytes_at_26 (u := ()) ⟨rfl, rfl⟩ hP hD hS
theorem d_Bytes_set_0 : decode b_Bytes_set 0 = .ok (.iload_n 1, 1) := by decide +kernel
theorem d_Bytes_set_1 : decode b_Bytes_set 1 = .ok (.ifCond .lt 19, 3) := by decide +kernel
theorem d_Bytes_set_4 : decode b_Bytes_set 4 = .ok (.iload_n 1, 1) := by decide +kernel
theorem d_Bytes_set_5 : decode b_Bytes_set 5 = .ok (.aload_n 0, 1) := by decide +kernel
theorem d_Bytes_set_6 : decode b_Bytes_set 6 = .ok (.getfield 19, 3) := by decide +kernel
theorem d_Bytes_set_9 : decode b_Bytes_set 9 = .ok (.if_icmp .ge 11, 3) := by decide +kernel
theorem d_Bytes_set_12 : decode b_Bytes_set 12 = .ok (.aload_n 0, 1) := by decide +kernel
theorem d_Bytes_set_13 : decode b_Bytes_set 13 = .ok (.getfield 13, 3) := by decide +kernel
theorem d_Bytes_set_16 : decode b_Bytes_set 16 = .ok (.iload_n 1, 1) := by decide +kernel
theorem d_Bytes_set_17 : decode b_Bytes_set 17 = .ok (.iload_n 2, 1) := by decide +kernel
theorem d_Bytes_set_18 : decode b_Bytes_set 18 = .ok (.i2b, 1) := by decide +kernel
theorem d_Bytes_set_19 : decode b_Bytes_set 19 = .ok (.bastore, 1) := by decide +kernel
theorem d_Bytes_set_20 : decode b_Bytes_set 20 = .ok (.return_, 1) := by decide +kernel
abbrev Bytes_set_w (E : xE) (a_this : Nat) (a_data : Nat) (n_data : Nat) (v_length : Int32) (c_data : Nat → Int32) : va_W := [(a_this, .inr (2, [.ref a_data, .int v_length])), (a_data, .inl (E.2.2.1, n_data, .inl c_data))]
def Bytes_set (F : Nat) (n_data : Nat) (v_length : Int32) (c_data : Nat → Int32) (x1 : Int32) (x2 : Int32) : Option (Unit × (Nat → Int32)) :=
  mC (x1 < 0) (some ((), c_data)) (mC (v_length ≤ x1) (some ((), c_data)) (mG x1 n_data (mL (upd c_data x1.toNatClampNeg (vp_nar .byte x2.toInt8.toInt32)) fun c_1 => some ((), c_1))))
abbrev Bytes_set_rm : Room := { frames := 0, cells := 0, slots := 0, locals := 0 }
set_option maxHeartbeats 4000000 in
set_option maxRecDepth 100000 in
theorem c_Bytes_set (l : Launch) (E : xE) (F sz : Nat) (a_this : Nat) (a_data : Nat) (n_data : Nat) (v_length : Int32) (c_data : Nat → Int32) (x1 : Int32) (x2 : Int32) (res : Unit × (Nat → Int32)) (hm : Bytes_set F n_data v_length c_data x1 x2 = some res) : Met l y_Bytes_set (Cond.code y_Bytes_set b_Bytes_set 3 none :: x_tb) Bytes_set_rm (va_Pc [.ref a_this, .int x1, .int x2] (xPre E (Bytes_set_w E a_this a_data n_data v_length c_data) sz)) (xQv E (fun (u : (Nat → Int32)) => u = res.2) (fun (u : (Nat → Int32)) => (Bytes_set_w E a_this a_data n_data v_length u)) (va_A (Bytes_set_w E a_this a_data n_data v_length c_data) sz)) 0 0 (va_A (Bytes_set_w E a_this a_data n_data v_length c_data) sz) := by
  refine xEnV (by decide) (Nat.le_of_ble_eq_true rfl) ?_
  intro p e s m args below meth c A ls Q hx hb hnm hts hown hml hK hA hI hN hret hP hD hS hl
  replace hown : s.vm.findClass R_Bytes = some m.cls := hown
  replace hl : lv_has ls 3 [(0, .ref a_this), (1, .int x1), (2, .int x2)] := hl
  obtain ⟨H, eH⟩ : ∃ z, z = s.heap := ⟨_, rfl⟩
  obtain ⟨locs, eL⟩ : ∃ z : List Loc, z = [] := ⟨_, rfl⟩
  rw [show W p l e Bytes_set_rm s m args below meth c s.heap [] 0 0 Q (F0 m 0 ls []) = W p l e Bytes_set_rm s m args below meth c H locs 0 0 Q (F0 m 0 ls []) by rw [eH, eL]]
  replace hP : va_P E.1 vwCl (Bytes_set_w E a_this a_data n_data v_length c_data) H := by rw [eH]; exact hP
  replace hS : va_S A s.heap H locs := by rw [eH, eL]; exact hS
  clear eH eL
  rw [Bytes_set] at hm
  refine lv_iload_n hx hb d_Bytes_set_0 rfl (lv_at hl 1 rfl) ?_
  refine lv_if_lt (tgt := 20) hx hb d_Bytes_set_1 (by decide) (fun c1 => ?_) (fun c1 => ?_)
  · replace hm := mC_t hm c1
    replace hm := Option.some.inj hm
    subst hm
    exact hret d_Bytes_set_20 (u := c_data) rfl hP hD hS
  · replace hm := mC_f hm c1
    refine lv_iload_n hx hb d_Bytes_set_4 rfl (lv_at hl 1 rfl) ?_
    refine lv_aload_n hx hb d_Bytes_set_5 rfl (lv_at hl 0 rfl) ?_
    refine va_get (D := E.1) (ci := 2) (v := .int v_length) (C := R_Bytes) (T := F_Bytes) (N := 2) hx hb hts i_Bytes hown hK hP 0 rfl rfl 1 (by decide) (hts _ tw_100) (fun _ h9 => h9) rfl d_Bytes_set_6 ?_
    refine lv_icmp_ge (tgt := 20) hx hb d_Bytes_set_9 (by decide) (fun c9 => ?_) (fun c9 => ?_)
    · replace hm := mC_t hm c9
      replace hm := Option.some.inj hm
      subst hm
      exact hret d_Bytes_set_20 (u := c_data) rfl hP hD hS
    · replace hm := mC_f hm c9
      refine lv_aload_n hx hb d_Bytes_set_12 rfl (lv_at hl 0 rfl) ?_
      refine va_get (D := E.1) (ci := 2) (v := .ref a_data) (C := R_Bytes) (T := F_Bytes) (N := 2) hx hb hts i_Bytes hown hK hP 0 rfl rfl 0 (by decide) (hts _ tw_99) (fun _ h9 => h9) rfl d_Bytes_set_13 ?_
      refine lv_iload_n hx hb d_Bytes_set_16 rfl (lv_at hl 1 rfl) ?_
      refine lv_iload_n hx hb d_Bytes_set_17 rfl (lv_at hl 2 rfl) ?_
      refine lv_i2b hx hb d_Bytes_set_18 rfl ?_
      obtain ⟨hi19, hm⟩ := mG_e hm
      obtain ⟨c_1, ec_1⟩ : ∃ z : Nat → Int32, z = upd c_data x1.toNatClampNeg (vp_nar .byte x2.toInt8.toInt32) := ⟨_, rfl⟩
      replace hm := mL_e hm c_1 ec_1
      refine va_bast hx hb hK hP hD hS 1 1 rfl rfl hi19 d_Bytes_set_19 (fun H locs hP hD hS => ?_)
      rw [← ec_1] at hP hD
      replace hP : va_P E.1 vwCl (Bytes_set_w E a_this a_data n_data v_length c_1) H := hP
      replace hD : va_D A (Bytes_set_w E a_this a_data n_data v_length c_1) := hD
      replace hm := Option.some.inj hm
      subst hm
      exact hret d_Bytes_set_20 (u := c_1) rfl hP hD hS
theorem d_Bytes_add_0 : decode b_Bytes_add 0 = .ok (.aload_n 0, 1) := by decide +kernel
theorem d_Bytes_add_1 : decode b_Bytes_add 1 = .ok (.getfield 19, 3) := by decide +kernel
theorem d_Bytes_add_4 : decode b_Bytes_add 4 = .ok (.aload_n 0, 1) := by decide +kernel
theorem d_Bytes_add_5 : decode b_Bytes_add 5 = .ok (.getfield 13, 3) := by decide +kernel
theorem d_Bytes_add_8 : decode b_Bytes_add 8 = .ok (.arraylength, 1) := by decide +kernel
theorem d_Bytes_add_9 : decode b_Bytes_add 9 = .ok (.if_icmp .ge 24, 3) := by decide +kernel
theorem d_Bytes_add_12 : decode b_Bytes_add 12 = .ok (.aload_n 0, 1) := by decide +kernel
theorem d_Bytes_add_13 : decode b_Bytes_add 13 = .ok (.getfield 13, 3) := by decide +kernel
theorem d_Bytes_add_16 : decode b_Bytes_add 16 = .ok (.aload_n 0, 1) := by decide +kernel
theorem d_Bytes_add_17 : decode b_Bytes_add 17 = .ok (.getfield 19, 3) := by decide +kernel
theorem d_Bytes_add_20 : decode b_Bytes_add 20 = .ok (.iload_n 1, 1) := by decide +kernel
theorem d_Bytes_add_21 : decode b_Bytes_add 21 = .ok (.i2b, 1) := by decide +kernel
theorem d_Bytes_add_22 : decode b_Bytes_add 22 = .ok (.bastore, 1) := by decide +kernel
theorem d_Bytes_add_23 : decode b_Bytes_add 23 = .ok (.aload_n 0, 1) := by decide +kernel
theorem d_Bytes_add_24 : decode b_Bytes_add 24 = .ok (.dup, 1) := by decide +kernel
theorem d_Bytes_add_25 : decode b_Bytes_add 25 = .ok (.getfield 19, 3) := by decide +kernel
theorem d_Bytes_add_28 : decode b_Bytes_add 28 = .ok (.iconst 1, 1) := by decide +kernel
theorem d_Bytes_add_29 : decode b_Bytes_add 29 = .ok (.iadd, 1) := by decide +kernel
theorem d_Bytes_add_30 : decode b_Bytes_add 30 = .ok (.putfield 19, 3) := by decide +kernel
theorem d_Bytes_add_33 : decode b_Bytes_add 33 = .ok (.return_, 1) := by decide +kernel
abbrev Bytes_add_w (E : xE) (a_this : Nat) (a_data : Nat) (n_data : Nat) (v_length : Int32) (c_data : Nat → Int32) : va_W := [(a_this, .inr (2, [.ref a_data, .int v_length])), (a_data, .inl (E.2.2.1, n_data, .inl c_data))]
def Bytes_add (F : Nat) (n_data : Nat) (v_length : Int32) (c_data : Nat → Int32) (x1 : Int32) : Option (Unit × Int32 × (Nat → Int32)) :=
  mC ((nI n_data) ≤ v_length) (some ((), v_length, c_data)) (mG v_length n_data (mL (upd c_data v_length.toNatClampNeg (vp_nar .byte x1.toInt8.toInt32)) fun c_1 => mL (v_length + 1) fun v_2 => some ((), v_2, c_1)))
abbrev Bytes_add_rm : Room := { frames := 0, cells := 0, slots := 0, locals := 0 }
set_option maxHeartbeats 4000000 in
set_option maxRecDepth 100000 in
theorem c_Bytes_add (l : Launch) (E : xE) (F sz : Nat) (a_this : Nat) (a_data : Nat) (n_data : Nat) (v_length : Int32) (c_data : Nat → Int32) (x1 : Int32) (res : Unit × Int32 × (Nat → Int32)) (hm : Bytes_add F n_data v_length c_data x1 = some res) : Met l y_Bytes_add (Cond.code y_Bytes_add b_Bytes_add 2 none :: x_tb) Bytes_add_rm (va_Pc [.ref a_this, .int x1] (xPre E (Bytes_add_w E a_this a_data n_data v_length c_data) sz)) (xQv E (fun (u : Int32 × (Nat → Int32)) => u = res.2) (fun (u : Int32 × (Nat → Int32)) => (Bytes_add_w E a_this a_data n_data u.1 u.2)) (va_A (Bytes_add_w E a_this a_data n_data v_length c_data) sz)) 0 0 (va_A (Bytes_add_w E a_this a_data n_data v_length c_data) sz) := by
  refine xEnV (by decide) (Nat.le_of_ble_eq_true rfl) ?_
  intro p e s m args below meth c A ls Q hx hb hnm hts hown hml hK hA hI hN hret hP hD hS hl
  replace hown : s.vm.findClass R_Bytes = some m.cls := hown
  replace hl : lv_has ls 2 [(0, .ref a_this), (1, .int x1)] := hl
  obtain ⟨H, eH⟩ : ∃ z, z = s.heap := ⟨_, rfl⟩
  obtain ⟨locs, eL⟩ : ∃ z : List Loc, z = [] := ⟨_, rfl⟩
  rw [show W p l e Bytes_add_rm s m args below meth c s.heap [] 0 0 Q (F0 m 0 ls []) = W p l e Bytes_add_rm s m args below meth c H locs 0 0 Q (F0 m 0 ls []) by rw [eH, eL]]
  replace hP : va_P E.1 vwCl (Bytes_add_w E a_this a_data n_data v_length c_data) H := by rw [eH]; exact hP
  replace hS : va_S A s.heap H locs := by rw [eH, eL]; exact hS
  clear eH eL
  rw [Bytes_add] at hm
  refine lv_aload_n hx hb d_Bytes_add_0 rfl (lv_at hl 0 rfl) ?_
  refine va_get (D := E.1) (ci := 2) (v := .int v_length) (C := R_Bytes) (T := F_Bytes) (N := 2) hx hb hts i_Bytes hown hK hP 0 rfl rfl 1 (by decide) (hts _ tw_100) (fun _ h9 => h9) rfl d_Bytes_add_1 ?_
  refine lv_aload_n hx hb d_Bytes_add_4 rfl (lv_at hl 0 rfl) ?_
  refine va_get (D := E.1) (ci := 2) (v := .ref a_data) (C := R_Bytes) (T := F_Bytes) (N := 2) hx hb hts i_Bytes hown hK hP 0 rfl rfl 0 (by decide) (hts _ tw_99) (fun _ h9 => h9) rfl d_Bytes_add_5 ?_
  refine va_alen (v := nI n_data) hx hb hK hP 1 1 rfl rfl rfl d_Bytes_add_8 ?_
  refine lv_icmp_ge (tgt := 33) hx hb d_Bytes_add_9 (by decide) (fun c9 => ?_) (fun c9 => ?_)
  · replace hm := mC_t hm c9
    replace hm := Option.some.inj hm
    subst hm
    exact hret d_Bytes_add_33 (u := (v_length, c_data)) rfl hP hD hS
  · replace hm := mC_f hm c9
    refine lv_aload_n hx hb d_Bytes_add_12 rfl (lv_at hl 0 rfl) ?_
    refine va_get (D := E.1) (ci := 2) (v := .ref a_data) (C := R_Bytes) (T := F_Bytes) (N := 2) hx hb hts i_Bytes hown hK hP 0 rfl rfl 0 (by decide) (hts _ tw_99) (fun _ h9 => h9) rfl d_Bytes_add_13 ?_
    refine lv_aload_n hx hb d_Bytes_add_16 rfl (lv_at hl 0 rfl) ?_
    refine va_get (D := E.1) (ci := 2) (v := .int v_length) (C := R_Bytes) (T := F_Bytes) (N := 2) hx hb hts i_Bytes hown hK hP 0 rfl rfl 1 (by decide) (hts _ tw_100) (fun _ h9 => h9) rfl d_Bytes_add_17 ?_
    refine lv_iload_n hx hb d_Bytes_add_20 rfl (lv_at hl 1 rfl) ?_
    refine lv_i2b hx hb d_Bytes_add_21 rfl ?_
    obtain ⟨hi22, hm⟩ := mG_e hm
    obtain ⟨c_1, ec_1⟩ : ∃ z : Nat → Int32, z = upd c_data v_length.toNatClampNeg (vp_nar .byte x1.toInt8.toInt32) := ⟨_, rfl⟩
    replace hm := mL_e hm c_1 ec_1
    refine va_bast hx hb hK hP hD hS 1 1 rfl rfl hi22 d_Bytes_add_22 (fun H locs hP hD hS => ?_)
    rw [← ec_1] at hP hD
    replace hP : va_P E.1 vwCl (Bytes_add_w E a_this a_data n_data v_length c_1) H := hP
    replace hD : va_D A (Bytes_add_w E a_this a_data n_data v_length c_1) := hD
    refine lv_aload_n hx hb d_Bytes_add_23 rfl (lv_at hl 0 rfl) ?_
    refine lv_dup hx hb d_Bytes_add_24 rfl ?_
    refine va_get (D := E.1) (ci := 2) (v := .int v_length) (C := R_Bytes) (T := F_Bytes) (N := 2) hx hb hts i_Bytes hown hK hP 0 rfl rfl 1 (by decide) (hts _ tw_100) (fun _ h9 => h9) rfl d_Bytes_add_25 ?_
    refine lv_iconst (v := 1) hx hb d_Bytes_add_28 (by decide) ?_
    refine lv_iadd hx hb d_Bytes_add_29 ?_
    refine lv_topi (fun v_2 ev_2 => ?_)
    replace hm := mL_e hm v_2 ev_2
    refine va_put (D := E.1) (ci := 2) (v := .int v_2) (ty := .int) (C := R_Bytes) (T := F_Bytes) (N := 2) hx hb hts i_Bytes t_Bytes t_Bytes_ok n_Bytes hown hK hP hD hS 0 rfl rfl 1 (by decide) (hts _ tw_100) (fun _ h9 => h9) rfl (by decide +kernel) rfl rfl (Nat.le_of_ble_eq_true rfl) d_Bytes_add_30 (fun H locs hP hD hS => ?_)
    replace hP : va_P E.1 vwCl (Bytes_add_w E a_this a_data n_data v_2 c_1) H := hP
    replace hD : va_D A (Bytes_add_w E a_this a_data n_data v_2 c_1) := hD
    replace hm := Option.some.inj hm
    subst hm
    exact hret d_Bytes_add_33 (u := (v_2, c_1)) rfl hP hD hS
theorem d_Bytes_keep_0 : decode b_Bytes_keep 0 = .ok (.iload_n 1, 1) := by decide +kernel
theorem d_Bytes_keep_1 : decode b_Bytes_keep 1 = .ok (.ifCond .lt 16, 3) := by decide +kernel
theorem d_Bytes_keep_4 : decode b_Bytes_keep 4 = .ok (.iload_n 1, 1) := by decide +kernel
theorem d_Bytes_keep_5 : decode b_Bytes_keep 5 = .ok (.aload_n 0, 1) := by decide +kernel
theorem d_Bytes_keep_6 : decode b_Bytes_keep 6 = .ok (.getfield 19, 3) := by decide +kernel
theorem d_Bytes_keep_9 : decode b_Bytes_keep 9 = .ok (.if_icmp .gt 8, 3) := by decide +kernel
theorem d_Bytes_keep_12 : decode b_Bytes_keep 12 = .ok (.aload_n 0, 1) := by decide +kernel
theorem d_Bytes_keep_13 : decode b_Bytes_keep 13 = .ok (.iload_n 1, 1) := by decide +kernel
theorem d_Bytes_keep_14 : decode b_Bytes_keep 14 = .ok (.putfield 19, 3) := by decide +kernel
theorem d_Bytes_keep_17 : decode b_Bytes_keep 17 = .ok (.return_, 1) := by decide +kernel
abbrev Bytes_keep_w (E : xE) (a_this : Nat) (x_data : Value) (v_length : Int32) : va_W := [(a_this, .inr (2, [x_data, .int v_length]))]
def Bytes_keep (F : Nat) (v_length : Int32) (x1 : Int32) : Option (Unit × Int32) :=
  mC (x1 < 0) (some ((), v_length)) (mC (v_length < x1) (some ((), v_length)) (some ((), x1)))
abbrev Bytes_keep_rm : Room := { frames := 0, cells := 0, slots := 0, locals := 0 }
set_option maxHeartbeats 4000000 in
set_option maxRecDepth 100000 in
theorem c_Bytes_keep (l : Launch) (E : xE) (F sz : Nat) (a_this : Nat) (x_data : Value) (v_length : Int32) (x1 : Int32) (res : Unit × Int32) (hm : Bytes_keep F v_length x1 = some res) : Met l y_Bytes_keep (Cond.code y_Bytes_keep b_Bytes_keep 2 none :: x_tb) Bytes_keep_rm (va_Pc [.ref a_this, .int x1] (xPre E (Bytes_keep_w E a_this x_data v_length) sz)) (xQv E (fun (u : Int32) => u = res.2) (fun (u : Int32) => (Bytes_keep_w E a_this x_data u)) (va_A (Bytes_keep_w E a_this x_data v_length) sz)) 0 0 (va_A (Bytes_keep_w E a_this x_data v_length) sz) := by
  refine xEnV (by decide) (Nat.le_of_ble_eq_true rfl) ?_
  intro p e s m args below meth c A ls Q hx hb hnm hts hown hml hK hA hI hN hret hP hD hS hl
  replace hown : s.vm.findClass R_Bytes = some m.cls := hown
  replace hl : lv_has ls 2 [(0, .ref a_this), (1, .int x1)] := hl
  obtain ⟨H, eH⟩ : ∃ z, z = s.heap := ⟨_, rfl⟩
  obtain ⟨locs, eL⟩ : ∃ z : List Loc, z = [] := ⟨_, rfl⟩
  rw [show W p l e Bytes_keep_rm s m args below meth c s.heap [] 0 0 Q (F0 m 0 ls []) = W p l e Bytes_keep_rm s m args below meth c H locs 0 0 Q (F0 m 0 ls []) by rw [eH, eL]]
  replace hP : va_P E.1 vwCl (Bytes_keep_w E a_this x_data v_length) H := by rw [eH]; exact hP
  replace hS : va_S A s.heap H locs := by rw [eH, eL]; exact hS
  clear eH eL
  rw [Bytes_keep] at hm
  refine lv_iload_n hx hb d_Bytes_keep_0 rfl (lv_at hl 1 rfl) ?_
  refine lv_if_lt (tgt := 17) hx hb d_Bytes_keep_1 (by decide) (fun c1 => ?_) (fun c1 => ?_)
  · replace hm := mC_t hm c1
    replace hm := Option.some.inj hm
    subst hm
    exact hret d_Bytes_keep_17 (u := v_length) rfl hP hD hS
  · replace hm := mC_f hm c1
    refine lv_iload_n hx hb d_Bytes_keep_4 rfl (lv_at hl 1 rfl) ?_
    refine lv_aload_n hx hb d_Bytes_keep_5 rfl (lv_at hl 0 rfl) ?_
    refine va_get (D := E.1) (ci := 2) (v := .int v_length) (C := R_Bytes) (T := F_Bytes) (N := 2) hx hb hts i_Bytes hown hK hP 0 rfl rfl 1 (by decide) (hts _ tw_100) (fun _ h9 => h9) rfl d_Bytes_keep_6 ?_
    refine lv_icmp_gt (tgt := 17) hx hb d_Bytes_keep_9 (by decide) (fun c9 => ?_) (fun c9 => ?_)
    · replace hm := mC_t hm c9
      replace hm := Option.some.inj hm
      subst hm
      exact hret d_Bytes_keep_17 (u := v_length) rfl hP hD hS
    · replace hm := mC_f hm c9
      refine lv_aload_n hx hb d_Bytes_keep_12 rfl (lv_at hl 0 rfl) ?_
      refine lv_iload_n hx hb d_Bytes_keep_13 rfl (lv_at hl 1 rfl) ?_
      refine va_put (D := E.1) (ci := 2) (v := .int x1) (ty := .int) (C := R_Bytes) (T := F_Bytes) (N := 2) hx hb hts i_Bytes t_Bytes t_Bytes_ok n_Bytes hown hK hP hD hS 0 rfl rfl 1 (by decide) (hts _ tw_100) (fun _ h9 => h9) rfl (by decide +kernel) rfl rfl (Nat.le_of_ble_eq_true rfl) d_Bytes_keep_14 (fun H locs hP hD hS => ?_)
      replace hP : va_P E.1 vwCl (Bytes_keep_w E a_this x_data x1) H := hP
      replace hD : va_D A (Bytes_keep_w E a_this x_data x1) := hD
      replace hm := Option.some.inj hm
      subst hm
      exact hret d_Bytes_keep_17 (u := x1) rfl hP hD hS
theorem d_Bytes_addAll_0 : decode b_Bytes_addAll 0 = .ok (.iload_n 2, 1) := by decide +kernel
theorem d_Bytes_addAll_1 : decode b_Bytes_addAll 1 = .ok (.ifCond .lt 21, 3) := by decide +kernel
theorem d_Bytes_addAll_4 : decode b_Bytes_addAll 4 = .ok (.iload_n 3, 1) := by decide +kernel
theorem d_Bytes_addAll_5 : decode b_Bytes_addAll 5 = .ok (.ifCond .lt 17, 3) := by decide +kernel
theorem d_Bytes_addAll_8 : decode b_Bytes_addAll 8 = .ok (.iload_n 3, 1) := by decide +kernel
theorem d_Bytes_addAll_9 : decode b_Bytes_addAll 9 = .ok (.aload_n 1, 1) := by decide +kernel
theorem d_Bytes_addAll_10 : decode b_Bytes_addAll 10 = .ok (.getfield 19, 3) := by decide +kernel
theorem d_Bytes_addAll_13 : decode b_Bytes_addAll 13 = .ok (.iload_n 2, 1) := by decide +kernel
theorem d_Bytes_addAll_14 : decode b_Bytes_addAll 14 = .ok (.isub, 1) := by decide +kernel
theorem d_Bytes_addAll_15 : decode b_Bytes_addAll 15 = .ok (.if_icmp .gt 7, 3) := by decide +kernel
theorem d_Bytes_addAll_18 : decode b_Bytes_addAll 18 = .ok (.iconst 1, 1) := by decide +kernel
theorem d_Bytes_addAll_19 : decode b_Bytes_addAll 19 = .ok (.goto 4, 3) := by decide +kernel
theorem d_Bytes_addAll_22 : decode b_Bytes_addAll 22 = .ok (.iconst 0, 1) := by decide +kernel
theorem d_Bytes_addAll_23 : decode b_Bytes_addAll 23 = .ok (.istore 4, 2) := by decide +kernel
theorem d_Bytes_addAll_25 : decode b_Bytes_addAll 25 = .ok (.iload 4, 2) := by decide +kernel
theorem d_Bytes_addAll_27 : decode b_Bytes_addAll 27 = .ok (.ifCond .eq 44, 3) := by decide +kernel
theorem d_Bytes_addAll_30 : decode b_Bytes_addAll 30 = .ok (.iload_n 3, 1) := by decide +kernel
theorem d_Bytes_addAll_31 : decode b_Bytes_addAll 31 = .ok (.aload_n 0, 1) := by decide +kernel
theorem d_Bytes_addAll_32 : decode b_Bytes_addAll 32 = .ok (.getfield 13, 3) := by decide +kernel
theorem d_Bytes_addAll_35 : decode b_Bytes_addAll 35 = .ok (.arraylength, 1) := by decide +kernel
theorem d_Bytes_addAll_36 : decode b_Bytes_addAll 36 = .ok (.aload_n 0, 1) := by decide +kernel
theorem d_Bytes_addAll_37 : decode b_Bytes_addAll 37 = .ok (.getfield 19, 3) := by decide +kernel
theorem d_Bytes_addAll_40 : decode b_Bytes_addAll 40 = .ok (.isub, 1) := by decide +kernel
theorem d_Bytes_addAll_41 : decode b_Bytes_addAll 41 = .ok (.if_icmp .gt 30, 3) := by decide +kernel
theorem d_Bytes_addAll_44 : decode b_Bytes_addAll 44 = .ok (.aload_n 1, 1) := by decide +kernel
theorem d_Bytes_addAll_45 : decode b_Bytes_addAll 45 = .ok (.getfield 13, 3) := by decide +kernel
theorem d_Bytes_addAll_48 : decode b_Bytes_addAll 48 = .ok (.iload_n 2, 1) := by decide +kernel
theorem d_Bytes_addAll_49 : decode b_Bytes_addAll 49 = .ok (.aload_n 0, 1) := by decide +kernel
theorem d_Bytes_addAll_50 : decode b_Bytes_addAll 50 = .ok (.getfield 13, 3) := by decide +kernel
theorem d_Bytes_addAll_53 : decode b_Bytes_addAll 53 = .ok (.aload_n 0, 1) := by decide +kernel
theorem d_Bytes_addAll_54 : decode b_Bytes_addAll 54 = .ok (.getfield 19, 3) := by decide +kernel
theorem d_Bytes_addAll_57 : decode b_Bytes_addAll 57 = .ok (.iload_n 3, 1) := by decide +kernel
theorem d_Bytes_addAll_58 : decode b_Bytes_addAll 58 = .ok (.invokestatic 23, 3) := by decide +kernel
theorem d_Bytes_addAll_61 : decode b_Bytes_addAll 61 = .ok (.aload_n 0, 1) := by decide +kernel
theorem d_Bytes_addAll_62 : decode b_Bytes_addAll 62 = .ok (.dup, 1) := by decide +kernel
theorem d_Bytes_addAll_63 : decode b_Bytes_addAll 63 = .ok (.getfield 19, 3) := by decide +kernel
theorem d_Bytes_addAll_66 : decode b_Bytes_addAll 66 = .ok (.iload_n 3, 1) := by decide +kernel
theorem d_Bytes_addAll_67 : decode b_Bytes_addAll 67 = .ok (.iadd, 1) := by decide +kernel
theorem d_Bytes_addAll_68 : decode b_Bytes_addAll 68 = .ok (.putfield 19, 3) := by decide +kernel
theorem d_Bytes_addAll_71 : decode b_Bytes_addAll 71 = .ok (.return_, 1) := by decide +kernel
def Bytes_addAll_23 (F : Nat) (n_data : Nat) (n_p1_data : Nat) (c_p1_data : Nat → Int32) (x2 : Int32) (x3 : Int32) (v_length : Int32) (c_data : Nat → Int32) (s0 : Int32) : Option (Unit × Int32 × (Nat → Int32)) :=
  mC (s0 = 0) (some ((), v_length, c_data)) (mC (((nI n_data) - v_length) < x3) (some ((), v_length, c_data)) (mA (¬ x2 < 0 ∧ ¬ v_length < 0 ∧ ¬ x3 < 0 ∧ x2.toNatClampNeg + x3.toNatClampNeg ≤ n_p1_data ∧ v_length.toNatClampNeg + x3.toNatClampNeg ≤ n_data ∧ ∀ i, i < x3.toNatClampNeg → fits .byte (.int (c_p1_data (x2.toNatClampNeg + i))) = true) (mL (va_cpy c_p1_data c_data x2.toNatClampNeg v_length.toNatClampNeg x3.toNatClampNeg) fun c_1 => mL (v_length + x3) fun v_2 => some ((), v_2, c_1))))
def Bytes_addAll_22 (F : Nat) (n_data : Nat) (n_p1_data : Nat) (c_p1_data : Nat → Int32) (x2 : Int32) (x3 : Int32) (v_length : Int32) (c_data : Nat → Int32) : Option (Unit × Int32 × (Nat → Int32)) :=
  (Bytes_addAll_23 F n_data n_p1_data c_p1_data x2 x3) v_length c_data 0
abbrev Bytes_addAll_w (E : xE) (a_p1 : Nat) (a_this : Nat) (a_data : Nat) (a_p1_data : Nat) (n_data : Nat) (n_p1_data : Nat) (v_p1_length : Int32) (c_p1_data : Nat → Int32) (v_length : Int32) (c_data : Nat → Int32) : va_W := [(a_p1, .inr (2, [.ref a_p1_data, .int v_p1_length])), (a_this, .inr (2, [.ref a_data, .int v_length])), (a_data, .inl (E.2.2.1, n_data, .inl c_data)), (a_p1_data, .inl (E.2.2.1, n_p1_data, .inl c_p1_data))]
def Bytes_addAll (F : Nat) (n_data : Nat) (n_p1_data : Nat) (v_p1_length : Int32) (c_p1_data : Nat → Int32) (v_length : Int32) (c_data : Nat → Int32) (x2 : Int32) (x3 : Int32) : Option (Unit × Int32 × (Nat → Int32)) :=
  mC (x2 < 0) ((Bytes_addAll_22 F n_data n_p1_data c_p1_data x2 x3) v_length c_data) (mC (x3 < 0) ((Bytes_addAll_22 F n_data n_p1_data c_p1_data x2 x3) v_length c_data) (mC ((v_p1_length - x2) < x3) ((Bytes_addAll_22 F n_data n_p1_data c_p1_data x2 x3) v_length c_data) ((Bytes_addAll_23 F n_data n_p1_data c_p1_data x2 x3) v_length c_data 1)))
abbrev Bytes_addAll_rm : Room := { frames := 1, cells := 0, slots := 0, locals := 60 }
set_option maxHeartbeats 4000000 in
set_option maxRecDepth 100000 in
theorem c_Bytes_addAll (l : Launch) (E : xE) (F sz : Nat) (a_p1 : Nat) (a_this : Nat) (a_data : Nat) (a_p1_data : Nat) (n_data : Nat) (n_p1_data : Nat) (v_p1_length : Int32) (c_p1_data : Nat → Int32) (v_length : Int32) (c_data : Nat → Int32) (x2 : Int32) (x3 : Int32) (res : Unit × Int32 × (Nat → Int32)) (hm : Bytes_addAll F n_data n_p1_data v_p1_length c_p1_data v_length c_data x2 x3 = some res) : Met l y_Bytes_addAll (Cond.code y_Bytes_addAll b_Bytes_addAll 5 none :: x_tb) Bytes_addAll_rm (va_Pc [.ref a_this, .ref a_p1, .int x2, .int x3] (xPre E (Bytes_addAll_w E a_p1 a_this a_data a_p1_data n_data n_p1_data v_p1_length c_p1_data v_length c_data) sz)) (xQv E (fun (u : Int32 × (Nat → Int32)) => u = res.2) (fun (u : Int32 × (Nat → Int32)) => (Bytes_addAll_w E a_p1 a_this a_data a_p1_data n_data n_p1_data v_p1_length c_p1_data u.1 u.2)) (va_A (Bytes_addAll_w E a_p1 a_this a_data a_p1_data n_data n_p1_data v_p1_length c_p1_data v_length c_data) sz)) 0 0 (va_A (Bytes_addAll_w E a_p1 a_this a_data a_p1_data n_data n_p1_data v_p1_length c_p1_data v_length c_data) sz) := by
  refine xEnV (by decide) (Nat.le_of_ble_eq_true rfl) ?_
  intro p e s m args below meth c A ls Q hx hb hnm hts hown hml hK hA hI hN hret hP hD hS hl
  replace hown : s.vm.findClass R_Bytes = some m.cls := hown
  replace hl : lv_has ls 5 [(0, .ref a_this), (1, .ref a_p1), (2, .int x2), (3, .int x3)] := hl
  obtain ⟨H, eH⟩ : ∃ z, z = s.heap := ⟨_, rfl⟩
  obtain ⟨locs, eL⟩ : ∃ z : List Loc, z = [] := ⟨_, rfl⟩
  rw [show W p l e Bytes_addAll_rm s m args below meth c s.heap [] 0 0 Q (F0 m 0 ls []) = W p l e Bytes_addAll_rm s m args below meth c H locs 0 0 Q (F0 m 0 ls []) by rw [eH, eL]]
  replace hP : va_P E.1 vwCl (Bytes_addAll_w E a_p1 a_this a_data a_p1_data n_data n_p1_data v_p1_length c_p1_data v_length c_data) H := by rw [eH]; exact hP
  replace hS : va_S A s.heap H locs := by rw [eH, eL]; exact hS
  clear eH eL
  rw [Bytes_addAll] at hm
  have h_23 : ∀ (v_length : Int32) (c_data : Nat → Int32) (s0 : Int32) (H : Heap) (locs : List Loc) (ls : Array Slot), (Bytes_addAll_23 F n_data n_p1_data c_p1_data x2 x3) v_length c_data s0 = some res → va_P E.1 vwCl (Bytes_addAll_w E a_p1 a_this a_data a_p1_data n_data n_p1_data v_p1_length c_p1_data v_length c_data) H → va_D A (Bytes_addAll_w E a_p1 a_this a_data a_p1_data n_data n_p1_data v_p1_length c_p1_data v_length c_data) → va_S A s.heap H locs → lv_has ls 5 [(0, .ref a_this), (1, .ref a_p1), (2, .int x2), (3, .int x3)] → W p l e Bytes_addAll_rm s m args below meth c H locs 0 0 Q (F0 m 23 ls [.int s0]) := by
    intro v_length c_data s0 H locs ls hm hP hD hS hl
    rw [Bytes_addAll_23] at hm
    refine lv_istore (lv' := [(4, .int s0), (0, .ref a_this), (1, .ref a_p1), (2, .int x2), (3, .int x3)]) hx hb d_Bytes_addAll_23 hl (by decide) rfl (fun ls hl => ?_)
    refine lv_iload hx hb d_Bytes_addAll_25 (lv_at hl 0 rfl) ?_
    refine lv_if_eq (tgt := 71) hx hb d_Bytes_addAll_27 (by decide) (fun c27 => ?_) (fun c27 => ?_)
    · replace hm := mC_t hm c27
      replace hm := Option.some.inj hm
      subst hm
      exact hret d_Bytes_addAll_71 (u := (v_length, c_data)) rfl hP hD hS
    · replace hm := mC_f hm c27
      refine lv_iload_n hx hb d_Bytes_addAll_30 rfl (lv_at hl 4 rfl) ?_
      refine lv_aload_n hx hb d_Bytes_addAll_31 rfl (lv_at hl 1 rfl) ?_
      refine va_get (D := E.1) (ci := 2) (v := .ref a_data) (C := R_Bytes) (T := F_Bytes) (N := 2) hx hb hts i_Bytes hown hK hP 1 rfl rfl 0 (by decide) (hts _ tw_99) (fun _ h9 => h9) rfl d_Bytes_addAll_32 ?_
      refine va_alen (v := nI n_data) hx hb hK hP 2 1 rfl rfl rfl d_Bytes_addAll_35 ?_
      refine lv_aload_n hx hb d_Bytes_addAll_36 rfl (lv_at hl 1 rfl) ?_
      refine va_get (D := E.1) (ci := 2) (v := .int v_length) (C := R_Bytes) (T := F_Bytes) (N := 2) hx hb hts i_Bytes hown hK hP 1 rfl rfl 1 (by decide) (hts _ tw_100) (fun _ h9 => h9) rfl d_Bytes_addAll_37 ?_
      refine lv_isub hx hb d_Bytes_addAll_40 ?_
      refine lv_icmp_gt (tgt := 71) hx hb d_Bytes_addAll_41 (by decide) (fun c41 => ?_) (fun c41 => ?_)
      · replace hm := mC_t hm c41
        replace hm := Option.some.inj hm
        subst hm
        exact hret d_Bytes_addAll_71 (u := (v_length, c_data)) rfl hP hD hS
      · replace hm := mC_f hm c41
        refine lv_aload_n hx hb d_Bytes_addAll_44 rfl (lv_at hl 2 rfl) ?_
        refine va_get (D := E.1) (ci := 2) (v := .ref a_p1_data) (C := R_Bytes) (T := F_Bytes) (N := 2) hx hb hts i_Bytes hown hK hP 0 rfl rfl 0 (by decide) (hts _ tw_99) (fun _ h9 => h9) rfl d_Bytes_addAll_45 ?_
        refine lv_iload_n hx hb d_Bytes_addAll_48 rfl (lv_at hl 3 rfl) ?_
        refine lv_aload_n hx hb d_Bytes_addAll_49 rfl (lv_at hl 1 rfl) ?_
        refine va_get (D := E.1) (ci := 2) (v := .ref a_data) (C := R_Bytes) (T := F_Bytes) (N := 2) hx hb hts i_Bytes hown hK hP 1 rfl rfl 0 (by decide) (hts _ tw_99) (fun _ h9 => h9) rfl d_Bytes_addAll_50 ?_
        refine lv_aload_n hx hb d_Bytes_addAll_53 rfl (lv_at hl 1 rfl) ?_
        refine va_get (D := E.1) (ci := 2) (v := .int v_length) (C := R_Bytes) (T := F_Bytes) (N := 2) hx hb hts i_Bytes hown hK hP 1 rfl rfl 1 (by decide) (hts _ tw_100) (fun _ h9 => h9) rfl d_Bytes_addAll_54 ?_
        refine lv_iload_n hx hb d_Bytes_addAll_57 rfl (lv_at hl 4 rfl) ?_
        obtain ⟨⟨hy1, hy2, hy3, hy4, hy5, hy6⟩, hm⟩ := mA_e hm
        obtain ⟨c_1, ec_1⟩ : ∃ z : Nat → Int32, z = va_cpy c_p1_data c_data x2.toNatClampNeg v_length.toNatClampNeg x3.toNatClampNeg := ⟨_, rfl⟩
        replace hm := mL_e hm c_1 ec_1
        refine va_copyi hx hb (hml.trans hl.1.symm) hown (hts _ tw_636) (hts _ tw_638) (hts _ tw_637) (hts _ tw_81) hK hP hD hS 3 2 1 1 rfl rfl rfl rfl rfl hy1 hy2 hy3 hy4 hy5 hy6 (Nat.le_of_ble_eq_true rfl) (by decide) d_Bytes_addAll_58 (fun H locs hP hD hS => ?_)
        rw [← ec_1] at hP hD
        replace hP : va_P E.1 vwCl (Bytes_addAll_w E a_p1 a_this a_data a_p1_data n_data n_p1_data v_p1_length c_p1_data v_length c_1) H := hP
        replace hD : va_D A (Bytes_addAll_w E a_p1 a_this a_data a_p1_data n_data n_p1_data v_p1_length c_p1_data v_length c_1) := hD
        refine lv_aload_n hx hb d_Bytes_addAll_61 rfl (lv_at hl 1 rfl) ?_
        refine lv_dup hx hb d_Bytes_addAll_62 rfl ?_
        refine va_get (D := E.1) (ci := 2) (v := .int v_length) (C := R_Bytes) (T := F_Bytes) (N := 2) hx hb hts i_Bytes hown hK hP 1 rfl rfl 1 (by decide) (hts _ tw_100) (fun _ h9 => h9) rfl d_Bytes_addAll_63 ?_
        refine lv_iload_n hx hb d_Bytes_addAll_66 rfl (lv_at hl 4 rfl) ?_
        refine lv_iadd hx hb d_Bytes_addAll_67 ?_
        refine lv_topi (fun v_2 ev_2 => ?_)
        replace hm := mL_e hm v_2 ev_2
        refine va_put (D := E.1) (ci := 2) (v := .int v_2) (ty := .int) (C := R_Bytes) (T := F_Bytes) (N := 2) hx hb hts i_Bytes t_Bytes t_Bytes_ok n_Bytes hown hK hP hD hS 1 rfl rfl 1 (by decide) (hts _ tw_100) (fun _ h9 => h9) rfl (by decide +kernel) rfl rfl (Nat.le_of_ble_eq_true rfl) d_Bytes_addAll_68 (fun H locs hP hD hS => ?_)
        replace hP : va_P E.1 vwCl (Bytes_addAll_w E a_p1 a_this a_data a_p1_data n_data n_p1_data v_p1_length c_p1_data v_2 c_1) H := hP
        replace hD : va_D A (Bytes_addAll_w E a_p1 a_this a_data a_p1_data n_data n_p1_data v_p1_length c_p1_data v_2 c_1) := hD
        replace hm := Option.some.inj hm
        subst hm
        exact hret d_Bytes_addAll_71 (u := (v_2, c_1)) rfl hP hD hS
  have h_22 : ∀ (v_length : Int32) (c_data : Nat → Int32) (H : Heap) (locs : List Loc) (ls : Array Slot), (Bytes_addAll_22 F n_data n_p1_data c_p1_data x2 x3) v_length c_data = some res → va_P E.1 vwCl (Bytes_addAll_w E a_p1 a_this a_data a_p1_data n_data n_p1_data v_p1_length c_p1_data v_length c_data) H → va_D A (Bytes_addAll_w E a_p1 a_this a_data a_p1_data n_data n_p1_data v_p1_length c_p1_data v_length c_data) → va_S A s.heap H locs → lv_has ls 5 [(0, .ref a_this), (1, .ref a_p1), (2, .int x2), (3, .int x3)] → W p l e Bytes_addAll_rm s m args below meth c H locs 0 0 Q (F0 m 22 ls []) := by
    intro v_length c_data H locs ls hm hP hD hS hl
    rw [Bytes_addAll_22] at hm
    refine lv_iconst (v := 0) hx hb d_Bytes_addAll_22 (by decide) ?_
    exact h_23 _ _ _ H locs ls hm hP hD hS hl
  refine lv_iload_n hx hb d_Bytes_addAll_0 rfl (lv_at hl 2 rfl) ?_
  refine lv_if_lt (tgt := 22) hx hb d_Bytes_addAll_1 (by decide) (fun c1 => ?_) (fun c1 => ?_)
  · replace hm := mC_t hm c1
    exact h_22 _ _ H locs ls hm hP hD hS hl
  · replace hm := mC_f hm c1
    refine lv_iload_n hx hb d_Bytes_addAll_4 rfl (lv_at hl 3 rfl) ?_
    refine lv_if_lt (tgt := 22) hx hb d_Bytes_addAll_5 (by decide) (fun c5 => ?_) (fun c5 => ?_)
    · replace hm := mC_t hm c5
      exact h_22 _ _ H locs ls hm hP hD hS hl
    · replace hm := mC_f hm c5
      refine lv_iload_n hx hb d_Bytes_addAll_8 rfl (lv_at hl 3 rfl) ?_
      refine lv_aload_n hx hb d_Bytes_addAll_9 rfl (lv_at hl 1 rfl) ?_
      refine va_get (D := E.1) (ci := 2) (v := .int v_p1_length) (C := R_Bytes) (T := F_Bytes) (N := 2) hx hb hts i_Bytes hown hK hP 0 rfl rfl 1 (by decide) (hts _ tw_100) (fun _ h9 => h9) rfl d_Bytes_addAll_10 ?_
      refine lv_iload_n hx hb d_Bytes_addAll_13 rfl (lv_at hl 2 rfl) ?_
      refine lv_isub hx hb d_Bytes_addAll_14 ?_
      refine lv_icmp_gt (tgt := 22) hx hb d_Bytes_addAll_15 (by decide) (fun c15 => ?_) (fun c15 => ?_)
      · replace hm := mC_t hm c15
        exact h_22 _ _ H locs ls hm hP hD hS hl
      · replace hm := mC_f hm c15
        refine lv_iconst (v := 1) hx hb d_Bytes_addAll_18 (by decide) ?_
        refine lv_goto (tgt := 23) hx hb d_Bytes_addAll_19 (by decide) ?_
        exact h_23 _ _ _ H locs ls hm hP hD hS hl
theorem d_Arr_fill_0 : decode b_Arr_fill 0 = .ok (.iconst 0, 1) := by decide +kernel
theorem d_Arr_fill_1 : decode b_Arr_fill 1 = .ok (.istore_n 2, 1) := by decide +kernel
theorem d_Arr_fill_2 : decode b_Arr_fill 2 = .ok (.aload_n 0, 1) := by decide +kernel
theorem d_Arr_fill_3 : decode b_Arr_fill 3 = .ok (.arraylength, 1) := by decide +kernel
theorem d_Arr_fill_4 : decode b_Arr_fill 4 = .ok (.istore_n 3, 1) := by decide +kernel
theorem d_Arr_fill_5 : decode b_Arr_fill 5 = .ok (.iload_n 2, 1) := by decide +kernel
theorem d_Arr_fill_6 : decode b_Arr_fill 6 = .ok (.iload_n 3, 1) := by decide +kernel
theorem d_Arr_fill_7 : decode b_Arr_fill 7 = .ok (.if_icmp .ge 13, 3) := by decide +kernel
theorem d_Arr_fill_10 : decode b_Arr_fill 10 = .ok (.aload_n 0, 1) := by decide +kernel
theorem d_Arr_fill_11 : decode b_Arr_fill 11 = .ok (.iload_n 2, 1) := by decide +kernel
theorem d_Arr_fill_12 : decode b_Arr_fill 12 = .ok (.iload_n 1, 1) := by decide +kernel
theorem d_Arr_fill_13 : decode b_Arr_fill 13 = .ok (.iastore, 1) := by decide +kernel
theorem d_Arr_fill_14 : decode b_Arr_fill 14 = .ok (.iinc 2 1, 3) := by decide +kernel
theorem d_Arr_fill_17 : decode b_Arr_fill 17 = .ok (.goto (-12), 3) := by decide +kernel
theorem d_Arr_fill_20 : decode b_Arr_fill 20 = .ok (.return_, 1) := by decide +kernel
def Arr_fill_5 (F : Nat) (n_p0 : Nat) (x1 : Int32) (k_5 : (Nat → Int32) → Int32 → Int32 → Option (Unit × (Nat → Int32))) (c_p0 : Nat → Int32) (x2 : Int32) (x3 : Int32) : Option (Unit × (Nat → Int32)) :=
  mC (x3 ≤ x2) (some ((), c_p0)) (mG x2 n_p0 (mL (upd c_p0 x2.toNatClampNeg x1) fun c_1 => mL (x2 + 1) fun y2_2 => k_5 c_1 y2_2 x3))
abbrev Arr_fill_w (E : xE) (a_p0 : Nat) (n_p0 : Nat) (c_p0 : Nat → Int32) : va_W := [(a_p0, .inl (E.2.1, n_p0, .inl c_p0))]
def Arr_fill (F : Nat) (n_p0 : Nat) (c_p0 : Nat → Int32) (x1 : Int32) : Option (Unit × (Nat → Int32)) :=
  mL (nI n_p0) fun y3_3 => (mW3 (Arr_fill_5 F n_p0 x1) F) c_p0 0 y3_3
abbrev Arr_fill_rm : Room := { frames := 0, cells := 0, slots := 0, locals := 0 }
set_option maxHeartbeats 4000000 in
set_option maxRecDepth 100000 in
theorem c_Arr_fill (l : Launch) (E : xE) (F sz : Nat) (a_p0 : Nat) (n_p0 : Nat) (c_p0 : Nat → Int32) (x1 : Int32) (res : Unit × (Nat → Int32)) (hm : Arr_fill F n_p0 c_p0 x1 = some res) : Met l y_Arr_fill (Cond.code y_Arr_fill b_Arr_fill 4 none :: x_tb) Arr_fill_rm (va_Pc [.ref a_p0, .int x1] (xPre E (Arr_fill_w E a_p0 n_p0 c_p0) sz)) (xQv E (fun (u : (Nat → Int32)) => u = res.2) (fun (u : (Nat → Int32)) => (Arr_fill_w E a_p0 n_p0 u)) (va_A (Arr_fill_w E a_p0 n_p0 c_p0) sz)) 0 0 (va_A (Arr_fill_w E a_p0 n_p0 c_p0) sz) := by
  refine xEnV (by decide) (Nat.le_of_ble_eq_true rfl) ?_
  intro p e s m args below meth c A ls Q hx hb hnm hts hown hml hK hA hI hN hret hP hD hS hl
  replace hown : s.vm.findClass R_Arr = some m.cls := hown
  replace hl : lv_has ls 4 [(0, .ref a_p0), (1, .int x1)] := hl
  obtain ⟨H, eH⟩ : ∃ z, z = s.heap := ⟨_, rfl⟩
  obtain ⟨locs, eL⟩ : ∃ z : List Loc, z = [] := ⟨_, rfl⟩
  rw [show W p l e Arr_fill_rm s m args below meth c s.heap [] 0 0 Q (F0 m 0 ls []) = W p l e Arr_fill_rm s m args below meth c H locs 0 0 Q (F0 m 0 ls []) by rw [eH, eL]]
  replace hP : va_P E.1 vwCl (Arr_fill_w E a_p0 n_p0 c_p0) H := by rw [eH]; exact hP
  replace hS : va_S A s.heap H locs := by rw [eH, eL]; exact hS
  clear eH eL
  rw [Arr_fill] at hm
  have h_5 : ∀ (n_5 : Nat) (c_p0 : Nat → Int32) (x2 : Int32) (x3 : Int32) (H : Heap) (locs : List Loc) (ls : Array Slot), (mW3 (Arr_fill_5 F n_p0 x1) n_5) c_p0 x2 x3 = some res → va_P E.1 vwCl (Arr_fill_w E a_p0 n_p0 c_p0) H → va_D A (Arr_fill_w E a_p0 n_p0 c_p0) → va_S A s.heap H locs → lv_has ls 4 [(0, .ref a_p0), (1, .int x1), (2, .int x2), (3, .int x3)] → W p l e Arr_fill_rm s m args below meth c H locs 0 0 Q (F0 m 5 ls []) := by
    intro n_5
    induction n_5 with
    | zero => exact fun _ _ _ _ _ _ hm _ _ _ _ => (mW3_z hm).elim
    | succ n_5 ih_5 =>
      intro c_p0 x2 x3 H locs ls hm hP hD hS hl
      replace hm := mW3_s hm
      rw [Arr_fill_5] at hm
      refine lv_iload_n hx hb d_Arr_fill_5 rfl (lv_at hl 2 rfl) ?_
      refine lv_iload_n hx hb d_Arr_fill_6 rfl (lv_at hl 3 rfl) ?_
      refine lv_icmp_ge (tgt := 20) hx hb d_Arr_fill_7 (by decide) (fun c7 => ?_) (fun c7 => ?_)
      · replace hm := mC_t hm c7
        replace hm := Option.some.inj hm
        subst hm
        exact hret d_Arr_fill_20 (u := c_p0) rfl hP hD hS
      · replace hm := mC_f hm c7
        refine lv_aload_n hx hb d_Arr_fill_10 rfl (lv_at hl 0 rfl) ?_
        refine lv_iload_n hx hb d_Arr_fill_11 rfl (lv_at hl 2 rfl) ?_
        refine lv_iload_n hx hb d_Arr_fill_12 rfl (lv_at hl 1 rfl) ?_
        obtain ⟨hi13, hm⟩ := mG_e hm
        obtain ⟨c_1, ec_1⟩ : ∃ z : Nat → Int32, z = upd c_p0 x2.toNatClampNeg x1 := ⟨_, rfl⟩
        replace hm := mL_e hm c_1 ec_1
        refine va_iast hx hb hK hP hD hS 0 0 rfl rfl hi13 d_Arr_fill_13 (fun H locs hP hD hS => ?_)
        rw [← ec_1] at hP hD
        replace hP : va_P E.1 vwCl (Arr_fill_w E a_p0 n_p0 c_1) H := hP
        replace hD : va_D A (Arr_fill_w E a_p0 n_p0 c_1) := hD
        obtain ⟨y2_2, ey2_2⟩ : ∃ y : Int32, y = x2 + 1 := ⟨_, rfl⟩
        replace hm := mL_e hm y2_2 ey2_2
        refine lv_iinc (v := y2_2) (lv' := [(2, .int y2_2), (0, .ref a_p0), (1, .int x1), (3, .int x3)]) hx hb d_Arr_fill_14 hl (k := 2) rfl (by rw [ey2_2]; rfl) (by decide) rfl (fun ls hl => ?_)
        refine lv_goto (tgt := 5) hx hb d_Arr_fill_17 (by decide) ?_
        exact ih_5 _ _ _ H locs ls hm hP hD hS (lv_sub hl [1, 2, 0, 3] rfl)
  refine lv_iconst (v := 0) hx hb d_Arr_fill_0 (by decide) ?_
  refine lv_istore_n (lv' := [(2, .int 0), (0, .ref a_p0), (1, .int x1)]) hx hb d_Arr_fill_1 rfl hl (by decide) rfl (fun ls hl => ?_)
  refine lv_aload_n hx hb d_Arr_fill_2 rfl (lv_at hl 1 rfl) ?_
  refine va_alen (v := nI n_p0) hx hb hK hP 0 0 rfl rfl rfl d_Arr_fill_3 ?_
  refine lv_topi (fun y3_3 ey3_3 => ?_)
  replace hm := mL_e hm y3_3 ey3_3
  refine lv_istore_n (lv' := [(3, .int y3_3), (2, .int 0), (0, .ref a_p0), (1, .int x1)]) hx hb d_Arr_fill_4 rfl hl (by decide) rfl (fun ls hl => ?_)
  exact h_5 F _ _ _ H locs ls hm hP hD hS (lv_sub hl [2, 3, 1, 0] rfl)
