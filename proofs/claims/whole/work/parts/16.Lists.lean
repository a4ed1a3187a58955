theorem d_Lists_addOne_0 : decode b_Lists_addOne 0 = .ok (.iload_n 1, 1) := by decide +kernel
theorem d_Lists_addOne_1 : decode b_Lists_addOne 1 = .ok (.ifCond .lt 16, 3) := by decide +kernel
theorem d_Lists_addOne_4 : decode b_Lists_addOne 4 = .ok (.iload_n 1, 1) := by decide +kernel
theorem d_Lists_addOne_5 : decode b_Lists_addOne 5 = .ok (.aload_n 0, 1) := by decide +kernel
theorem d_Lists_addOne_6 : decode b_Lists_addOne 6 = .ok (.arraylength, 1) := by decide +kernel
theorem d_Lists_addOne_7 : decode b_Lists_addOne 7 = .ok (.if_icmp .ge 10, 3) := by decide +kernel
theorem d_Lists_addOne_10 : decode b_Lists_addOne 10 = .ok (.aload_n 0, 1) := by decide +kernel
theorem d_Lists_addOne_11 : decode b_Lists_addOne 11 = .ok (.iload_n 1, 1) := by decide +kernel
theorem d_Lists_addOne_12 : decode b_Lists_addOne 12 = .ok (.dup2, 1) := by decide +kernel
theorem d_Lists_addOne_13 : decode b_Lists_addOne 13 = .ok (.iaload, 1) := by decide +kernel
theorem d_Lists_addOne_14 : decode b_Lists_addOne 14 = .ok (.iconst 1, 1) := by decide +kernel
theorem d_Lists_addOne_15 : decode b_Lists_addOne 15 = .ok (.iadd, 1) := by decide +kernel
theorem d_Lists_addOne_16 : decode b_Lists_addOne 16 = .ok (.iastore, 1) := by decide +kernel
theorem d_Lists_addOne_17 : decode b_Lists_addOne 17 = .ok (.return_, 1) := by decide +kernel
abbrev Lists_addOne_w (E : xE) (a_p0 : Nat) (n_p0 : Nat) (c_p0 : Nat → Int32) : va_W := [(a_p0, .inl (E.2.1, n_p0, .inl c_p0))]
def Lists_addOne (F : Nat) (n_p0 : Nat) (c_p0 : Nat → Int32) (x1 : Int32) : Option (Unit × (Nat → Int32)) :=
  mC (x1 < 0) (some ((), c_p0)) (mC ((nI n_p0) ≤ x1) (some ((), c_p0)) (mG x1 n_p0 (mL ((c_p0 x1.toNatClampNeg) + 1) fun v_1 => mG x1 n_p0 (mL (upd c_p0 x1.toNatClampNeg v_1) fun c_2 => some ((), c_2)))))
abbrev Lists_addOne_rm : Room := { frames := 0, cells := 0, slots := 0, locals := 0 }
set_option maxHeartbeats 4000000 in
set_option maxRecDepth 100000 in
theorem c_Lists_addOne (l : Launch) (E : xE) (F sz : Nat) (a_p0 : Nat) (n_p0 : Nat) (c_p0 : Nat → Int32) (x1 : Int32) (res : Unit × (Nat → Int32)) (hm : Lists_addOne F n_p0 c_p0 x1 = some res) : Met l y_Lists_addOne (Cond.code y_Lists_addOne b_Lists_addOne 2 none :: x_tb) Lists_addOne_rm (va_Pc [.ref a_p0, .int x1] (xPre E (Lists_addOne_w E a_p0 n_p0 c_p0) sz)) (xQv E (fun (u : (Nat → Int32)) => u = res.2) (fun (u : (Nat → Int32)) => (Lists_addOne_w E a_p0 n_p0 u)) (va_A (Lists_addOne_w E a_p0 n_p0 c_p0) sz)) 0 0 (va_A (Lists_addOne_w E a_p0 n_p0 c_p0) sz) := by
  refine xEnV (by decide) (Nat.le_of_ble_eq_true rfl) ?_
  intro p e s m args below meth c A ls Q hx hb hnm hts hown hml hK hA hI hN hret hP hD hS hl
  replace hown : s.vm.findClass R_Lists = some m.cls := hown
  replace hl : lv_has ls 2 [(0, .ref a_p0), (1, .int x1)] := hl
  obtain ⟨H, eH⟩ : ∃ z, z = s.heap := ⟨_, rfl⟩
  obtain ⟨locs, eL⟩ : ∃ z : List Loc, z = [] := ⟨_, rfl⟩
  rw [show W p l e Lists_addOne_rm s m args below meth c s.heap [] 0 0 Q (F0 m 0 ls []) = W p l e Lists_addOne_rm s m args below meth c H locs 0 0 Q (F0 m 0 ls []) by rw [eH, eL]]
  replace hP : va_P E.1 vwCl (Lists_addOne_w E a_p0 n_p0 c_p0) H := by rw [eH]; exact hP
  replace hS : va_S A s.heap H locs := by rw [eH, eL]; exact hS
  clear eH eL
  rw [Lists_addOne] at hm
  refine lv_iload_n hx hb d_Lists_addOne_0 rfl (lv_at hl 1 rfl) ?_
  refine lv_if_lt (tgt := 17) hx hb d_Lists_addOne_1 (by decide) (fun c1 => ?_) (fun c1 => ?_)
  · replace hm := mC_t hm c1
    replace hm := Option.some.inj hm
    subst hm
    exact hret d_Lists_addOne_17 (u := c_p0) rfl hP hD hS
  · replace hm := mC_f hm c1
    refine lv_iload_n hx hb d_Lists_addOne_4 rfl (lv_at hl 1 rfl) ?_
    refine lv_aload_n hx hb d_Lists_addOne_5 rfl (lv_at hl 0 rfl) ?_
    refine va_alen (v := nI n_p0) hx hb hK hP 0 0 rfl rfl rfl d_Lists_addOne_6 ?_
    refine lv_icmp_ge (tgt := 17) hx hb d_Lists_addOne_7 (by decide) (fun c7 => ?_) (fun c7 => ?_)
    · replace hm := mC_t hm c7
      replace hm := Option.some.inj hm
      subst hm
      exact hret d_Lists_addOne_17 (u := c_p0) rfl hP hD hS
    · replace hm := mC_f hm c7
      refine lv_aload_n hx hb d_Lists_addOne_10 rfl (lv_at hl 0 rfl) ?_
      refine lv_iload_n hx hb d_Lists_addOne_11 rfl (lv_at hl 1 rfl) ?_
      refine lv_dup2_11 hx hb d_Lists_addOne_12 rfl rfl ?_
      obtain ⟨hi13, hm⟩ := mG_e hm
      refine va_iald hx hb hK hP 0 0 rfl rfl hi13 d_Lists_addOne_13 ?_
      refine lv_iconst (v := 1) hx hb d_Lists_addOne_14 (by decide) ?_
      refine lv_iadd hx hb d_Lists_addOne_15 ?_
      refine lv_topi (fun v_1 ev_1 => ?_)
      replace hm := mL_e hm v_1 ev_1
      obtain ⟨hi16, hm⟩ := mG_e hm
      obtain ⟨c_2, ec_2⟩ : ∃ z : Nat → Int32, z = upd c_p0 x1.toNatClampNeg v_1 := ⟨_, rfl⟩
      replace hm := mL_e hm c_2 ec_2
      refine va_iast hx hb hK hP hD hS 0 0 rfl rfl hi16 d_Lists_addOne_16 (fun H locs hP hD hS => ?_)
      rw [← ec_2] at hP hD
      replace hP : va_P E.1 vwCl (Lists_addOne_w E a_p0 n_p0 c_2) H := hP
      replace hD : va_D A (Lists_addOne_w E a_p0 n_p0 c_2) := hD
      replace hm := Option.some.inj hm
      subst hm
      exact hret d_Lists_addOne_17 (u := c_2) rfl hP hD hS
theorem d_Lists_insert_0 : decode b_Lists_insert 0 = .ok (.aload_n 0, 1) := by decide +kernel
theorem d_Lists_insert_1 : decode b_Lists_insert 1 = .ok (.getfield 39, 3) := by decide +kernel
theorem d_Lists_insert_4 : decode b_Lists_insert 4 = .ok (.istore_n 3, 1) := by decide +kernel
theorem d_Lists_insert_5 : decode b_Lists_insert 5 = .ok (.iload_n 3, 1) := by decide +kernel
theorem d_Lists_insert_6 : decode b_Lists_insert 6 = .ok (.ifCond .le 58, 3) := by decide +kernel
theorem d_Lists_insert_9 : decode b_Lists_insert 9 = .ok (.iload_n 3, 1) := by decide +kernel
theorem d_Lists_insert_10 : decode b_Lists_insert 10 = .ok (.aload_n 0, 1) := by decide +kernel
theorem d_Lists_insert_11 : decode b_Lists_insert 11 = .ok (.getfield 15, 3) := by decide +kernel
theorem d_Lists_insert_14 : decode b_Lists_insert 14 = .ok (.arraylength, 1) := by decide +kernel
theorem d_Lists_insert_15 : decode b_Lists_insert 15 = .ok (.if_icmp .ge 49, 3) := by decide +kernel
theorem d_Lists_insert_18 : decode b_Lists_insert 18 = .ok (.aload_n 0, 1) := by decide +kernel
theorem d_Lists_insert_19 : decode b_Lists_insert 19 = .ok (.getfield 15, 3) := by decide +kernel
theorem d_Lists_insert_22 : decode b_Lists_insert 22 = .ok (.iload_n 3, 1) := by decide +kernel
theorem d_Lists_insert_23 : decode b_Lists_insert 23 = .ok (.iconst 1, 1) := by decide +kernel
theorem d_Lists_insert_24 : decode b_Lists_insert 24 = .ok (.isub, 1) := by decide +kernel
theorem d_Lists_insert_25 : decode b_Lists_insert 25 = .ok (.iaload, 1) := by decide +kernel
theorem d_Lists_insert_26 : decode b_Lists_insert 26 = .ok (.iload_n 2, 1) := by decide +kernel
theorem d_Lists_insert_27 : decode b_Lists_insert 27 = .ok (.if_icmp .le 37, 3) := by decide +kernel
theorem d_Lists_insert_30 : decode b_Lists_insert 30 = .ok (.aload_n 0, 1) := by decide +kernel
theorem d_Lists_insert_31 : decode b_Lists_insert 31 = .ok (.getfield 15, 3) := by decide +kernel
theorem d_Lists_insert_34 : decode b_Lists_insert 34 = .ok (.iload_n 3, 1) := by decide +kernel
theorem d_Lists_insert_35 : decode b_Lists_insert 35 = .ok (.aload_n 0, 1) := by decide +kernel
theorem d_Lists_insert_36 : decode b_Lists_insert 36 = .ok (.getfield 15, 3) := by decide +kernel
theorem d_Lists_insert_39 : decode b_Lists_insert 39 = .ok (.iload_n 3, 1) := by decide +kernel
theorem d_Lists_insert_40 : decode b_Lists_insert 40 = .ok (.iconst 1, 1) := by decide +kernel
theorem d_Lists_insert_41 : decode b_Lists_insert 41 = .ok (.isub, 1) := by decide +kernel
theorem d_Lists_insert_42 : decode b_Lists_insert 42 = .ok (.iaload, 1) := by decide +kernel
theorem d_Lists_insert_43 : decode b_Lists_insert 43 = .ok (.iastore, 1) := by decide +kernel
theorem d_Lists_insert_44 : decode b_Lists_insert 44 = .ok (.aload_n 0, 1) := by decide +kernel
theorem d_Lists_insert_45 : decode b_Lists_insert 45 = .ok (.getfield 9, 3) := by decide +kernel
theorem d_Lists_insert_48 : decode b_Lists_insert 48 = .ok (.iload_n 3, 1) := by decide +kernel
theorem d_Lists_insert_49 : decode b_Lists_insert 49 = .ok (.aload_n 0, 1) := by decide +kernel
theorem d_Lists_insert_50 : decode b_Lists_insert 50 = .ok (.getfield 9, 3) := by decide +kernel
theorem d_Lists_insert_53 : decode b_Lists_insert 53 = .ok (.iload_n 3, 1) := by decide +kernel
theorem d_Lists_insert_54 : decode b_Lists_insert 54 = .ok (.iconst 1, 1) := by decide +kernel
theorem d_Lists_insert_55 : decode b_Lists_insert 55 = .ok (.isub, 1) := by decide +kernel
theorem d_Lists_insert_56 : decode b_Lists_insert 56 = .ok (.iaload, 1) := by decide +kernel
theorem d_Lists_insert_57 : decode b_Lists_insert 57 = .ok (.iastore, 1) := by decide +kernel
theorem d_Lists_insert_58 : decode b_Lists_insert 58 = .ok (.iinc 3 (-1), 3) := by decide +kernel
theorem d_Lists_insert_61 : decode b_Lists_insert 61 = .ok (.goto (-56), 3) := by decide +kernel
theorem d_Lists_insert_64 : decode b_Lists_insert 64 = .ok (.aload_n 0, 1) := by decide +kernel
theorem d_Lists_insert_65 : decode b_Lists_insert 65 = .ok (.getfield 15, 3) := by decide +kernel
theorem d_Lists_insert_68 : decode b_Lists_insert 68 = .ok (.iload_n 3, 1) := by decide +kernel
theorem d_Lists_insert_69 : decode b_Lists_insert 69 = .ok (.iload_n 2, 1) := by decide +kernel
theorem d_Lists_insert_70 : decode b_Lists_insert 70 = .ok (.iastore, 1) := by decide +kernel
theorem d_Lists_insert_71 : decode b_Lists_insert 71 = .ok (.aload_n 0, 1) := by decide +kernel
theorem d_Lists_insert_72 : decode b_Lists_insert 72 = .ok (.getfield 9, 3) := by decide +kernel
theorem d_Lists_insert_75 : decode b_Lists_insert 75 = .ok (.iload_n 3, 1) := by decide +kernel
theorem d_Lists_insert_76 : decode b_Lists_insert 76 = .ok (.iload_n 1, 1) := by decide +kernel
theorem d_Lists_insert_77 : decode b_Lists_insert 77 = .ok (.iastore, 1) := by decide +kernel
theorem d_Lists_insert_78 : decode b_Lists_insert 78 = .ok (.aload_n 0, 1) := by decide +kernel
theorem d_Lists_insert_79 : decode b_Lists_insert 79 = .ok (.dup, 1) := by decide +kernel
theorem d_Lists_insert_80 : decode b_Lists_insert 80 = .ok (.getfield 39, 3) := by decide +kernel
theorem d_Lists_insert_83 : decode b_Lists_insert 83 = .ok (.iconst 1, 1) := by decide +kernel
theorem d_Lists_insert_84 : decode b_Lists_insert 84 = .ok (.iadd, 1) := by decide +kernel
theorem d_Lists_insert_85 : decode b_Lists_insert 85 = .ok (.putfield 39, 3) := by decide +kernel
theorem d_Lists_insert_88 : decode b_Lists_insert 88 = .ok (.return_, 1) := by decide +kernel
def Lists_insert_64 (F : Nat) (x1 : Int32) (x2 : Int32) (v_many : Int32) (c_counts : Nat → Int32) (c_symbols : Nat → Int32) (x3 : Int32) : Option (Unit × Int32 × (Nat → Int32) × (Nat → Int32)) :=
  mG x3 288 (mL (upd c_counts x3.toNatClampNeg x2) fun c_1 => mG x3 288 (mL (upd c_symbols x3.toNatClampNeg x1) fun c_2 => mL (v_many + 1) fun v_3 => some ((), v_3, c_1, c_2)))
def Lists_insert_5 (F : Nat) (x2 : Int32) (k_64 : Int32 → (Nat → Int32) → (Nat → Int32) → Int32 → Option (Unit × Int32 × (Nat → Int32) × (Nat → Int32))) (k_5 : Int32 → (Nat → Int32) → (Nat → Int32) → Int32 → Option (Unit × Int32 × (Nat → Int32) × (Nat → Int32))) (v_many : Int32) (c_counts : Nat → Int32) (c_symbols : Nat → Int32) (x3 : Int32) : Option (Unit × Int32 × (Nat → Int32) × (Nat → Int32)) :=
  mC (x3 ≤ 0) (k_64 v_many c_counts c_symbols x3) (mC (288 ≤ x3) (k_64 v_many c_counts c_symbols x3) (mL (x3 - 1) fun i_4 => mG i_4 288 (mC ((c_counts i_4.toNatClampNeg) ≤ x2) (k_64 v_many c_counts c_symbols x3) (mL (x3 - 1) fun i_5 => mG i_5 288 (mL (c_counts i_5.toNatClampNeg) fun v_6 => mG x3 288 (mL (upd c_counts x3.toNatClampNeg v_6) fun c_7 => mL (x3 - 1) fun i_8 => mG i_8 288 (mL (c_symbols i_8.toNatClampNeg) fun v_9 => mG x3 288 (mL (upd c_symbols x3.toNatClampNeg v_9) fun c_10 => mL (x3 + (-1)) fun y3_11 => k_5 v_many c_7 c_10 y3_11))))))))
abbrev Lists_insert_w (E : xE) (a_this : Nat) (a_counts : Nat) (a_symbols : Nat) (x_pairs : Value) (x_items : Value) (x_itemsBefore : Value) (v_many : Int32) (c_counts : Nat → Int32) (c_symbols : Nat → Int32) : va_W := [(a_this, .inr (5, [.ref a_symbols, .ref a_counts, x_pairs, x_items, x_itemsBefore, .int v_many])), (a_counts, .inl (E.2.1, 288, .inl c_counts)), (a_symbols, .inl (E.2.1, 288, .inl c_symbols))]
def Lists_insert (F : Nat) (v_many : Int32) (c_counts : Nat → Int32) (c_symbols : Nat → Int32) (x1 : Int32) (x2 : Int32) : Option (Unit × Int32 × (Nat → Int32) × (Nat → Int32)) :=
  (mW4 (Lists_insert_5 F x2 (Lists_insert_64 F x1 x2)) F) v_many c_counts c_symbols v_many
abbrev Lists_insert_rm : Room := { frames := 0, cells := 0, slots := 0, locals := 0 }
set_option maxHeartbeats 4000000 in
set_option maxRecDepth 100000 in
theorem c_Lists_insert (l : Launch) (E : xE) (F sz : Nat) (a_this : Nat) (a_counts : Nat) (a_symbols : Nat) (x_pairs : Value) (x_items : Value) (x_itemsBefore : Value) (v_many : Int32) (c_counts : Nat → Int32) (c_symbols : Nat → Int32) (x1 : Int32) (x2 : Int32) (res : Unit × Int32 × (Nat → Int32) × (Nat → Int32)) (hm : Lists_insert F v_many c_counts c_symbols x1 x2 = some res) : Met l y_Lists_insert (Cond.code y_Lists_insert b_Lists_insert 4 none :: x_tb) Lists_insert_rm (va_Pc [.ref a_this, .int x1, .int x2] (xPre E (Lists_insert_w E a_this a_counts a_symbols x_pairs x_items x_itemsBefore v_many c_counts c_symbols) sz)) (xQv E (fun (u : Int32 × (Nat → Int32) × (Nat → Int32)) => u = res.2) (fun (u : Int32 × (Nat → Int32) × (Nat → Int32)) => (Lists_insert_w E a_this a_counts a_symbols x_pairs x_items x_itemsBefore u.1 u.2.1 u.2.2)) (va_A (Lists_insert_w E a_this a_counts a_symbols x_pairs x_items x_itemsBefore v_many c_counts c_symbols) sz)) 0 0 (va_A (Lists_insert_w E a_this a_counts a_symbols x_pairs x_items x_itemsBefore v_many c_counts c_symbols) sz) := by
  refine xEnV (by decide) (Nat.le_of_ble_eq_true rfl) ?_
  intro p e s m args below meth c A ls Q hx hb hnm hts hown hml hK hA hI hN hret hP hD hS hl
  replace hown : s.vm.findClass R_Lists = some m.cls := hown
  replace hl : lv_has ls 4 [(0, .ref a_this), (1, .int x1), (2, .int x2)] := hl
  obtain ⟨H, eH⟩ : ∃ z, z = s.heap := ⟨_, rfl⟩
  obtain ⟨locs, eL⟩ : ∃ z : List Loc, z = [] := ⟨_, rfl⟩
  rw [show W p l e Lists_insert_rm s m args below meth c s.heap [] 0 0 Q (F0 m 0 ls []) = W p l e Lists_insert_rm s m args below meth c H locs 0 0 Q (F0 m 0 ls []) by rw [eH, eL]]
  replace hP : va_P E.1 vwCl (Lists_insert_w E a_this a_counts a_symbols x_pairs x_items x_itemsBefore v_many c_counts c_symbols) H := by rw [eH]; exact hP
  replace hS : va_S A s.heap H locs := by rw [eH, eL]; exact hS
  clear eH eL
  rw [Lists_insert] at hm
  have h_64 : ∀ (v_many : Int32) (c_counts : Nat → Int32) (c_symbols : Nat → Int32) (x3 : Int32) (H : Heap) (locs : List Loc) (ls : Array Slot), (Lists_insert_64 F x1 x2) v_many c_counts c_symbols x3 = some res → va_P E.1 vwCl (Lists_insert_w E a_this a_counts a_symbols x_pairs x_items x_itemsBefore v_many c_counts c_symbols) H → va_D A (Lists_insert_w E a_this a_counts a_symbols x_pairs x_items x_itemsBefore v_many c_counts c_symbols) → va_S A s.heap H locs → lv_has ls 4 [(0, .ref a_this), (1, .int x1), (2, .int x2), (3, .int x3)] → W p l e Lists_insert_rm s m args below meth c H locs 0 0 Q (F0 m 64 ls []) := by
    intro v_many c_counts c_symbols x3 H locs ls hm hP hD hS hl
    rw [Lists_insert_64] at hm
    refine lv_aload_n hx hb d_Lists_insert_64 rfl (lv_at hl 0 rfl) ?_
    refine va_get (D := E.1) (ci := 5) (v := .ref a_counts) (C := R_Lists) (T := F_Lists) (N := 6) hx hb hts i_Lists hown hK hP 0 rfl rfl 1 (by decide) (hts _ tw_159) (fun _ h9 => h9) rfl d_Lists_insert_65 ?_
    refine lv_iload_n hx hb d_Lists_insert_68 rfl (lv_at hl 3 rfl) ?_
    refine lv_iload_n hx hb d_Lists_insert_69 rfl (lv_at hl 2 rfl) ?_
    obtain ⟨hi70, hm⟩ := mG_e hm
    obtain ⟨c_1, ec_1⟩ : ∃ z : Nat → Int32, z = upd c_counts x3.toNatClampNeg x2 := ⟨_, rfl⟩
    replace hm := mL_e hm c_1 ec_1
    refine va_iast hx hb hK hP hD hS 1 0 rfl rfl hi70 d_Lists_insert_70 (fun H locs hP hD hS => ?_)
    rw [← ec_1] at hP hD
    replace hP : va_P E.1 vwCl (Lists_insert_w E a_this a_counts a_symbols x_pairs x_items x_itemsBefore v_many c_1 c_symbols) H := hP
    replace hD : va_D A (Lists_insert_w E a_this a_counts a_symbols x_pairs x_items x_itemsBefore v_many c_1 c_symbols) := hD
    refine lv_aload_n hx hb d_Lists_insert_71 rfl (lv_at hl 0 rfl) ?_
    refine va_get (D := E.1) (ci := 5) (v := .ref a_symbols) (C := R_Lists) (T := F_Lists) (N := 6) hx hb hts i_Lists hown hK hP 0 rfl rfl 0 (by decide) (hts _ tw_158) (fun _ h9 => h9) rfl d_Lists_insert_72 ?_
    refine lv_iload_n hx hb d_Lists_insert_75 rfl (lv_at hl 3 rfl) ?_
    refine lv_iload_n hx hb d_Lists_insert_76 rfl (lv_at hl 1 rfl) ?_
    obtain ⟨hi77, hm⟩ := mG_e hm
    obtain ⟨c_2, ec_2⟩ : ∃ z : Nat → Int32, z = upd c_symbols x3.toNatClampNeg x1 := ⟨_, rfl⟩
    replace hm := mL_e hm c_2 ec_2
    refine va_iast hx hb hK hP hD hS 2 0 rfl rfl hi77 d_Lists_insert_77 (fun H locs hP hD hS => ?_)
    rw [← ec_2] at hP hD
    replace hP : va_P E.1 vwCl (Lists_insert_w E a_this a_counts a_symbols x_pairs x_items x_itemsBefore v_many c_1 c_2) H := hP
    replace hD : va_D A (Lists_insert_w E a_this a_counts a_symbols x_pairs x_items x_itemsBefore v_many c_1 c_2) := hD
    refine lv_aload_n hx hb d_Lists_insert_78 rfl (lv_at hl 0 rfl) ?_
    refine lv_dup hx hb d_Lists_insert_79 rfl ?_
    refine va_get (D := E.1) (ci := 5) (v := .int v_many) (C := R_Lists) (T := F_Lists) (N := 6) hx hb hts i_Lists hown hK hP 0 rfl rfl 5 (by decide) (hts _ tw_163) (fun _ h9 => h9) rfl d_Lists_insert_80 ?_
    refine lv_iconst (v := 1) hx hb d_Lists_insert_83 (by decide) ?_
    refine lv_iadd hx hb d_Lists_insert_84 ?_
    refine lv_topi (fun v_3 ev_3 => ?_)
    replace hm := mL_e hm v_3 ev_3
    refine va_put (D := E.1) (ci := 5) (v := .int v_3) (ty := .int) (C := R_Lists) (T := F_Lists) (N := 6) hx hb hts i_Lists t_Lists t_Lists_ok n_Lists hown hK hP hD hS 0 rfl rfl 5 (by decide) (hts _ tw_163) (fun _ h9 => h9) rfl (by decide +kernel) rfl rfl (Nat.le_of_ble_eq_true rfl) d_Lists_insert_85 (fun H locs hP hD hS => ?_)
    replace hP : va_P E.1 vwCl (Lists_insert_w E a_this a_counts a_symbols x_pairs x_items x_itemsBefore v_3 c_1 c_2) H := hP
    replace hD : va_D A (Lists_insert_w E a_this a_counts a_symbols x_pairs x_items x_itemsBefore v_3 c_1 c_2) := hD
    replace hm := Option.some.inj hm
    subst hm
    exact hret d_Lists_insert_88 (u := (v_3, c_1, c_2)) rfl hP hD hS
  have h_5 : ∀ (n_5 : Nat) (v_many : Int32) (c_counts : Nat → Int32) (c_symbols : Nat → Int32) (x3 : Int32) (H : Heap) (locs : List Loc) (ls : Array Slot), (mW4 (Lists_insert_5 F x2 (Lists_insert_64 F x1 x2)) n_5) v_many c_counts c_symbols x3 = some res → va_P E.1 vwCl (Lists_insert_w E a_this a_counts a_symbols x_pairs x_items x_itemsBefore v_many c_counts c_symbols) H → va_D A (Lists_insert_w E a_this a_counts a_symbols x_pairs x_items x_itemsBefore v_many c_counts c_symbols) → va_S A s.heap H locs → lv_has ls 4 [(0, .ref a_this), (1, .int x1), (2, .int x2), (3, .int x3)] → W p l e Lists_insert_rm s m args below meth c H locs 0 0 Q (F0 m 5 ls []) := by
    intro n_5
    induction n_5 with
    | zero => exact fun _ _ _ _ _ _ _ hm _ _ _ _ => (mW4_z hm).elim
    | succ n_5 ih_5 =>
      intro v_many c_counts c_symbols x3 H locs ls hm hP hD hS hl
      replace hm := mW4_s hm
      rw [Lists_insert_5] at hm
      refine lv_iload_n hx hb d_Lists_insert_5 rfl (lv_at hl 3 rfl) ?_
      refine lv_if_le (tgt := 64) hx hb d_Lists_insert_6 (by decide) (fun c6 => ?_) (fun c6 => ?_)
      · replace hm := mC_t hm c6
        exact h_64 _ _ _ _ H locs ls hm hP hD hS hl
      · replace hm := mC_f hm c6
        refine lv_iload_n hx hb d_Lists_insert_9 rfl (lv_at hl 3 rfl) ?_
        refine lv_aload_n hx hb d_Lists_insert_10 rfl (lv_at hl 0 rfl) ?_
        refine va_get (D := E.1) (ci := 5) (v := .ref a_counts) (C := R_Lists) (T := F_Lists) (N := 6) hx hb hts i_Lists hown hK hP 0 rfl rfl 1 (by decide) (hts _ tw_159) (fun _ h9 => h9) rfl d_Lists_insert_11 ?_
        refine va_alen (v := 288) hx hb hK hP 1 0 rfl rfl rfl d_Lists_insert_14 ?_
        refine lv_icmp_ge (tgt := 64) hx hb d_Lists_insert_15 (by decide) (fun c15 => ?_) (fun c15 => ?_)
        · replace hm := mC_t hm c15
          exact h_64 _ _ _ _ H locs ls hm hP hD hS hl
        · replace hm := mC_f hm c15
          refine lv_aload_n hx hb d_Lists_insert_18 rfl (lv_at hl 0 rfl) ?_
          refine va_get (D := E.1) (ci := 5) (v := .ref a_counts) (C := R_Lists) (T := F_Lists) (N := 6) hx hb hts i_Lists hown hK hP 0 rfl rfl 1 (by decide) (hts _ tw_159) (fun _ h9 => h9) rfl d_Lists_insert_19 ?_
          refine lv_iload_n hx hb d_Lists_insert_22 rfl (lv_at hl 3 rfl) ?_
          refine lv_iconst (v := 1) hx hb d_Lists_insert_23 (by decide) ?_
          refine lv_isub hx hb d_Lists_insert_24 ?_
          refine lv_topi (fun i_4 ei_4 => ?_)
          replace hm := mL_e hm i_4 ei_4
          obtain ⟨hi25, hm⟩ := mG_e hm
          refine va_iald hx hb hK hP 1 0 rfl rfl hi25 d_Lists_insert_25 ?_
          refine lv_iload_n hx hb d_Lists_insert_26 rfl (lv_at hl 2 rfl) ?_
          refine lv_icmp_le (tgt := 64) hx hb d_Lists_insert_27 (by decide) (fun c27 => ?_) (fun c27 => ?_)
          · replace hm := mC_t hm c27
            exact h_64 _ _ _ _ H locs ls hm hP hD hS hl
          · replace hm := mC_f hm c27
            refine lv_aload_n hx hb d_Lists_insert_30 rfl (lv_at hl 0 rfl) ?_
            refine va_get (D := E.1) (ci := 5) (v := .ref a_counts) (C := R_Lists) (T := F_Lists) (N := 6) hx hb hts i_Lists hown hK hP 0 rfl rfl 1 (by decide) (hts _ tw_159) (fun _ h9 => h9) rfl d_Lists_insert_31 ?_
            refine lv_iload_n hx hb d_Lists_insert_34 rfl (lv_at hl 3 rfl) ?_
            refine lv_aload_n hx hb d_Lists_insert_35 rfl (lv_at hl 0 rfl) ?_
            refine va_get (D := E.1) (ci := 5) (v := .ref a_counts) (C := R_Lists) (T := F_Lists) (N := 6) hx hb hts i_Lists hown hK hP 0 rfl rfl 1 (by decide) (hts _ tw_159) (fun _ h9 => h9) rfl d_Lists_insert_36 ?_
            refine lv_iload_n hx hb d_Lists_insert_39 rfl (lv_at hl 3 rfl) ?_
            refine lv_iconst (v := 1) hx hb d_Lists_insert_40 (by decide) ?_
            refine lv_isub hx hb d_Lists_insert_41 ?_
            refine lv_topi (fun i_5 ei_5 => ?_)
            replace hm := mL_e hm i_5 ei_5
            obtain ⟨hi42, hm⟩ := mG_e hm
            refine va_iald hx hb hK hP 1 0 rfl rfl hi42 d_Lists_insert_42 ?_
            refine lv_topi (fun v_6 ev_6 => ?_)
            replace hm := mL_e hm v_6 ev_6
            obtain ⟨hi43, hm⟩ := mG_e hm
            obtain ⟨c_7, ec_7⟩ : ∃ z : Nat → Int32, z = upd c_counts x3.toNatClampNeg v_6 := ⟨_, rfl⟩
            replace hm := mL_e hm c_7 ec_7
            refine va_iast hx hb hK hP hD hS 1 0 rfl rfl hi43 d_Lists_insert_43 (fun H locs hP hD hS => ?_)
            rw [← ec_7] at hP hD
            replace hP : va_P E.1 vwCl (Lists_insert_w E a_this a_counts a_symbols x_pairs x_items x_itemsBefore v_many c_7 c_symbols) H := hP
            replace hD : va_D A (Lists_insert_w E a_this a_counts a_symbols x_pairs x_items x_itemsBefore v_many c_7 c_symbols) := hD
            refine lv_aload_n hx hb d_Lists_insert_44 rfl (lv_at hl 0 rfl) ?_
            refine va_get (D := E.1) (ci := 5) (v := .ref a_symbols) (C := R_Lists) (T := F_Lists) (N := 6) hx hb hts i_Lists hown hK hP 0 rfl rfl 0 (by decide) (hts _ tw_158) (fun _ h9 => h9) rfl d_Lists_insert_45 ?_
            refine lv_iload_n hx hb d_Lists_insert_48 rfl (lv_at hl 3 rfl) ?_
            refine lv_aload_n hx hb d_Lists_insert_49 rfl (lv_at hl 0 rfl) ?_
            refine va_get (D := E.1) (ci := 5) (v := .ref a_symbols) (C := R_Lists) (T := F_Lists) (N := 6) hx hb hts i_Lists hown hK hP 0 rfl rfl 0 (by decide) (hts _ tw_158) (fun _ h9 => h9) rfl d_Lists_insert_50 ?_
            refine lv_iload_n hx hb d_Lists_insert_53 rfl (lv_at hl 3 rfl) ?_
            refine lv_iconst (v := 1) hx hb d_Lists_insert_54 (by decide) ?_
            refine lv_isub hx hb d_Lists_insert_55 ?_
            refine lv_topi (fun i_8 ei_8 => ?_)
            replace hm := mL_e hm i_8 ei_8
            obtain ⟨hi56, hm⟩ := mG_e hm
            refine va_iald hx hb hK hP 2 0 rfl rfl hi56 d_Lists_insert_56 ?_
            refine lv_topi (fun v_9 ev_9 => ?_)
            replace hm := mL_e hm v_9 ev_9
            obtain ⟨hi57, hm⟩ := mG_e hm
            obtain ⟨c_10, ec_10⟩ : ∃ z : Nat → Int32, z = upd c_symbols x3.toNatClampNeg v_9 := ⟨_, rfl⟩
            replace hm := mL_e hm c_10 ec_10
            refine va_iast hx hb hK hP hD hS 2 0 rfl rfl hi57 d_Lists_insert_57 (fun H locs hP hD hS => ?_)
            rw [← ec_10] at hP hD
            replace hP : va_P E.1 vwCl (Lists_insert_w E a_this a_counts a_symbols x_pairs x_items x_itemsBefore v_many c_7 c_10) H := hP
            replace hD : va_D A (Lists_insert_w E a_this a_counts a_symbols x_pairs x_items x_itemsBefore v_many c_7 c_10) := hD
            obtain ⟨y3_11, ey3_11⟩ : ∃ y : Int32, y = x3 + (-1) := ⟨_, rfl⟩
            replace hm := mL_e hm y3_11 ey3_11
            refine lv_iinc (v := y3_11) (lv' := [(3, .int y3_11), (0, .ref a_this), (1, .int x1), (2, .int x2)]) hx hb d_Lists_insert_58 hl (k := 3) rfl (by rw [ey3_11]; rfl) (by decide) rfl (fun ls hl => ?_)
            refine lv_goto (tgt := 5) hx hb d_Lists_insert_61 (by decide) ?_
            exact ih_5 _ _ _ _ H locs ls hm hP hD hS (lv_sub hl [1, 2, 3, 0] rfl)
  refine lv_aload_n hx hb d_Lists_insert_0 rfl (lv_at hl 0 rfl) ?_
  refine va_get (D := E.1) (ci := 5) (v := .int v_many) (C := R_Lists) (T := F_Lists) (N := 6) hx hb hts i_Lists hown hK hP 0 rfl rfl 5 (by decide) (hts _ tw_163) (fun _ h9 => h9) rfl d_Lists_insert_1 ?_
  refine lv_istore_n (lv' := [(3, .int v_many), (0, .ref a_this), (1, .int x1), (2, .int x2)]) hx hb d_Lists_insert_4 rfl hl (by decide) rfl (fun ls hl => ?_)
  exact h_5 F _ _ _ _ H locs ls hm hP hD hS (lv_sub hl [1, 2, 3, 0] rfl)
theorem d_Lists_sort_0 : decode b_Lists_sort 0 = .ok (.aload_n 0, 1) := by decide +kernel
theorem d_Lists_sort_1 : decode b_Lists_sort 1 = .ok (.iconst 0, 1) := by decide +kernel
theorem d_Lists_sort_2 : decode b_Lists_sort 2 = .ok (.putfield 39, 3) := by decide +kernel
theorem d_Lists_sort_5 : decode b_Lists_sort 5 = .ok (.iconst 0, 1) := by decide +kernel
theorem d_Lists_sort_6 : decode b_Lists_sort 6 = .ok (.istore_n 2, 1) := by decide +kernel
theorem d_Lists_sort_7 : decode b_Lists_sort 7 = .ok (.iload_n 2, 1) := by decide +kernel
theorem d_Lists_sort_8 : decode b_Lists_sort 8 = .ok (.aload_n 1, 1) := by decide +kernel
theorem d_Lists_sort_9 : decode b_Lists_sort 9 = .ok (.arraylength, 1) := by decide +kernel
theorem d_Lists_sort_10 : decode b_Lists_sort 10 = .ok (.if_icmp .ge 35, 3) := by decide +kernel
theorem d_Lists_sort_13 : decode b_Lists_sort 13 = .ok (.aload_n 0, 1) := by decide +kernel
theorem d_Lists_sort_14 : decode b_Lists_sort 14 = .ok (.getfield 39, 3) := by decide +kernel
theorem d_Lists_sort_17 : decode b_Lists_sort 17 = .ok (.aload_n 0, 1) := by decide +kernel
theorem d_Lists_sort_18 : decode b_Lists_sort 18 = .ok (.getfield 15, 3) := by decide +kernel
theorem d_Lists_sort_21 : decode b_Lists_sort 21 = .ok (.arraylength, 1) := by decide +kernel
theorem d_Lists_sort_22 : decode b_Lists_sort 22 = .ok (.if_icmp .ge 23, 3) := by decide +kernel
theorem d_Lists_sort_25 : decode b_Lists_sort 25 = .ok (.aload_n 1, 1) := by decide +kernel
theorem d_Lists_sort_26 : decode b_Lists_sort 26 = .ok (.iload_n 2, 1) := by decide +kernel
theorem d_Lists_sort_27 : decode b_Lists_sort 27 = .ok (.iaload, 1) := by decide +kernel
theorem d_Lists_sort_28 : decode b_Lists_sort 28 = .ok (.ifCond .le 11, 3) := by decide +kernel
theorem d_Lists_sort_31 : decode b_Lists_sort 31 = .ok (.aload_n 0, 1) := by decide +kernel
theorem d_Lists_sort_32 : decode b_Lists_sort 32 = .ok (.iload_n 2, 1) := by decide +kernel
theorem d_Lists_sort_33 : decode b_Lists_sort 33 = .ok (.aload_n 1, 1) := by decide +kernel
theorem d_Lists_sort_34 : decode b_Lists_sort 34 = .ok (.iload_n 2, 1) := by decide +kernel
theorem d_Lists_sort_35 : decode b_Lists_sort 35 = .ok (.iaload, 1) := by decide +kernel
theorem d_Lists_sort_36 : decode b_Lists_sort 36 = .ok (.invokevirtual 59, 3) := by decide +kernel
theorem d_Lists_sort_39 : decode b_Lists_sort 39 = .ok (.iinc 2 1, 3) := by decide +kernel
theorem d_Lists_sort_42 : decode b_Lists_sort 42 = .ok (.goto (-35), 3) := by decide +kernel
theorem d_Lists_sort_45 : decode b_Lists_sort 45 = .ok (.return_, 1) := by decide +kernel
def Lists_sort_39 (F : Nat) (k_7 : Int32 → (Nat → Int32) → (Nat → Int32) → Int32 → Option (Unit × Int32 × (Nat → Int32) × (Nat → Int32))) (v_many : Int32) (c_counts : Nat → Int32) (c_symbols : Nat → Int32) (x2 : Int32) : Option (Unit × Int32 × (Nat → Int32) × (Nat → Int32)) :=
  mL (x2 + 1) fun y2_1 => k_7 v_many c_counts c_symbols y2_1
def Lists_sort_7 (F : Nat) (n_p1 : Nat) (c_p1 : Nat → Int32) (k_7 : Int32 → (Nat → Int32) → (Nat → Int32) → Int32 → Option (Unit × Int32 × (Nat → Int32) × (Nat → Int32))) (v_many : Int32) (c_counts : Nat → Int32) (c_symbols : Nat → Int32) (x2 : Int32) : Option (Unit × Int32 × (Nat → Int32) × (Nat → Int32)) :=
  mC ((nI n_p1) ≤ x2) (some ((), v_many, c_counts, c_symbols)) (mC (288 ≤ v_many) (some ((), v_many, c_counts, c_symbols)) (mG x2 n_p1 (mC ((c_p1 x2.toNatClampNeg) ≤ 0) ((Lists_sort_39 F k_7) v_many c_counts c_symbols x2) (mG x2 n_p1 (mL (c_p1 x2.toNatClampNeg) fun t_2 => mR3 (Lists_insert F v_many c_counts c_symbols x2 t_2) fun _ v_many_3 c_counts_4 c_symbols_5 => (Lists_sort_39 F k_7) v_many_3 c_counts_4 c_symbols_5 x2)))))
abbrev Lists_sort_w (E : xE) (a_this : Nat) (a_p1 : Nat) (a_counts : Nat) (a_symbols : Nat) (n_p1 : Nat) (x_pairs : Value) (x_items : Value) (x_itemsBefore : Value) (c_p1 : Nat → Int32) (v_many : Int32) (c_counts : Nat → Int32) (c_symbols : Nat → Int32) : va_W := [(a_this, .inr (5, [.ref a_symbols, .ref a_counts, x_pairs, x_items, x_itemsBefore, .int v_many])), (a_p1, .inl (E.2.1, n_p1, .inl c_p1)), (a_counts, .inl (E.2.1, 288, .inl c_counts)), (a_symbols, .inl (E.2.1, 288, .inl c_symbols))]
def Lists_sort (F : Nat) (n_p1 : Nat) (c_p1 : Nat → Int32) (v_many : Int32) (c_counts : Nat → Int32) (c_symbols : Nat → Int32) : Option (Unit × Int32 × (Nat → Int32) × (Nat → Int32)) :=
  (mW4 (Lists_sort_7 F n_p1 c_p1) F) 0 c_counts c_symbols 0
abbrev Lists_sort_rm : Room := { frames := 1, cells := 0, slots := 0, locals := 23 }
set_option maxHeartbeats 4000000 in
set_option maxRecDepth 100000 in
theorem c_Lists_sort (l : Launch) (E : xE) (F sz : Nat) (a_this : Nat) (a_p1 : Nat) (a_counts : Nat) (a_symbols : Nat) (n_p1 : Nat) (x_pairs : Value) (x_items : Value) (x_itemsBefore : Value) (c_p1 : Nat → Int32) (v_many : Int32) (c_counts : Nat → Int32) (c_symbols : Nat → Int32) (res : Unit × Int32 × (Nat → Int32) × (Nat → Int32)) (hm : Lists_sort F n_p1 c_p1 v_many c_counts c_symbols = some res) : Met l y_Lists_sort (Cond.code y_Lists_sort b_Lists_sort 3 none :: x_tb) Lists_sort_rm (va_Pc [.ref a_this, .ref a_p1] (xPre E (Lists_sort_w E a_this a_p1 a_counts a_symbols n_p1 x_pairs x_items x_itemsBefore c_p1 v_many c_counts c_symbols) sz)) (xQv E (fun (u : Int32 × (Nat → Int32) × (Nat → Int32)) => u = res.2) (fun (u : Int32 × (Nat → Int32) × (Nat → Int32)) => (Lists_sort_w E a_this a_p1 a_counts a_symbols n_p1 x_pairs x_items x_itemsBefore c_p1 u.1 u.2.1 u.2.2)) (va_A (Lists_sort_w E a_this a_p1 a_counts a_symbols n_p1 x_pairs x_items x_itemsBefore c_p1 v_many c_counts c_symbols) sz)) 0 0 (va_A (Lists_sort_w E a_this a_p1 a_counts a_symbols n_p1 x_pairs x_items x_itemsBefore c_p1 v_many c_counts c_symbols) sz) := by
  refine xEnV (by decide) (Nat.le_of_ble_eq_true rfl) ?_
  intro p e s m args below meth c A ls Q hx hb hnm hts hown hml hK hA hI hN hret hP hD hS hl
  replace hown : s.vm.findClass R_Lists = some m.cls := hown
  replace hl : lv_has ls 3 [(0, .ref a_this), (1, .ref a_p1)] := hl
  obtain ⟨H, eH⟩ : ∃ z, z = s.heap := ⟨_, rfl⟩
  obtain ⟨locs, eL⟩ : ∃ z : List Loc, z = [] := ⟨_, rfl⟩
  rw [show W p l e Lists_sort_rm s m args below meth c s.heap [] 0 0 Q (F0 m 0 ls []) = W p l e Lists_sort_rm s m args below meth c H locs 0 0 Q (F0 m 0 ls []) by rw [eH, eL]]
  replace hP : va_P E.1 vwCl (Lists_sort_w E a_this a_p1 a_counts a_symbols n_p1 x_pairs x_items x_itemsBefore c_p1 v_many c_counts c_symbols) H := by rw [eH]; exact hP
  replace hS : va_S A s.heap H locs := by rw [eH, eL]; exact hS
  clear eH eL
  rw [Lists_sort] at hm
  have h_7 : ∀ (n_7 : Nat) (v_many : Int32) (c_counts : Nat → Int32) (c_symbols : Nat → Int32) (x2 : Int32) (H : Heap) (locs : List Loc) (ls : Array Slot), (mW4 (Lists_sort_7 F n_p1 c_p1) n_7) v_many c_counts c_symbols x2 = some res → va_P E.1 vwCl (Lists_sort_w E a_this a_p1 a_counts a_symbols n_p1 x_pairs x_items x_itemsBefore c_p1 v_many c_counts c_symbols) H → va_D A (Lists_sort_w E a_this a_p1 a_counts a_symbols n_p1 x_pairs x_items x_itemsBefore c_p1 v_many c_counts c_symbols) → va_S A s.heap H locs → lv_has ls 3 [(0, .ref a_this), (1, .ref a_p1), (2, .int x2)] → W p l e Lists_sort_rm s m args below meth c H locs 0 0 Q (F0 m 7 ls []) := by
    intro n_7
    induction n_7 with
    | zero => exact fun _ _ _ _ _ _ _ hm _ _ _ _ => (mW4_z hm).elim
    | succ n_7 ih_7 =>
      intro v_many c_counts c_symbols x2 H locs ls hm hP hD hS hl
      replace hm := mW4_s hm
      rw [Lists_sort_7] at hm
      refine lv_iload_n hx hb d_Lists_sort_7 rfl (lv_at hl 2 rfl) ?_
      refine lv_aload_n hx hb d_Lists_sort_8 rfl (lv_at hl 1 rfl) ?_
      refine va_alen (v := nI n_p1) hx hb hK hP 1 0 rfl rfl rfl d_Lists_sort_9 ?_
      refine lv_icmp_ge (tgt := 45) hx hb d_Lists_sort_10 (by decide) (fun c10 => ?_) (fun c10 => ?_)
      · replace hm := mC_t hm c10
        replace hm := Option.some.inj hm
        subst hm
        exact hret d_Lists_sort_45 (u := (v_many, c_counts, c_symbols)) rfl hP hD hS
      · replace hm := mC_f hm c10
        refine lv_aload_n hx hb d_Lists_sort_13 rfl (lv_at hl 0 rfl) ?_
        refine va_get (D := E.1) (ci := 5) (v := .int v_many) (C := R_Lists) (T := F_Lists) (N := 6) hx hb hts i_Lists hown hK hP 0 rfl rfl 5 (by decide) (hts _ tw_163) (fun _ h9 => h9) rfl d_Lists_sort_14 ?_
        refine lv_aload_n hx hb d_Lists_sort_17 rfl (lv_at hl 0 rfl) ?_
        refine va_get (D := E.1) (ci := 5) (v := .ref a_counts) (C := R_Lists) (T := F_Lists) (N := 6) hx hb hts i_Lists hown hK hP 0 rfl rfl 1 (by decide) (hts _ tw_159) (fun _ h9 => h9) rfl d_Lists_sort_18 ?_
        refine va_alen (v := 288) hx hb hK hP 2 0 rfl rfl rfl d_Lists_sort_21 ?_
        refine lv_icmp_ge (tgt := 45) hx hb d_Lists_sort_22 (by decide) (fun c22 => ?_) (fun c22 => ?_)
        · replace hm := mC_t hm c22
          replace hm := Option.some.inj hm
          subst hm
          exact hret d_Lists_sort_45 (u := (v_many, c_counts, c_symbols)) rfl hP hD hS
        · replace hm := mC_f hm c22
          have h_39 : ∀ (v_many : Int32) (c_counts : Nat → Int32) (c_symbols : Nat → Int32) (x2 : Int32) (H : Heap) (locs : List Loc) (ls : Array Slot), (Lists_sort_39 F (mW4 (Lists_sort_7 F n_p1 c_p1) n_7)) v_many c_counts c_symbols x2 = some res → va_P E.1 vwCl (Lists_sort_w E a_this a_p1 a_counts a_symbols n_p1 x_pairs x_items x_itemsBefore c_p1 v_many c_counts c_symbols) H → va_D A (Lists_sort_w E a_this a_p1 a_counts a_symbols n_p1 x_pairs x_items x_itemsBefore c_p1 v_many c_counts c_symbols) → va_S A s.heap H locs → lv_has ls 3 [(0, .ref a_this), (1, .ref a_p1), (2, .int x2)] → W p l e Lists_sort_rm s m args below meth c H locs 0 0 Q (F0 m 39 ls []) := by
            intro v_many c_counts c_symbols x2 H locs ls hm hP hD hS hl
            rw [Lists_sort_39] at hm
            obtain ⟨y2_1, ey2_1⟩ : ∃ y : Int32, y = x2 + 1 := ⟨_, rfl⟩
            replace hm := mL_e hm y2_1 ey2_1
            refine lv_iinc (v := y2_1) (lv' := [(2, .int y2_1), (0, .ref a_this), (1, .ref a_p1)]) hx hb d_Lists_sort_39 hl (k := 2) rfl (by rw [ey2_1]; rfl) (by decide) rfl (fun ls hl => ?_)
            refine lv_goto (tgt := 7) hx hb d_Lists_sort_42 (by decide) ?_
            exact ih_7 _ _ _ _ H locs ls hm hP hD hS (lv_sub hl [1, 2, 0] rfl)
          refine lv_aload_n hx hb d_Lists_sort_25 rfl (lv_at hl 1 rfl) ?_
          refine lv_iload_n hx hb d_Lists_sort_26 rfl (lv_at hl 2 rfl) ?_
          obtain ⟨hi27, hm⟩ := mG_e hm
          refine va_iald hx hb hK hP 1 0 rfl rfl hi27 d_Lists_sort_27 ?_
          refine lv_if_le (tgt := 39) hx hb d_Lists_sort_28 (by decide) (fun c28 => ?_) (fun c28 => ?_)
          · replace hm := mC_t hm c28
            exact h_39 _ _ _ _ H locs ls hm hP hD hS hl
          · replace hm := mC_f hm c28
            refine lv_aload_n hx hb d_Lists_sort_31 rfl (lv_at hl 0 rfl) ?_
            refine lv_iload_n hx hb d_Lists_sort_32 rfl (lv_at hl 2 rfl) ?_
            refine lv_aload_n hx hb d_Lists_sort_33 rfl (lv_at hl 1 rfl) ?_
            refine lv_iload_n hx hb d_Lists_sort_34 rfl (lv_at hl 2 rfl) ?_
            obtain ⟨hi35, hm⟩ := mG_e hm
            refine va_iald hx hb hK hP 1 0 rfl rfl hi35 d_Lists_sort_35 ?_
            obtain ⟨t_2, et_2⟩ : ∃ z : Int32, z = c_p1 x2.toNatClampNeg := ⟨_, rfl⟩
            rw [← et_2]
            replace hm := mL_e hm t_2 et_2
            obtain ⟨r_6, v_many_3, c_counts_4, c_symbols_5, hc36, hm⟩ := mR3_e hm
            refine xmv (wc := (Lists_insert_w E a_this a_counts a_symbols x_pairs x_items x_itemsBefore v_many c_counts c_symbols)) [true, false, true, true] [0, 1, 2] [0, 1, 2] hP hD hS hA rfl (by decide) (by decide) 3 (by decide) (fun _ => rfl) (fun hPc hDc hFc => va_runV (As := [.int x2, .int t_2]) (rest := []) ⟨hx, hb, hml, hown, hts⟩ (c_Lists_insert l E F H.size a_this a_counts a_symbols x_pairs x_items x_itemsBefore v_many c_counts c_symbols x2 t_2 (r_6, v_many_3, c_counts_4, c_symbols_5) hc36) (cwV 2 hts (x_gV tw_506 tw_508 tw_8 tw_72 tw_509) rfl rfl rfl (by decide +kernel) ⟨Nat.le_of_ble_eq_true rfl, Nat.le_of_ble_eq_true rfl⟩) (xPV 5 0 rfl rfl hPc hDc hFc hK hI hN hS) rfl rfl hl.1 rfl (lv_room (Nat.le_of_ble_eq_true rfl)) d_Lists_sort_36 ⟨Nat.le_of_ble_eq_true rfl, Nat.le_of_ble_eq_true rfl⟩) (fun u9 H locs hw hP hD hS => ?_)
            have hw2 : (v_many_3, c_counts_4, c_symbols_5) = u9 := hw.symm
            subst hw2
            replace hP : va_P E.1 vwCl (Lists_sort_w E a_this a_p1 a_counts a_symbols n_p1 x_pairs x_items x_itemsBefore c_p1 v_many_3 c_counts_4 c_symbols_5) H := hP
            replace hD : va_D A (Lists_sort_w E a_this a_p1 a_counts a_symbols n_p1 x_pairs x_items x_itemsBefore c_p1 v_many_3 c_counts_4 c_symbols_5) := hD
            exact h_39 _ _ _ _ H locs ls hm hP hD hS hl
  refine lv_aload_n hx hb d_Lists_sort_0 rfl (lv_at hl 0 rfl) ?_
  refine lv_iconst (v := 0) hx hb d_Lists_sort_1 (by decide) ?_
  refine va_put (D := E.1) (ci := 5) (v := .int 0) (ty := .int) (C := R_Lists) (T := F_Lists) (N := 6) hx hb hts i_Lists t_Lists t_Lists_ok n_Lists hown hK hP hD hS 0 rfl rfl 5 (by decide) (hts _ tw_163) (fun _ h9 => h9) rfl (by decide +kernel) rfl rfl (Nat.le_of_ble_eq_true rfl) d_Lists_sort_2 (fun H locs hP hD hS => ?_)
  replace hP : va_P E.1 vwCl (Lists_sort_w E a_this a_p1 a_counts a_symbols n_p1 x_pairs x_items x_itemsBefore c_p1 0 c_counts c_symbols) H := hP
  replace hD : va_D A (Lists_sort_w E a_this a_p1 a_counts a_symbols n_p1 x_pairs x_items x_itemsBefore c_p1 0 c_counts c_symbols) := hD
  refine lv_iconst (v := 0) hx hb d_Lists_sort_5 (by decide) ?_
  refine lv_istore_n (lv' := [(2, .int 0), (0, .ref a_this), (1, .ref a_p1)]) hx hb d_Lists_sort_6 rfl hl (by decide) rfl (fun ls hl => ?_)
  exact h_7 F _ _ _ _ H locs ls hm hP hD hS (lv_sub hl [1, 2, 0] rfl)
theorem d_Lists_makeList_0 : decode b_Lists_makeList 0 = .ok (.aload_n 0, 1) := by decide +kernel
theorem d_Lists_makeList_1 : decode b_Lists_makeList 1 = .ok (.getfield 26, 3) := by decide +kernel
theorem d_Lists_makeList_4 : decode b_Lists_makeList 4 = .ok (.astore_n 3, 1) := by decide +kernel
theorem d_Lists_makeList_5 : decode b_Lists_makeList 5 = .ok (.aload_n 0, 1) := by decide +kernel
theorem d_Lists_makeList_6 : decode b_Lists_makeList 6 = .ok (.aload_n 0, 1) := by decide +kernel
theorem d_Lists_makeList_7 : decode b_Lists_makeList 7 = .ok (.getfield 23, 3) := by decide +kernel
theorem d_Lists_makeList_10 : decode b_Lists_makeList 10 = .ok (.putfield 26, 3) := by decide +kernel
theorem d_Lists_makeList_13 : decode b_Lists_makeList 13 = .ok (.aload_n 0, 1) := by decide +kernel
theorem d_Lists_makeList_14 : decode b_Lists_makeList 14 = .ok (.aload_n 3, 1) := by decide +kernel
theorem d_Lists_makeList_15 : decode b_Lists_makeList 15 = .ok (.putfield 23, 3) := by decide +kernel
theorem d_Lists_makeList_18 : decode b_Lists_makeList 18 = .ok (.iload_n 2, 1) := by decide +kernel
theorem d_Lists_makeList_19 : decode b_Lists_makeList 19 = .ok (.iconst 2, 1) := by decide +kernel
theorem d_Lists_makeList_20 : decode b_Lists_makeList 20 = .ok (.idiv, 1) := by decide +kernel
theorem d_Lists_makeList_21 : decode b_Lists_makeList 21 = .ok (.istore 4, 2) := by decide +kernel
theorem d_Lists_makeList_23 : decode b_Lists_makeList 23 = .ok (.iconst 0, 1) := by decide +kernel
theorem d_Lists_makeList_24 : decode b_Lists_makeList 24 = .ok (.istore 5, 2) := by decide +kernel
theorem d_Lists_makeList_26 : decode b_Lists_makeList 26 = .ok (.iconst 0, 1) := by decide +kernel
theorem d_Lists_makeList_27 : decode b_Lists_makeList 27 = .ok (.istore 6, 2) := by decide +kernel
theorem d_Lists_makeList_29 : decode b_Lists_makeList 29 = .ok (.iconst 0, 1) := by decide +kernel
theorem d_Lists_makeList_30 : decode b_Lists_makeList 30 = .ok (.istore 7, 2) := by decide +kernel
theorem d_Lists_makeList_32 : decode b_Lists_makeList 32 = .ok (.iload 7, 2) := by decide +kernel
theorem d_Lists_makeList_34 : decode b_Lists_makeList 34 = .ok (.sipush 576, 3) := by decide +kernel
theorem d_Lists_makeList_37 : decode b_Lists_makeList 37 = .ok (.if_icmp .ge 168, 3) := by decide +kernel
theorem d_Lists_makeList_40 : decode b_Lists_makeList 40 = .ok (.iload 5, 2) := by decide +kernel
theorem d_Lists_makeList_42 : decode b_Lists_makeList 42 = .ok (.aload_n 0, 1) := by decide +kernel
theorem d_Lists_makeList_43 : decode b_Lists_makeList 43 = .ok (.getfield 39, 3) := by decide +kernel
theorem d_Lists_makeList_46 : decode b_Lists_makeList 46 = .ok (.if_icmp .lt 10, 3) := by decide +kernel
theorem d_Lists_makeList_49 : decode b_Lists_makeList 49 = .ok (.iload 6, 2) := by decide +kernel
theorem d_Lists_makeList_51 : decode b_Lists_makeList 51 = .ok (.iload 4, 2) := by decide +kernel
theorem d_Lists_makeList_53 : decode b_Lists_makeList 53 = .ok (.if_icmp .ge 152, 3) := by decide +kernel
theorem d_Lists_makeList_56 : decode b_Lists_makeList 56 = .ok (.iload 6, 2) := by decide +kernel
theorem d_Lists_makeList_58 : decode b_Lists_makeList 58 = .ok (.iload 4, 2) := by decide +kernel
theorem d_Lists_makeList_60 : decode b_Lists_makeList 60 = .ok (.if_icmp .ge 27, 3) := by decide +kernel
theorem d_Lists_makeList_63 : decode b_Lists_makeList 63 = .ok (.aload_n 0, 1) := by decide +kernel
theorem d_Lists_makeList_64 : decode b_Lists_makeList 64 = .ok (.getfield 26, 3) := by decide +kernel
theorem d_Lists_makeList_67 : decode b_Lists_makeList 67 = .ok (.iconst 2, 1) := by decide +kernel
theorem d_Lists_makeList_68 : decode b_Lists_makeList 68 = .ok (.iload 6, 2) := by decide +kernel
theorem d_Lists_makeList_70 : decode b_Lists_makeList 70 = .ok (.imul, 1) := by decide +kernel
theorem d_Lists_makeList_71 : decode b_Lists_makeList 71 = .ok (.iaload, 1) := by decide +kernel
theorem d_Lists_makeList_72 : decode b_Lists_makeList 72 = .ok (.aload_n 0, 1) := by decide +kernel
theorem d_Lists_makeList_73 : decode b_Lists_makeList 73 = .ok (.getfield 26, 3) := by decide +kernel
theorem d_Lists_makeList_76 : decode b_Lists_makeList 76 = .ok (.iconst 2, 1) := by decide +kernel
theorem d_Lists_makeList_77 : decode b_Lists_makeList 77 = .ok (.iload 6, 2) := by decide +kernel
theorem d_Lists_makeList_79 : decode b_Lists_makeList 79 = .ok (.imul, 1) := by decide +kernel
theorem d_Lists_makeList_80 : decode b_Lists_makeList 80 = .ok (.iconst 1, 1) := by decide +kernel
theorem d_Lists_makeList_81 : decode b_Lists_makeList 81 = .ok (.iadd, 1) := by decide +kernel
theorem d_Lists_makeList_82 : decode b_Lists_makeList 82 = .ok (.iaload, 1) := by decide +kernel
theorem d_Lists_makeList_83 : decode b_Lists_makeList 83 = .ok (.iadd, 1) := by decide +kernel
theorem d_Lists_makeList_84 : decode b_Lists_makeList 84 = .ok (.goto 4, 3) := by decide +kernel
theorem d_Lists_makeList_87 : decode b_Lists_makeList 87 = .ok (.iconst 0, 1) := by decide +kernel
theorem d_Lists_makeList_88 : decode b_Lists_makeList 88 = .ok (.istore 8, 2) := by decide +kernel
theorem d_Lists_makeList_90 : decode b_Lists_makeList 90 = .ok (.iload 5, 2) := by decide +kernel
theorem d_Lists_makeList_92 : decode b_Lists_makeList 92 = .ok (.aload_n 0, 1) := by decide +kernel
theorem d_Lists_makeList_93 : decode b_Lists_makeList 93 = .ok (.getfield 39, 3) := by decide +kernel
theorem d_Lists_makeList_96 : decode b_Lists_makeList 96 = .ok (.if_icmp .ge 22, 3) := by decide +kernel
theorem d_Lists_makeList_99 : decode b_Lists_makeList 99 = .ok (.iload 6, 2) := by decide +kernel
theorem d_Lists_makeList_101 : decode b_Lists_makeList 101 = .ok (.iload 4, 2) := by decide +kernel
theorem d_Lists_makeList_103 : decode b_Lists_makeList 103 = .ok (.if_icmp .ge 19, 3) := by decide +kernel
theorem d_Lists_makeList_106 : decode b_Lists_makeList 106 = .ok (.iload 8, 2) := by decide +kernel
theorem d_Lists_makeList_108 : decode b_Lists_makeList 108 = .ok (.aload_n 0, 1) := by decide +kernel
theorem d_Lists_makeList_109 : decode b_Lists_makeList 109 = .ok (.getfield 15, 3) := by decide +kernel
theorem d_Lists_makeList_112 : decode b_Lists_makeList 112 = .ok (.iload 5, 2) := by decide +kernel
theorem d_Lists_makeList_114 : decode b_Lists_makeList 114 = .ok (.iaload, 1) := by decide +kernel
theorem d_Lists_makeList_115 : decode b_Lists_makeList 115 = .ok (.if_icmp .ge 7, 3) := by decide +kernel
theorem d_Lists_makeList_118 : decode b_Lists_makeList 118 = .ok (.iconst 1, 1) := by decide +kernel
theorem d_Lists_makeList_119 : decode b_Lists_makeList 119 = .ok (.goto 4, 3) := by decide +kernel
theorem d_Lists_makeList_122 : decode b_Lists_makeList 122 = .ok (.iconst 0, 1) := by decide +kernel
theorem d_Lists_makeList_123 : decode b_Lists_makeList 123 = .ok (.istore 9, 2) := by decide +kernel
theorem d_Lists_makeList_125 : decode b_Lists_makeList 125 = .ok (.aload_n 0, 1) := by decide +kernel
theorem d_Lists_makeList_126 : decode b_Lists_makeList 126 = .ok (.getfield 23, 3) := by decide +kernel
theorem d_Lists_makeList_129 : decode b_Lists_makeList 129 = .ok (.iload 7, 2) := by decide +kernel
theorem d_Lists_makeList_131 : decode b_Lists_makeList 131 = .ok (.iload 9, 2) := by decide +kernel
theorem d_Lists_makeList_133 : decode b_Lists_makeList 133 = .ok (.ifCond .eq 8, 3) := by decide +kernel
theorem d_Lists_makeList_136 : decode b_Lists_makeList 136 = .ok (.iload 8, 2) := by decide +kernel
theorem d_Lists_makeList_138 : decode b_Lists_makeList 138 = .ok (.goto 10, 3) := by decide +kernel
theorem d_Lists_makeList_141 : decode b_Lists_makeList 141 = .ok (.aload_n 0, 1) := by decide +kernel
theorem d_Lists_makeList_142 : decode b_Lists_makeList 142 = .ok (.getfield 15, 3) := by decide +kernel
theorem d_Lists_makeList_145 : decode b_Lists_makeList 145 = .ok (.iload 5, 2) := by decide +kernel
theorem d_Lists_makeList_147 : decode b_Lists_makeList 147 = .ok (.iaload, 1) := by decide +kernel
theorem d_Lists_makeList_148 : decode b_Lists_makeList 148 = .ok (.iastore, 1) := by decide +kernel
theorem d_Lists_makeList_149 : decode b_Lists_makeList 149 = .ok (.aload_n 0, 1) := by decide +kernel
theorem d_Lists_makeList_150 : decode b_Lists_makeList 150 = .ok (.getfield 20, 3) := by decide +kernel
theorem d_Lists_makeList_153 : decode b_Lists_makeList 153 = .ok (.iload_n 1, 1) := by decide +kernel
theorem d_Lists_makeList_154 : decode b_Lists_makeList 154 = .ok (.aaload, 1) := by decide +kernel
theorem d_Lists_makeList_155 : decode b_Lists_makeList 155 = .ok (.iload 7, 2) := by decide +kernel
theorem d_Lists_makeList_157 : decode b_Lists_makeList 157 = .ok (.iload 9, 2) := by decide +kernel
theorem d_Lists_makeList_159 : decode b_Lists_makeList 159 = .ok (.ifCond .eq 7, 3) := by decide +kernel
theorem d_Lists_makeList_162 : decode b_Lists_makeList 162 = .ok (.iconst 1, 1) := by decide +kernel
theorem d_Lists_makeList_163 : decode b_Lists_makeList 163 = .ok (.goto 4, 3) := by decide +kernel
theorem d_Lists_makeList_166 : decode b_Lists_makeList 166 = .ok (.iconst 0, 1) := by decide +kernel
theorem d_Lists_makeList_167 : decode b_Lists_makeList 167 = .ok (.i2b, 1) := by decide +kernel
theorem d_Lists_makeList_168 : decode b_Lists_makeList 168 = .ok (.bastore, 1) := by decide +kernel
theorem d_Lists_makeList_169 : decode b_Lists_makeList 169 = .ok (.iload 5, 2) := by decide +kernel
theorem d_Lists_makeList_171 : decode b_Lists_makeList 171 = .ok (.iload 9, 2) := by decide +kernel
theorem d_Lists_makeList_173 : decode b_Lists_makeList 173 = .ok (.ifCond .eq 7, 3) := by decide +kernel
theorem d_Lists_makeList_176 : decode b_Lists_makeList 176 = .ok (.iconst 0, 1) := by decide +kernel
theorem d_Lists_makeList_177 : decode b_Lists_makeList 177 = .ok (.goto 4, 3) := by decide +kernel
theorem d_Lists_makeList_180 : decode b_Lists_makeList 180 = .ok (.iconst 1, 1) := by decide +kernel
theorem d_Lists_makeList_181 : decode b_Lists_makeList 181 = .ok (.iadd, 1) := by decide +kernel
theorem d_Lists_makeList_182 : decode b_Lists_makeList 182 = .ok (.istore 5, 2) := by decide +kernel
theorem d_Lists_makeList_184 : decode b_Lists_makeList 184 = .ok (.iload 6, 2) := by decide +kernel
theorem d_Lists_makeList_186 : decode b_Lists_makeList 186 = .ok (.iload 9, 2) := by decide +kernel
theorem d_Lists_makeList_188 : decode b_Lists_makeList 188 = .ok (.ifCond .eq 7, 3) := by decide +kernel
theorem d_Lists_makeList_191 : decode b_Lists_makeList 191 = .ok (.iconst 1, 1) := by decide +kernel
theorem d_Lists_makeList_192 : decode b_Lists_makeList 192 = .ok (.goto 4, 3) := by decide +kernel
theorem d_Lists_makeList_195 : decode b_Lists_makeList 195 = .ok (.iconst 0, 1) := by decide +kernel
theorem d_Lists_makeList_196 : decode b_Lists_makeList 196 = .ok (.iadd, 1) := by decide +kernel
theorem d_Lists_makeList_197 : decode b_Lists_makeList 197 = .ok (.istore 6, 2) := by decide +kernel
theorem d_Lists_makeList_199 : decode b_Lists_makeList 199 = .ok (.iinc 7 1, 3) := by decide +kernel
theorem d_Lists_makeList_202 : decode b_Lists_makeList 202 = .ok (.goto (-170), 3) := by decide +kernel
theorem d_Lists_makeList_205 : decode b_Lists_makeList 205 = .ok (.iload 7, 2) := by decide +kernel
theorem d_Lists_makeList_207 : decode b_Lists_makeList 207 = .ok (.ireturn, 1) := by decide +kernel
def Lists_makeList_196 (F : Nat) (k_32 : (Nat → Int32) → (Nat → Int32) → (Nat → Nat → Int32) → Int32 → Int32 → Int32 → Int32 → Option (Int32 × (Nat → Int32) × (Nat → Int32) × (Nat → Nat → Int32))) (c_itemsBefore : Nat → Int32) (c_items : Nat → Int32) (c_pairs : Nat → Nat → Int32) (x4 : Int32) (x5 : Int32) (x7 : Int32) (s0 : Int32) (s1 : Int32) : Option (Int32 × (Nat → Int32) × (Nat → Int32) × (Nat → Nat → Int32)) :=
  mL (s0 + s1) fun y6_1 => mL (x7 + 1) fun y7_2 => k_32 c_itemsBefore c_items c_pairs x4 x5 y6_1 y7_2
def Lists_makeList_181 (F : Nat) (k_32 : (Nat → Int32) → (Nat → Int32) → (Nat → Nat → Int32) → Int32 → Int32 → Int32 → Int32 → Option (Int32 × (Nat → Int32) × (Nat → Int32) × (Nat → Nat → Int32))) (c_itemsBefore : Nat → Int32) (c_items : Nat → Int32) (c_pairs : Nat → Nat → Int32) (x4 : Int32) (x6 : Int32) (x7 : Int32) (x9 : Int32) (s0 : Int32) (s1 : Int32) : Option (Int32 × (Nat → Int32) × (Nat → Int32) × (Nat → Nat → Int32)) :=
  mL (s0 + s1) fun y5_3 => mC (x9 = 0) ((Lists_makeList_196 F k_32) c_itemsBefore c_items c_pairs x4 y5_3 x7 x6 0) ((Lists_makeList_196 F k_32) c_itemsBefore c_items c_pairs x4 y5_3 x7 x6 1)
def Lists_makeList_167 (F : Nat) (k_32 : (Nat → Int32) → (Nat → Int32) → (Nat → Nat → Int32) → Int32 → Int32 → Int32 → Int32 → Option (Int32 × (Nat → Int32) × (Nat → Int32) × (Nat → Nat → Int32))) (c_itemsBefore : Nat → Int32) (c_items : Nat → Int32) (c_pairs : Nat → Nat → Int32) (x4 : Int32) (x5 : Int32) (x6 : Int32) (x7 : Int32) (x9 : Int32) (s0 : Int32) (s1 : Int32) (s2 : Int32) : Option (Int32 × (Nat → Int32) × (Nat → Int32) × (Nat → Nat → Int32)) :=
  mG s1 576 (mL (xup2 c_pairs s0.toNatClampNeg (upd (c_pairs s0.toNatClampNeg) s1.toNatClampNeg (vp_nar .byte s2.toInt8.toInt32))) fun c_4 => mC (x9 = 0) ((Lists_makeList_181 F k_32) c_itemsBefore c_items c_4 x4 x6 x7 x9 x5 1) ((Lists_makeList_181 F k_32) c_itemsBefore c_items c_4 x4 x6 x7 x9 x5 0))
def Lists_makeList_148 (F : Nat) (x1 : Int32) (k_32 : (Nat → Int32) → (Nat → Int32) → (Nat → Nat → Int32) → Int32 → Int32 → Int32 → Int32 → Option (Int32 × (Nat → Int32) × (Nat → Int32) × (Nat → Nat → Int32))) (c_itemsBefore : Nat → Int32) (c_items : Nat → Int32) (c_pairs : Nat → Nat → Int32) (x4 : Int32) (x5 : Int32) (x6 : Int32) (x7 : Int32) (x9 : Int32) (s1 : Int32) (s2 : Int32) : Option (Int32 × (Nat → Int32) × (Nat → Int32) × (Nat → Nat → Int32)) :=
  mG s1 576 (mL (upd c_items s1.toNatClampNeg s2) fun c_5 => mG x1 15 (mC (x9 = 0) ((Lists_makeList_167 F k_32) c_itemsBefore c_5 c_pairs x4 x5 x6 x7 x9 x1 x7 0) ((Lists_makeList_167 F k_32) c_itemsBefore c_5 c_pairs x4 x5 x6 x7 x9 x1 x7 1)))
def Lists_makeList_123 (F : Nat) (c_counts : Nat → Int32) (x1 : Int32) (k_32 : (Nat → Int32) → (Nat → Int32) → (Nat → Nat → Int32) → Int32 → Int32 → Int32 → Int32 → Option (Int32 × (Nat → Int32) × (Nat → Int32) × (Nat → Nat → Int32))) (c_itemsBefore : Nat → Int32) (c_items : Nat → Int32) (c_pairs : Nat → Nat → Int32) (x4 : Int32) (x5 : Int32) (x6 : Int32) (x7 : Int32) (x8 : Int32) (s0 : Int32) : Option (Int32 × (Nat → Int32) × (Nat → Int32) × (Nat → Nat → Int32)) :=
  mC (s0 = 0) (mG x5 288 ((Lists_makeList_148 F x1 k_32) c_itemsBefore c_items c_pairs x4 x5 x6 x7 s0 x7 (c_counts x5.toNatClampNeg))) ((Lists_makeList_148 F x1 k_32) c_itemsBefore c_items c_pairs x4 x5 x6 x7 s0 x7 x8)
def Lists_makeList_118 (F : Nat) (c_counts : Nat → Int32) (x1 : Int32) (k_32 : (Nat → Int32) → (Nat → Int32) → (Nat → Nat → Int32) → Int32 → Int32 → Int32 → Int32 → Option (Int32 × (Nat → Int32) × (Nat → Int32) × (Nat → Nat → Int32))) (c_itemsBefore : Nat → Int32) (c_items : Nat → Int32) (c_pairs : Nat → Nat → Int32) (x4 : Int32) (x5 : Int32) (x6 : Int32) (x7 : Int32) (x8 : Int32) : Option (Int32 × (Nat → Int32) × (Nat → Int32) × (Nat → Nat → Int32)) :=
  (Lists_makeList_123 F c_counts x1 k_32) c_itemsBefore c_items c_pairs x4 x5 x6 x7 x8 1
def Lists_makeList_122 (F : Nat) (c_counts : Nat → Int32) (x1 : Int32) (k_32 : (Nat → Int32) → (Nat → Int32) → (Nat → Nat → Int32) → Int32 → Int32 → Int32 → Int32 → Option (Int32 × (Nat → Int32) × (Nat → Int32) × (Nat → Nat → Int32))) (c_itemsBefore : Nat → Int32) (c_items : Nat → Int32) (c_pairs : Nat → Nat → Int32) (x4 : Int32) (x5 : Int32) (x6 : Int32) (x7 : Int32) (x8 : Int32) : Option (Int32 × (Nat → Int32) × (Nat → Int32) × (Nat → Nat → Int32)) :=
  (Lists_makeList_123 F c_counts x1 k_32) c_itemsBefore c_items c_pairs x4 x5 x6 x7 x8 0
def Lists_makeList_88 (F : Nat) (v_many : Int32) (c_counts : Nat → Int32) (x1 : Int32) (k_32 : (Nat → Int32) → (Nat → Int32) → (Nat → Nat → Int32) → Int32 → Int32 → Int32 → Int32 → Option (Int32 × (Nat → Int32) × (Nat → Int32) × (Nat → Nat → Int32))) (c_itemsBefore : Nat → Int32) (c_items : Nat → Int32) (c_pairs : Nat → Nat → Int32) (x4 : Int32) (x5 : Int32) (x6 : Int32) (x7 : Int32) (s0 : Int32) : Option (Int32 × (Nat → Int32) × (Nat → Int32) × (Nat → Nat → Int32)) :=
  mC (v_many ≤ x5) ((Lists_makeList_118 F c_counts x1 k_32) c_itemsBefore c_items c_pairs x4 x5 x6 x7 s0) (mC (x4 ≤ x6) ((Lists_makeList_122 F c_counts x1 k_32) c_itemsBefore c_items c_pairs x4 x5 x6 x7 s0) (mG x5 288 (mC ((c_counts x5.toNatClampNeg) ≤ s0) ((Lists_makeList_122 F c_counts x1 k_32) c_itemsBefore c_items c_pairs x4 x5 x6 x7 s0) ((Lists_makeList_118 F c_counts x1 k_32) c_itemsBefore c_items c_pairs x4 x5 x6 x7 s0))))
def Lists_makeList_56 (F : Nat) (v_many : Int32) (c_counts : Nat → Int32) (x1 : Int32) (k_32 : (Nat → Int32) → (Nat → Int32) → (Nat → Nat → Int32) → Int32 → Int32 → Int32 → Int32 → Option (Int32 × (Nat → Int32) × (Nat → Int32) × (Nat → Nat → Int32))) (c_itemsBefore : Nat → Int32) (c_items : Nat → Int32) (c_pairs : Nat → Nat → Int32) (x4 : Int32) (x5 : Int32) (x6 : Int32) (x7 : Int32) : Option (Int32 × (Nat → Int32) × (Nat → Int32) × (Nat → Nat → Int32)) :=
  mC (x4 ≤ x6) ((Lists_makeList_88 F v_many c_counts x1 k_32) c_itemsBefore c_items c_pairs x4 x5 x6 x7 0) (mL (2 * x6) fun i_6 => mG i_6 576 (mL ((2 * x6) + 1) fun i_7 => mG i_7 576 ((Lists_makeList_88 F v_many c_counts x1 k_32) c_itemsBefore c_items c_pairs x4 x5 x6 x7 ((c_itemsBefore i_6.toNatClampNeg) + (c_itemsBefore i_7.toNatClampNeg)))))
def Lists_makeList_32 (F : Nat) (v_many : Int32) (c_counts : Nat → Int32) (x1 : Int32) (k_32 : (Nat → Int32) → (Nat → Int32) → (Nat → Nat → Int32) → Int32 → Int32 → Int32 → Int32 → Option (Int32 × (Nat → Int32) × (Nat → Int32) × (Nat → Nat → Int32))) (c_itemsBefore : Nat → Int32) (c_items : Nat → Int32) (c_pairs : Nat → Nat → Int32) (x4 : Int32) (x5 : Int32) (x6 : Int32) (x7 : Int32) : Option (Int32 × (Nat → Int32) × (Nat → Int32) × (Nat → Nat → Int32)) :=
  mC (576 ≤ x7) (some (x7, c_itemsBefore, c_items, c_pairs)) (mC (x5 < v_many) ((Lists_makeList_56 F v_many c_counts x1 k_32) c_itemsBefore c_items c_pairs x4 x5 x6 x7) (mC (x4 ≤ x6) (some (x7, c_itemsBefore, c_items, c_pairs)) ((Lists_makeList_56 F v_many c_counts x1 k_32) c_itemsBefore c_items c_pairs x4 x5 x6 x7)))
abbrev Lists_makeList_w (E : xE) (a_this : Nat) (a_itemsBefore : Nat) (a_items : Nat) (a_counts : Nat) (a_pairs : Nat) (d_pairs : Nat → Nat) (x_symbols : Value) (v_many : Int32) (c_counts : Nat → Int32) (c_itemsBefore : Nat → Int32) (c_items : Nat → Int32) (c_pairs : Nat → Nat → Int32) : va_W := [(a_this, .inr (5, [x_symbols, .ref a_counts, .ref a_pairs, .ref a_items, .ref a_itemsBefore, .int v_many])), (a_itemsBefore, .inl (E.2.1, 576, .inl c_itemsBefore)), (a_items, .inl (E.2.1, 576, .inl c_items)), (a_counts, .inl (E.2.1, 288, .inl c_counts)), (a_pairs, .inl (E.2.2.2.1, 15, .inr (.inr (.inr (.inr (fun j => some (d_pairs j))))))), (d_pairs 0, .inl (E.2.2.1, 576, .inl (c_pairs 0))), (d_pairs 1, .inl (E.2.2.1, 576, .inl (c_pairs 1))), (d_pairs 2, .inl (E.2.2.1, 576, .inl (c_pairs 2))), (d_pairs 3, .inl (E.2.2.1, 576, .inl (c_pairs 3))), (d_pairs 4, .inl (E.2.2.1, 576, .inl (c_pairs 4))), (d_pairs 5, .inl (E.2.2.1, 576, .inl (c_pairs 5))), (d_pairs 6, .inl (E.2.2.1, 576, .inl (c_pairs 6))), (d_pairs 7, .inl (E.2.2.1, 576, .inl (c_pairs 7))), (d_pairs 8, .inl (E.2.2.1, 576, .inl (c_pairs 8))), (d_pairs 9, .inl (E.2.2.1, 576, .inl (c_pairs 9))), (d_pairs 10, .inl (E.2.2.1, 576, .inl (c_pairs 10))), (d_pairs 11, .inl (E.2.2.1, 576, .inl (c_pairs 11))), (d_pairs 12, .inl (E.2.2.1, 576, .inl (c_pairs 12))), (d_pairs 13, .inl (E.2.2.1, 576, .inl (c_pairs 13))), (d_pairs 14, .inl (E.2.2.1, 576, .inl (c_pairs 14)))]
def Lists_makeList (F : Nat) (v_many : Int32) (c_counts : Nat → Int32) (c_itemsBefore : Nat → Int32) (c_items : Nat → Int32) (c_pairs : Nat → Nat → Int32) (x1 : Int32) (x2 : Int32) : Option (Int32 × (Nat → Int32) × (Nat → Int32) × (Nat → Nat → Int32)) :=
  mL (x2 / 2) fun y4_8 => (mW7 (Lists_makeList_32 F v_many c_counts x1) F) c_items c_itemsBefore c_pairs y4_8 0 0 0
abbrev Lists_makeList_rm : Room := { frames := 0, cells := 0, slots := 0, locals := 0 }
set_option maxHeartbeats 4000000 in
set_option maxRecDepth 100000 in
theorem c_Lists_makeList (l : Launch) (E : xE) (F sz : Nat) (a_this : Nat) (a_itemsBefore : Nat) (a_items : Nat) (a_counts : Nat) (a_pairs : Nat) (d_pairs : Nat → Nat) (x_symbols : Value) (v_many : Int32) (c_counts : Nat → Int32) (c_itemsBefore : Nat → Int32) (c_items : Nat → Int32) (c_pairs : Nat → Nat → Int32) (x1 : Int32) (x2 : Int32) (res : Int32 × (Nat → Int32) × (Nat → Int32) × (Nat → Nat → Int32)) (hm : Lists_makeList F v_many c_counts c_itemsBefore c_items c_pairs x1 x2 = some res) : Met l y_Lists_makeList (Cond.code y_Lists_makeList b_Lists_makeList 10 (some .int) :: x_tb) Lists_makeList_rm (va_Pc [.ref a_this, .int x1, .int x2] (xPre E (Lists_makeList_w E a_this a_itemsBefore a_items a_counts a_pairs d_pairs x_symbols v_many c_counts c_itemsBefore c_items c_pairs) sz)) (xQi E (fun (r : Int32) (u : ((Nat → Int32) × (Nat → Int32) × (Nat → Nat → Int32)) × Nat × Nat) => r = res.1 ∧ u.1 = res.2) (fun (u : ((Nat → Int32) × (Nat → Int32) × (Nat → Nat → Int32)) × Nat × Nat) => (Lists_makeList_w E a_this u.2.1 u.2.2 a_counts a_pairs d_pairs x_symbols v_many c_counts u.1.1 u.1.2.1 u.1.2.2)) (va_A (Lists_makeList_w E a_this a_itemsBefore a_items a_counts a_pairs d_pairs x_symbols v_many c_counts c_itemsBefore c_items c_pairs) sz)) 0 0 (va_A (Lists_makeList_w E a_this a_itemsBefore a_items a_counts a_pairs d_pairs x_symbols v_many c_counts c_itemsBefore c_items c_pairs) sz) := by
  refine xEnI (by decide) (Nat.le_of_ble_eq_true rfl) ?_
  intro p e s m args below meth c A ls Q hx hb hnm hts hown hml hK hA hI hN hret hP hD hS hl
  replace hown : s.vm.findClass R_Lists = some m.cls := hown
  replace hl : lv_has ls 10 [(0, .ref a_this), (1, .int x1), (2, .int x2)] := hl
  obtain ⟨H, eH⟩ : ∃ z, z = s.heap := ⟨_, rfl⟩
  obtain ⟨locs, eL⟩ : ∃ z : List Loc, z = [] := ⟨_, rfl⟩
  rw [show W p l e Lists_makeList_rm s m args below meth c s.heap [] 0 0 Q (F0 m 0 ls []) = W p l e Lists_makeList_rm s m args below meth c H locs 0 0 Q (F0 m 0 ls []) by rw [eH, eL]]
  replace hP : va_P E.1 vwCl (Lists_makeList_w E a_this a_itemsBefore a_items a_counts a_pairs d_pairs x_symbols v_many c_counts c_itemsBefore c_items c_pairs) H := by rw [eH]; exact hP
  replace hS : va_S A s.heap H locs := by rw [eH, eL]; exact hS
  clear eH eL
  rw [Lists_makeList] at hm
  have h_32 : ∀ (n_32 : Nat) (c_itemsBefore : Nat → Int32) (c_items : Nat → Int32) (c_pairs : Nat → Nat → Int32) (x4 : Int32) (x5 : Int32) (x6 : Int32) (x7 : Int32) (b_itemsBefore : Nat) (b_items : Nat) (H : Heap) (locs : List Loc) (ls : Array Slot), (mW7 (Lists_makeList_32 F v_many c_counts x1) n_32) c_itemsBefore c_items c_pairs x4 x5 x6 x7 = some res → va_P E.1 vwCl (Lists_makeList_w E a_this b_itemsBefore b_items a_counts a_pairs d_pairs x_symbols v_many c_counts c_itemsBefore c_items c_pairs) H → va_D A (Lists_makeList_w E a_this b_itemsBefore b_items a_counts a_pairs d_pairs x_symbols v_many c_counts c_itemsBefore c_items c_pairs) → va_S A s.heap H locs → lv_has ls 10 [(0, .ref a_this), (1, .int x1), (4, .int x4), (5, .int x5), (6, .int x6), (7, .int x7)] → W p l e Lists_makeList_rm s m args below meth c H locs 0 0 Q (F0 m 32 ls []) := by
    intro n_32
    induction n_32 with
    | zero => exact fun _ _ _ _ _ _ _ _ _ _ _ _ hm _ _ _ _ => (mW7_z hm).elim
    | succ n_32 ih_32 =>
      intro c_itemsBefore c_items c_pairs x4 x5 x6 x7 b_itemsBefore b_items H locs ls hm hP hD hS hl
      replace hm := mW7_s hm
      rw [Lists_makeList_32] at hm
      refine lv_iload hx hb d_Lists_makeList_32 (lv_at hl 5 rfl) ?_
      refine lv_sipush (v := 576) hx hb d_Lists_makeList_34 (by decide) ?_
      refine lv_icmp_ge (tgt := 205) hx hb d_Lists_makeList_37 (by decide) (fun c37 => ?_) (fun c37 => ?_)
      · replace hm := mC_t hm c37
        refine lv_iload hx hb d_Lists_makeList_205 (lv_at hl 5 rfl) ?_
        replace hm := Option.some.inj hm
        subst hm
        exact hret d_Lists_makeList_207 (u := ((c_itemsBefore, c_items, c_pairs), b_itemsBefore, b_items)) ⟨rfl, rfl⟩ hP hD hS
      · replace hm := mC_f hm c37
        have h_56 : ∀ (c_itemsBefore : Nat → Int32) (c_items : Nat → Int32) (c_pairs : Nat → Nat → Int32) (x4 : Int32) (x5 : Int32) (x6 : Int32) (x7 : Int32) (b_itemsBefore : Nat) (b_items : Nat) (H : Heap) (locs : List Loc) (ls : Array Slot), (Lists_makeList_56 F v_many c_counts x1 (mW7 (Lists_makeList_32 F v_many c_counts x1) n_32)) c_itemsBefore c_items c_pairs x4 x5 x6 x7 = some res → va_P E.1 vwCl (Lists_makeList_w E a_this b_itemsBefore b_items a_counts a_pairs d_pairs x_symbols v_many c_counts c_itemsBefore c_items c_pairs) H → va_D A (Lists_makeList_w E a_this b_itemsBefore b_items a_counts a_pairs d_pairs x_symbols v_many c_counts c_itemsBefore c_items c_pairs) → va_S A s.heap H locs → lv_has ls 10 [(0, .ref a_this), (1, .int x1), (4, .int x4), (5, .int x5), (6, .int x6), (7, .int x7)] → W p l e Lists_makeList_rm s m args below meth c H locs 0 0 Q (F0 m 56 ls []) := by
          intro c_itemsBefore c_items c_pairs x4 x5 x6 x7 b_itemsBefore b_items H locs ls hm hP hD hS hl
          rw [Lists_makeList_56] at hm
          have h_88 : ∀ (c_itemsBefore : Nat → Int32) (c_items : Nat → Int32) (c_pairs : Nat → Nat → Int32) (x4 : Int32) (x5 : Int32) (x6 : Int32) (x7 : Int32) (s0 : Int32) (b_itemsBefore : Nat) (b_items : Nat) (H : Heap) (locs : List Loc) (ls : Array Slot), (Lists_makeList_88 F v_many c_counts x1 (mW7 (Lists_makeList_32 F v_many c_counts x1) n_32)) c_itemsBefore c_items c_pairs x4 x5 x6 x7 s0 = some res → va_P E.1 vwCl (Lists_makeList_w E a_this b_itemsBefore b_items a_counts a_pairs d_pairs x_symbols v_many c_counts c_itemsBefore c_items c_pairs) H → va_D A (Lists_makeList_w E a_this b_itemsBefore b_items a_counts a_pairs d_pairs x_symbols v_many c_counts c_itemsBefore c_items c_pairs) → va_S A s.heap H locs → lv_has ls 10 [(0, .ref a_this), (1, .int x1), (4, .int x4), (5, .int x5), (6, .int x6), (7, .int x7)] → W p l e Lists_makeList_rm s m args below meth c H locs 0 0 Q (F0 m 88 ls [.int s0]) := by
            intro c_itemsBefore c_items c_pairs x4 x5 x6 x7 s0 b_itemsBefore b_items H locs ls hm hP hD hS hl
            rw [Lists_makeList_88] at hm
            have h_123 : ∀ (c_itemsBefore : Nat → Int32) (c_items : Nat → Int32) (c_pairs : Nat → Nat → Int32) (x4 : Int32) (x5 : Int32) (x6 : Int32) (x7 : Int32) (x8 : Int32) (s0 : Int32) (b_itemsBefore : Nat) (b_items : Nat) (H : Heap) (locs : List Loc) (ls : Array Slot), (Lists_makeList_123 F c_counts x1 (mW7 (Lists_makeList_32 F v_many c_counts x1) n_32)) c_itemsBefore c_items c_pairs x4 x5 x6 x7 x8 s0 = some res → va_P E.1 vwCl (Lists_makeList_w E a_this b_itemsBefore b_items a_counts a_pairs d_pairs x_symbols v_many c_counts c_itemsBefore c_items c_pairs) H → va_D A (Lists_makeList_w E a_this b_itemsBefore b_items a_counts a_pairs d_pairs x_symbols v_many c_counts c_itemsBefore c_items c_pairs) → va_S A s.heap H locs → lv_has ls 10 [(0, .ref a_this), (1, .int x1), (4, .int x4), (5, .int x5), (6, .int x6), (7, .int x7), (8, .int x8)] → W p l e Lists_makeList_rm s m args below meth c H locs 0 0 Q (F0 m 123 ls [.int s0]) := by
              intro c_itemsBefore c_items c_pairs x4 x5 x6 x7 x8 s0 b_itemsBefore b_items H locs ls hm hP hD hS hl
              rw [Lists_makeList_123] at hm
              have h_148 : ∀ (c_itemsBefore : Nat → Int32) (c_items : Nat → Int32) (c_pairs : Nat → Nat → Int32) (x4 : Int32) (x5 : Int32) (x6 : Int32) (x7 : Int32) (x9 : Int32) (s1 : Int32) (s2 : Int32) (b_itemsBefore : Nat) (b_items : Nat) (H : Heap) (locs : List Loc) (ls : Array Slot), (Lists_makeList_148 F x1 (mW7 (Lists_makeList_32 F v_many c_counts x1) n_32)) c_itemsBefore c_items c_pairs x4 x5 x6 x7 x9 s1 s2 = some res → va_P E.1 vwCl (Lists_makeList_w E a_this b_itemsBefore b_items a_counts a_pairs d_pairs x_symbols v_many c_counts c_itemsBefore c_items c_pairs) H → va_D A (Lists_makeList_w E a_this b_itemsBefore b_items a_counts a_pairs d_pairs x_symbols v_many c_counts c_itemsBefore c_items c_pairs) → va_S A s.heap H locs → lv_has ls 10 [(0, .ref a_this), (1, .int x1), (4, .int x4), (5, .int x5), (6, .int x6), (7, .int x7), (9, .int x9)] → W p l e Lists_makeList_rm s m args below meth c H locs 0 0 Q (F0 m 148 ls [.int s2, .int s1, .ref b_items]) := by
                intro c_itemsBefore c_items c_pairs x4 x5 x6 x7 x9 s1 s2 b_itemsBefore b_items H locs ls hm hP hD hS hl
                rw [Lists_makeList_148] at hm
                have h_167 : ∀ (c_itemsBefore : Nat → Int32) (c_items : Nat → Int32) (c_pairs : Nat → Nat → Int32) (x4 : Int32) (x5 : Int32) (x6 : Int32) (x7 : Int32) (x9 : Int32) (s0 : Int32) (s1 : Int32) (s2 : Int32) (b_itemsBefore : Nat) (b_items : Nat) (H : Heap) (locs : List Loc) (ls : Array Slot), (Lists_makeList_167 F (mW7 (Lists_makeList_32 F v_many c_counts x1) n_32)) c_itemsBefore c_items c_pairs x4 x5 x6 x7 x9 s0 s1 s2 = some res → vp_in s0 15 → va_P E.1 vwCl (Lists_makeList_w E a_this b_itemsBefore b_items a_counts a_pairs d_pairs x_symbols v_many c_counts c_itemsBefore c_items c_pairs) H → va_D A (Lists_makeList_w E a_this b_itemsBefore b_items a_counts a_pairs d_pairs x_symbols v_many c_counts c_itemsBefore c_items c_pairs) → va_S A s.heap H locs → lv_has ls 10 [(0, .ref a_this), (1, .int x1), (4, .int x4), (5, .int x5), (6, .int x6), (7, .int x7), (9, .int x9)] → W p l e Lists_makeList_rm s m args below meth c H locs 0 0 Q (F0 m 167 ls [.int s2, .int s1, .ref (d_pairs s0.toNatClampNeg)]) := by
                  intro c_itemsBefore c_items c_pairs x4 x5 x6 x7 x9 s0 s1 s2 b_itemsBefore b_items H locs ls hm hiS0 hP hD hS hl
                  rw [Lists_makeList_167] at hm
                  have h_181 : ∀ (c_itemsBefore : Nat → Int32) (c_items : Nat → Int32) (c_pairs : Nat → Nat → Int32) (x4 : Int32) (x6 : Int32) (x7 : Int32) (x9 : Int32) (s0 : Int32) (s1 : Int32) (b_itemsBefore : Nat) (b_items : Nat) (H : Heap) (locs : List Loc) (ls : Array Slot), (Lists_makeList_181 F (mW7 (Lists_makeList_32 F v_many c_counts x1) n_32)) c_itemsBefore c_items c_pairs x4 x6 x7 x9 s0 s1 = some res → va_P E.1 vwCl (Lists_makeList_w E a_this b_itemsBefore b_items a_counts a_pairs d_pairs x_symbols v_many c_counts c_itemsBefore c_items c_pairs) H → va_D A (Lists_makeList_w E a_this b_itemsBefore b_items a_counts a_pairs d_pairs x_symbols v_many c_counts c_itemsBefore c_items c_pairs) → va_S A s.heap H locs → lv_has ls 10 [(0, .ref a_this), (1, .int x1), (4, .int x4), (6, .int x6), (7, .int x7), (9, .int x9)] → W p l e Lists_makeList_rm s m args below meth c H locs 0 0 Q (F0 m 181 ls [.int s1, .int s0]) := by
                    intro c_itemsBefore c_items c_pairs x4 x6 x7 x9 s0 s1 b_itemsBefore b_items H locs ls hm hP hD hS hl
                    rw [Lists_makeList_181] at hm
                    have h_196 : ∀ (c_itemsBefore : Nat → Int32) (c_items : Nat → Int32) (c_pairs : Nat → Nat → Int32) (x4 : Int32) (x5 : Int32) (x7 : Int32) (s0 : Int32) (s1 : Int32) (b_itemsBefore : Nat) (b_items : Nat) (H : Heap) (locs : List Loc) (ls : Array Slot), (Lists_makeList_196 F (mW7 (Lists_makeList_32 F v_many c_counts x1) n_32)) c_itemsBefore c_items c_pairs x4 x5 x7 s0 s1 = some res → va_P E.1 vwCl (Lists_makeList_w E a_this b_itemsBefore b_items a_counts a_pairs d_pairs x_symbols v_many c_counts c_itemsBefore c_items c_pairs) H → va_D A (Lists_makeList_w E a_this b_itemsBefore b_items a_counts a_pairs d_pairs x_symbols v_many c_counts c_itemsBefore c_items c_pairs) → va_S A s.heap H locs → lv_has ls 10 [(0, .ref a_this), (1, .int x1), (4, .int x4), (5, .int x5), (7, .int x7)] → W p l e Lists_makeList_rm s m args below meth c H locs 0 0 Q (F0 m 196 ls [.int s1, .int s0]) := by
                      intro c_itemsBefore c_items c_pairs x4 x5 x7 s0 s1 b_itemsBefore b_items H locs ls hm hP hD hS hl
                      rw [Lists_makeList_196] at hm
                      refine lv_iadd hx hb d_Lists_makeList_196 ?_
                      refine lv_topi (fun y6_1 ey6_1 => ?_)
                      replace hm := mL_e hm y6_1 ey6_1
                      refine lv_istore (lv' := [(6, .int y6_1), (0, .ref a_this), (1, .int x1), (4, .int x4), (5, .int x5), (7, .int x7)]) hx hb d_Lists_makeList_197 hl (by decide) rfl (fun ls hl => ?_)
                      obtain ⟨y7_2, ey7_2⟩ : ∃ y : Int32, y = x7 + 1 := ⟨_, rfl⟩
                      replace hm := mL_e hm y7_2 ey7_2
                      refine lv_iinc (v := y7_2) (lv' := [(7, .int y7_2), (6, .int y6_1), (0, .ref a_this), (1, .int x1), (4, .int x4), (5, .int x5)]) hx hb d_Lists_makeList_199 hl (k := 5) rfl (by rw [ey7_2]; rfl) (by decide) rfl (fun ls hl => ?_)
                      refine lv_goto (tgt := 32) hx hb d_Lists_makeList_202 (by decide) ?_
                      exact ih_32 _ _ _ _ _ _ _ b_itemsBefore b_items H locs ls hm hP hD hS (lv_sub hl [2, 3, 4, 5, 1, 0] rfl)
                    refine lv_iadd hx hb d_Lists_makeList_181 ?_
                    refine lv_topi (fun y5_3 ey5_3 => ?_)
                    replace hm := mL_e hm y5_3 ey5_3
                    refine lv_istore (lv' := [(5, .int y5_3), (0, .ref a_this), (1, .int x1), (4, .int x4), (6, .int x6), (7, .int x7), (9, .int x9)]) hx hb d_Lists_makeList_182 hl (by decide) rfl (fun ls hl => ?_)
                    refine lv_iload hx hb d_Lists_makeList_184 (lv_at hl 4 rfl) ?_
                    refine lv_iload hx hb d_Lists_makeList_186 (lv_at hl 6 rfl) ?_
                    refine lv_if_eq (tgt := 195) hx hb d_Lists_makeList_188 (by decide) (fun c188 => ?_) (fun c188 => ?_)
                    · replace hm := mC_t hm c188
                      refine lv_iconst (v := 0) hx hb d_Lists_makeList_195 (by decide) ?_
                      exact h_196 _ _ _ _ _ _ _ _ b_itemsBefore b_items H locs ls hm hP hD hS (lv_sub hl [1, 2, 3, 0, 5] rfl)
                    · replace hm := mC_f hm c188
                      refine lv_iconst (v := 1) hx hb d_Lists_makeList_191 (by decide) ?_
                      refine lv_goto (tgt := 196) hx hb d_Lists_makeList_192 (by decide) ?_
                      exact h_196 _ _ _ _ _ _ _ _ b_itemsBefore b_items H locs ls hm hP hD hS (lv_sub hl [1, 2, 3, 0, 5] rfl)
                  refine lv_i2b hx hb d_Lists_makeList_167 rfl ?_
                  obtain ⟨hi168, hm⟩ := mG_e hm
                  have hr168 : ∀ k, k < 15 → ((Lists_makeList_w E a_this b_itemsBefore b_items a_counts a_pairs d_pairs x_symbols v_many c_counts c_itemsBefore c_items c_pairs) : va_W)[5 + k]? = some (d_pairs k, .inl (E.2.2.1, 576, .inl (c_pairs k))) := x15 rfl rfl rfl rfl rfl rfl rfl rfl rfl rfl rfl rfl rfl rfl rfl
                  have hs168 : ∀ k, k < 15 → ∀ z : Nat → Int32, ((Lists_makeList_w E a_this b_itemsBefore b_items a_counts a_pairs d_pairs x_symbols v_many c_counts c_itemsBefore c_items c_pairs) : va_W).set (5 + k) (d_pairs k, .inl (E.2.2.1, 576, .inl z)) = (Lists_makeList_w E a_this b_itemsBefore b_items a_counts a_pairs d_pairs x_symbols v_many c_counts c_itemsBefore c_items (xup2 c_pairs k z)) := x15 (fun _ => rfl) (fun _ => rfl) (fun _ => rfl) (fun _ => rfl) (fun _ => rfl) (fun _ => rfl) (fun _ => rfl) (fun _ => rfl) (fun _ => rfl) (fun _ => rfl) (fun _ => rfl) (fun _ => rfl) (fun _ => rfl) (fun _ => rfl) (fun _ => rfl)
                  obtain ⟨c_4, ec_4⟩ : ∃ z : Nat → Nat → Int32, z = xup2 c_pairs s0.toNatClampNeg (upd (c_pairs s0.toNatClampNeg) s1.toNatClampNeg (vp_nar .byte s2.toInt8.toInt32)) := ⟨_, rfl⟩
                  replace hm := mL_e hm c_4 ec_4
                  refine va_bast hx hb hK hP hD hS (5 + s0.toNatClampNeg) 1 (hr168 _ (xlt15 hiS0)) rfl hi168 d_Lists_makeList_168 (fun H locs hP hD hS => ?_)
                  rw [hs168 _ (xlt15 hiS0), ← ec_4] at hP hD
                  replace hP : va_P E.1 vwCl (Lists_makeList_w E a_this b_itemsBefore b_items a_counts a_pairs d_pairs x_symbols v_many c_counts c_itemsBefore c_items c_4) H := hP
                  replace hD : va_D A (Lists_makeList_w E a_this b_itemsBefore b_items a_counts a_pairs d_pairs x_symbols v_many c_counts c_itemsBefore c_items c_4) := hD
                  refine lv_iload hx hb d_Lists_makeList_169 (lv_at hl 3 rfl) ?_
                  refine lv_iload hx hb d_Lists_makeList_171 (lv_at hl 6 rfl) ?_
                  refine lv_if_eq (tgt := 180) hx hb d_Lists_makeList_173 (by decide) (fun c173 => ?_) (fun c173 => ?_)
                  · replace hm := mC_t hm c173
                    refine lv_iconst (v := 1) hx hb d_Lists_makeList_180 (by decide) ?_
                    exact h_181 _ _ _ _ _ _ _ _ _ b_itemsBefore b_items H locs ls hm hP hD hS (lv_sub hl [0, 1, 2, 4, 5, 6] rfl)
                  · replace hm := mC_f hm c173
                    refine lv_iconst (v := 0) hx hb d_Lists_makeList_176 (by decide) ?_
                    refine lv_goto (tgt := 181) hx hb d_Lists_makeList_177 (by decide) ?_
                    exact h_181 _ _ _ _ _ _ _ _ _ b_itemsBefore b_items H locs ls hm hP hD hS (lv_sub hl [0, 1, 2, 4, 5, 6] rfl)
                obtain ⟨hi148, hm⟩ := mG_e hm
                obtain ⟨c_5, ec_5⟩ : ∃ z : Nat → Int32, z = upd c_items s1.toNatClampNeg s2 := ⟨_, rfl⟩
                replace hm := mL_e hm c_5 ec_5
                refine va_iast hx hb hK hP hD hS 2 0 rfl rfl hi148 d_Lists_makeList_148 (fun H locs hP hD hS => ?_)
                rw [← ec_5] at hP hD
                replace hP : va_P E.1 vwCl (Lists_makeList_w E a_this b_itemsBefore b_items a_counts a_pairs d_pairs x_symbols v_many c_counts c_itemsBefore c_5 c_pairs) H := hP
                replace hD : va_D A (Lists_makeList_w E a_this b_itemsBefore b_items a_counts a_pairs d_pairs x_symbols v_many c_counts c_itemsBefore c_5 c_pairs) := hD
                refine lv_aload_n hx hb d_Lists_makeList_149 rfl (lv_at hl 0 rfl) ?_
                refine va_get (D := E.1) (ci := 5) (v := .ref a_pairs) (C := R_Lists) (T := F_Lists) (N := 6) hx hb hts i_Lists hown hK hP 0 rfl rfl 2 (by decide) (hts _ tw_160) (fun _ h9 => h9) rfl d_Lists_makeList_150 ?_
                refine lv_iload_n hx hb d_Lists_makeList_153 rfl (lv_at hl 1 rfl) ?_
                obtain ⟨hi154, hm⟩ := mG_e hm
                refine xaald hx hb hK hP 4 2 rfl rfl hi154 d_Lists_makeList_154 ?_
                refine lv_iload hx hb d_Lists_makeList_155 (lv_at hl 5 rfl) ?_
                refine lv_iload hx hb d_Lists_makeList_157 (lv_at hl 6 rfl) ?_
                refine lv_if_eq (tgt := 166) hx hb d_Lists_makeList_159 (by decide) (fun c159 => ?_) (fun c159 => ?_)
                · replace hm := mC_t hm c159
                  refine lv_iconst (v := 0) hx hb d_Lists_makeList_166 (by decide) ?_
                  exact h_167 _ _ _ _ _ _ _ _ _ _ _ b_itemsBefore b_items H locs ls hm hi154 hP hD hS hl
                · replace hm := mC_f hm c159
                  refine lv_iconst (v := 1) hx hb d_Lists_makeList_162 (by decide) ?_
                  refine lv_goto (tgt := 167) hx hb d_Lists_makeList_163 (by decide) ?_
                  exact h_167 _ _ _ _ _ _ _ _ _ _ _ b_itemsBefore b_items H locs ls hm hi154 hP hD hS hl
              refine lv_istore (lv' := [(9, .int s0), (0, .ref a_this), (1, .int x1), (4, .int x4), (5, .int x5), (6, .int x6), (7, .int x7), (8, .int x8)]) hx hb d_Lists_makeList_123 hl (by decide) rfl (fun ls hl => ?_)
              refine lv_aload_n hx hb d_Lists_makeList_125 rfl (lv_at hl 1 rfl) ?_
              refine va_get (D := E.1) (ci := 5) (v := .ref b_items) (C := R_Lists) (T := F_Lists) (N := 6) hx hb hts i_Lists hown hK hP 0 rfl rfl 3 (by decide) (hts _ tw_161) (fun _ h9 => h9) rfl d_Lists_makeList_126 ?_
              refine lv_iload hx hb d_Lists_makeList_129 (lv_at hl 6 rfl) ?_
              refine lv_iload hx hb d_Lists_makeList_131 (lv_at hl 0 rfl) ?_
              refine lv_if_eq (tgt := 141) hx hb d_Lists_makeList_133 (by decide) (fun c133 => ?_) (fun c133 => ?_)
              · replace hm := mC_t hm c133
                refine lv_aload_n hx hb d_Lists_makeList_141 rfl (lv_at hl 1 rfl) ?_
                refine va_get (D := E.1) (ci := 5) (v := .ref a_counts) (C := R_Lists) (T := F_Lists) (N := 6) hx hb hts i_Lists hown hK hP 0 rfl rfl 1 (by decide) (hts _ tw_159) (fun _ h9 => h9) rfl d_Lists_makeList_142 ?_
                refine lv_iload hx hb d_Lists_makeList_145 (lv_at hl 4 rfl) ?_
                obtain ⟨hi147, hm⟩ := mG_e hm
                refine va_iald hx hb hK hP 3 0 rfl rfl hi147 d_Lists_makeList_147 ?_
                exact h_148 _ _ _ _ _ _ _ _ _ _ b_itemsBefore b_items H locs ls hm hP hD hS (lv_sub hl [1, 2, 3, 4, 5, 6, 0] rfl)
              · replace hm := mC_f hm c133
                refine lv_iload hx hb d_Lists_makeList_136 (lv_at hl 7 rfl) ?_
                refine lv_goto (tgt := 148) hx hb d_Lists_makeList_138 (by decide) ?_
                exact h_148 _ _ _ _ _ _ _ _ _ _ b_itemsBefore b_items H locs ls hm hP hD hS (lv_sub hl [1, 2, 3, 4, 5, 6, 0] rfl)
            have h_118 : ∀ (c_itemsBefore : Nat → Int32) (c_items : Nat → Int32) (c_pairs : Nat → Nat → Int32) (x4 : Int32) (x5 : Int32) (x6 : Int32) (x7 : Int32) (x8 : Int32) (b_itemsBefore : Nat) (b_items : Nat) (H : Heap) (locs : List Loc) (ls : Array Slot), (Lists_makeList_118 F c_counts x1 (mW7 (Lists_makeList_32 F v_many c_counts x1) n_32)) c_itemsBefore c_items c_pairs x4 x5 x6 x7 x8 = some res → va_P E.1 vwCl (Lists_makeList_w E a_this b_itemsBefore b_items a_counts a_pairs d_pairs x_symbols v_many c_counts c_itemsBefore c_items c_pairs) H → va_D A (Lists_makeList_w E a_this b_itemsBefore b_items a_counts a_pairs d_pairs x_symbols v_many c_counts c_itemsBefore c_items c_pairs) → va_S A s.heap H locs → lv_has ls 10 [(0, .ref a_this), (1, .int x1), (4, .int x4), (5, .int x5), (6, .int x6), (7, .int x7), (8, .int x8)] → W p l e Lists_makeList_rm s m args below meth c H locs 0 0 Q (F0 m 118 ls []) := by
              intro c_itemsBefore c_items c_pairs x4 x5 x6 x7 x8 b_itemsBefore b_items H locs ls hm hP hD hS hl
              rw [Lists_makeList_118] at hm
              refine lv_iconst (v := 1) hx hb d_Lists_makeList_118 (by decide) ?_
              refine lv_goto (tgt := 123) hx hb d_Lists_makeList_119 (by decide) ?_
              exact h_123 _ _ _ _ _ _ _ _ _ b_itemsBefore b_items H locs ls hm hP hD hS hl
            refine lv_istore (lv' := [(8, .int s0), (0, .ref a_this), (1, .int x1), (4, .int x4), (5, .int x5), (6, .int x6), (7, .int x7)]) hx hb d_Lists_makeList_88 hl (by decide) rfl (fun ls hl => ?_)
            refine lv_iload hx hb d_Lists_makeList_90 (lv_at hl 4 rfl) ?_
            refine lv_aload_n hx hb d_Lists_makeList_92 rfl (lv_at hl 1 rfl) ?_
            refine va_get (D := E.1) (ci := 5) (v := .int v_many) (C := R_Lists) (T := F_Lists) (N := 6) hx hb hts i_Lists hown hK hP 0 rfl rfl 5 (by decide) (hts _ tw_163) (fun _ h9 => h9) rfl d_Lists_makeList_93 ?_
            refine lv_icmp_ge (tgt := 118) hx hb d_Lists_makeList_96 (by decide) (fun c96 => ?_) (fun c96 => ?_)
            · replace hm := mC_t hm c96
              exact h_118 _ _ _ _ _ _ _ _ b_itemsBefore b_items H locs ls hm hP hD hS (lv_sub hl [1, 2, 3, 4, 5, 6, 0] rfl)
            · replace hm := mC_f hm c96
              have h_122 : ∀ (c_itemsBefore : Nat → Int32) (c_items : Nat → Int32) (c_pairs : Nat → Nat → Int32) (x4 : Int32) (x5 : Int32) (x6 : Int32) (x7 : Int32) (x8 : Int32) (b_itemsBefore : Nat) (b_items : Nat) (H : Heap) (locs : List Loc) (ls : Array Slot), (Lists_makeList_122 F c_counts x1 (mW7 (Lists_makeList_32 F v_many c_counts x1) n_32)) c_itemsBefore c_items c_pairs x4 x5 x6 x7 x8 = some res → va_P E.1 vwCl (Lists_makeList_w E a_this b_itemsBefore b_items a_counts a_pairs d_pairs x_symbols v_many c_counts c_itemsBefore c_items c_pairs) H → va_D A (Lists_makeList_w E a_this b_itemsBefore b_items a_counts a_pairs d_pairs x_symbols v_many c_counts c_itemsBefore c_items c_pairs) → va_S A s.heap H locs → lv_has ls 10 [(0, .ref a_this), (1, .int x1), (4, .int x4), (5, .int x5), (6, .int x6), (7, .int x7), (8, .int x8)] → W p l e Lists_makeList_rm s m args below meth c H locs 0 0 Q (F0 m 122 ls []) := by
                intro c_itemsBefore c_items c_pairs x4 x5 x6 x7 x8 b_itemsBefore b_items H locs ls hm hP hD hS hl
                rw [Lists_makeList_122] at hm
                refine lv_iconst (v := 0) hx hb d_Lists_makeList_122 (by decide) ?_
                exact h_123 _ _ _ _ _ _ _ _ _ b_itemsBefore b_items H locs ls hm hP hD hS hl
              refine lv_iload hx hb d_Lists_makeList_99 (lv_at hl 5 rfl) ?_
              refine lv_iload hx hb d_Lists_makeList_101 (lv_at hl 3 rfl) ?_
              refine lv_icmp_ge (tgt := 122) hx hb d_Lists_makeList_103 (by decide) (fun c103 => ?_) (fun c103 => ?_)
              · replace hm := mC_t hm c103
                exact h_122 _ _ _ _ _ _ _ _ b_itemsBefore b_items H locs ls hm hP hD hS (lv_sub hl [1, 2, 3, 4, 5, 6, 0] rfl)
              · replace hm := mC_f hm c103
                refine lv_iload hx hb d_Lists_makeList_106 (lv_at hl 0 rfl) ?_
                refine lv_aload_n hx hb d_Lists_makeList_108 rfl (lv_at hl 1 rfl) ?_
                refine va_get (D := E.1) (ci := 5) (v := .ref a_counts) (C := R_Lists) (T := F_Lists) (N := 6) hx hb hts i_Lists hown hK hP 0 rfl rfl 1 (by decide) (hts _ tw_159) (fun _ h9 => h9) rfl d_Lists_makeList_109 ?_
                refine lv_iload hx hb d_Lists_makeList_112 (lv_at hl 4 rfl) ?_
                obtain ⟨hi114, hm⟩ := mG_e hm
                refine va_iald hx hb hK hP 3 0 rfl rfl hi114 d_Lists_makeList_114 ?_
                refine lv_icmp_ge (tgt := 122) hx hb d_Lists_makeList_115 (by decide) (fun c115 => ?_) (fun c115 => ?_)
                · replace hm := mC_t hm c115
                  exact h_122 _ _ _ _ _ _ _ _ b_itemsBefore b_items H locs ls hm hP hD hS (lv_sub hl [1, 2, 3, 4, 5, 6, 0] rfl)
                · replace hm := mC_f hm c115
                  exact h_118 _ _ _ _ _ _ _ _ b_itemsBefore b_items H locs ls hm hP hD hS (lv_sub hl [1, 2, 3, 4, 5, 6, 0] rfl)
          refine lv_iload hx hb d_Lists_makeList_56 (lv_at hl 4 rfl) ?_
          refine lv_iload hx hb d_Lists_makeList_58 (lv_at hl 2 rfl) ?_
          refine lv_icmp_ge (tgt := 87) hx hb d_Lists_makeList_60 (by decide) (fun c60 => ?_) (fun c60 => ?_)
          · replace hm := mC_t hm c60
            refine lv_iconst (v := 0) hx hb d_Lists_makeList_87 (by decide) ?_
            exact h_88 _ _ _ _ _ _ _ _ b_itemsBefore b_items H locs ls hm hP hD hS hl
          · replace hm := mC_f hm c60
            refine lv_aload_n hx hb d_Lists_makeList_63 rfl (lv_at hl 0 rfl) ?_
            refine va_get (D := E.1) (ci := 5) (v := .ref b_itemsBefore) (C := R_Lists) (T := F_Lists) (N := 6) hx hb hts i_Lists hown hK hP 0 rfl rfl 4 (by decide) (hts _ tw_162) (fun _ h9 => h9) rfl d_Lists_makeList_64 ?_
            refine lv_iconst (v := 2) hx hb d_Lists_makeList_67 (by decide) ?_
            refine lv_iload hx hb d_Lists_makeList_68 (lv_at hl 4 rfl) ?_
            refine lv_imul hx hb d_Lists_makeList_70 ?_
            refine lv_topi (fun i_6 ei_6 => ?_)
            replace hm := mL_e hm i_6 ei_6
            obtain ⟨hi71, hm⟩ := mG_e hm
            refine va_iald hx hb hK hP 1 0 rfl rfl hi71 d_Lists_makeList_71 ?_
            refine lv_aload_n hx hb d_Lists_makeList_72 rfl (lv_at hl 0 rfl) ?_
            refine va_get (D := E.1) (ci := 5) (v := .ref b_itemsBefore) (C := R_Lists) (T := F_Lists) (N := 6) hx hb hts i_Lists hown hK hP 0 rfl rfl 4 (by decide) (hts _ tw_162) (fun _ h9 => h9) rfl d_Lists_makeList_73 ?_
            refine lv_iconst (v := 2) hx hb d_Lists_makeList_76 (by decide) ?_
            refine lv_iload hx hb d_Lists_makeList_77 (lv_at hl 4 rfl) ?_
            refine lv_imul hx hb d_Lists_makeList_79 ?_
            refine lv_iconst (v := 1) hx hb d_Lists_makeList_80 (by decide) ?_
            refine lv_iadd hx hb d_Lists_makeList_81 ?_
            refine lv_topi (fun i_7 ei_7 => ?_)
            replace hm := mL_e hm i_7 ei_7
            obtain ⟨hi82, hm⟩ := mG_e hm
            refine va_iald hx hb hK hP 1 0 rfl rfl hi82 d_Lists_makeList_82 ?_
            refine lv_iadd hx hb d_Lists_makeList_83 ?_
            refine lv_goto (tgt := 88) hx hb d_Lists_makeList_84 (by decide) ?_
            exact h_88 _ _ _ _ _ _ _ _ b_itemsBefore b_items H locs ls hm hP hD hS hl
        refine lv_iload hx hb d_Lists_makeList_40 (lv_at hl 3 rfl) ?_
        refine lv_aload_n hx hb d_Lists_makeList_42 rfl (lv_at hl 0 rfl) ?_
        refine va_get (D := E.1) (ci := 5) (v := .int v_many) (C := R_Lists) (T := F_Lists) (N := 6) hx hb hts i_Lists hown hK hP 0 rfl rfl 5 (by decide) (hts _ tw_163) (fun _ h9 => h9) rfl d_Lists_makeList_43 ?_
        refine lv_icmp_lt (tgt := 56) hx hb d_Lists_makeList_46 (by decide) (fun c46 => ?_) (fun c46 => ?_)
        · replace hm := mC_t hm c46
          exact h_56 _ _ _ _ _ _ _ b_itemsBefore b_items H locs ls hm hP hD hS hl
        · replace hm := mC_f hm c46
          refine lv_iload hx hb d_Lists_makeList_49 (lv_at hl 4 rfl) ?_
          refine lv_iload hx hb d_Lists_makeList_51 (lv_at hl 2 rfl) ?_
          refine lv_icmp_ge (tgt := 205) hx hb d_Lists_makeList_53 (by decide) (fun c53 => ?_) (fun c53 => ?_)
          · replace hm := mC_t hm c53
            refine lv_iload hx hb d_Lists_makeList_205 (lv_at hl 5 rfl) ?_
            replace hm := Option.some.inj hm
            subst hm
            exact hret d_Lists_makeList_207 (u := ((c_itemsBefore, c_items, c_pairs), b_itemsBefore, b_items)) ⟨rfl, rfl⟩ hP hD hS
          · replace hm := mC_f hm c53
            exact h_56 _ _ _ _ _ _ _ b_itemsBefore b_items H locs ls hm hP hD hS hl
  refine lv_aload_n hx hb d_Lists_makeList_0 rfl (lv_at hl 0 rfl) ?_
  refine va_get (D := E.1) (ci := 5) (v := .ref a_itemsBefore) (C := R_Lists) (T := F_Lists) (N := 6) hx hb hts i_Lists hown hK hP 0 rfl rfl 4 (by decide) (hts _ tw_162) (fun _ h9 => h9) rfl d_Lists_makeList_1 ?_
  refine lv_astore_n (lv' := [(3, .ref a_itemsBefore), (0, .ref a_this), (1, .int x1), (2, .int x2)]) hx hb d_Lists_makeList_4 rfl hl (by decide) rfl (fun ls hl => ?_)
  refine lv_aload_n hx hb d_Lists_makeList_5 rfl (lv_at hl 1 rfl) ?_
  refine lv_aload_n hx hb d_Lists_makeList_6 rfl (lv_at hl 1 rfl) ?_
  refine va_get (D := E.1) (ci := 5) (v := .ref a_items) (C := R_Lists) (T := F_Lists) (N := 6) hx hb hts i_Lists hown hK hP 0 rfl rfl 3 (by decide) (hts _ tw_161) (fun _ h9 => h9) rfl d_Lists_makeList_7 ?_
  refine va_put (D := E.1) (ci := 5) (v := .ref a_items) (ty := (.array .int)) (C := R_Lists) (T := F_Lists) (N := 6) hx hb hts i_Lists t_Lists t_Lists_ok n_Lists hown hK hP hD hS 0 rfl rfl 4 (by decide) (hts _ tw_162) (fun _ h9 => h9) rfl (by decide +kernel) rfl rfl (Nat.le_of_ble_eq_true rfl) d_Lists_makeList_10 (fun H locs hP hD hS => ?_)
  replace hP : va_P E.1 vwCl [(a_this, .inr (5, [x_symbols, .ref a_counts, .ref a_pairs, .ref a_items, .ref a_items, .int v_many])), (a_itemsBefore, .inl (E.2.1, 576, .inl c_itemsBefore)), (a_items, .inl (E.2.1, 576, .inl c_items)), (a_counts, .inl (E.2.1, 288, .inl c_counts)), (a_pairs, .inl (E.2.2.2.1, 15, .inr (.inr (.inr (.inr (fun j => some (d_pairs j))))))), (d_pairs 0, .inl (E.2.2.1, 576, .inl (c_pairs 0))), (d_pairs 1, .inl (E.2.2.1, 576, .inl (c_pairs 1))), (d_pairs 2, .inl (E.2.2.1, 576, .inl (c_pairs 2))), (d_pairs 3, .inl (E.2.2.1, 576, .inl (c_pairs 3))), (d_pairs 4, .inl (E.2.2.1, 576, .inl (c_pairs 4))), (d_pairs 5, .inl (E.2.2.1, 576, .inl (c_pairs 5))), (d_pairs 6, .inl (E.2.2.1, 576, .inl (c_pairs 6))), (d_pairs 7, .inl (E.2.2.1, 576, .inl (c_pairs 7))), (d_pairs 8, .inl (E.2.2.1, 576, .inl (c_pairs 8))), (d_pairs 9, .inl (E.2.2.1, 576, .inl (c_pairs 9))), (d_pairs 10, .inl (E.2.2.1, 576, .inl (c_pairs 10))), (d_pairs 11, .inl (E.2.2.1, 576, .inl (c_pairs 11))), (d_pairs 12, .inl (E.2.2.1, 576, .inl (c_pairs 12))), (d_pairs 13, .inl (E.2.2.1, 576, .inl (c_pairs 13))), (d_pairs 14, .inl (E.2.2.1, 576, .inl (c_pairs 14)))] H := hP
  replace hD : va_D A [(a_this, .inr (5, [x_symbols, .ref a_counts, .ref a_pairs, .ref a_items, .ref a_items, .int v_many])), (a_itemsBefore, .inl (E.2.1, 576, .inl c_itemsBefore)), (a_items, .inl (E.2.1, 576, .inl c_items)), (a_counts, .inl (E.2.1, 288, .inl c_counts)), (a_pairs, .inl (E.2.2.2.1, 15, .inr (.inr (.inr (.inr (fun j => some (d_pairs j))))))), (d_pairs 0, .inl (E.2.2.1, 576, .inl (c_pairs 0))), (d_pairs 1, .inl (E.2.2.1, 576, .inl (c_pairs 1))), (d_pairs 2, .inl (E.2.2.1, 576, .inl (c_pairs 2))), (d_pairs 3, .inl (E.2.2.1, 576, .inl (c_pairs 3))), (d_pairs 4, .inl (E.2.2.1, 576, .inl (c_pairs 4))), (d_pairs 5, .inl (E.2.2.1, 576, .inl (c_pairs 5))), (d_pairs 6, .inl (E.2.2.1, 576, .inl (c_pairs 6))), (d_pairs 7, .inl (E.2.2.1, 576, .inl (c_pairs 7))), (d_pairs 8, .inl (E.2.2.1, 576, .inl (c_pairs 8))), (d_pairs 9, .inl (E.2.2.1, 576, .inl (c_pairs 9))), (d_pairs 10, .inl (E.2.2.1, 576, .inl (c_pairs 10))), (d_pairs 11, .inl (E.2.2.1, 576, .inl (c_pairs 11))), (d_pairs 12, .inl (E.2.2.1, 576, .inl (c_pairs 12))), (d_pairs 13, .inl (E.2.2.1, 576, .inl (c_pairs 13))), (d_pairs 14, .inl (E.2.2.1, 576, .inl (c_pairs 14)))] := hD
  refine lv_aload_n hx hb d_Lists_makeList_13 rfl (lv_at hl 1 rfl) ?_
  refine lv_aload_n hx hb d_Lists_makeList_14 rfl (lv_at hl 0 rfl) ?_
  refine va_put (D := E.1) (ci := 5) (v := .ref a_itemsBefore) (ty := (.array .int)) (C := R_Lists) (T := F_Lists) (N := 6) hx hb hts i_Lists t_Lists t_Lists_ok n_Lists hown hK hP hD hS 0 rfl rfl 3 (by decide) (hts _ tw_161) (fun _ h9 => h9) rfl (by decide +kernel) rfl rfl (Nat.le_of_ble_eq_true rfl) d_Lists_makeList_15 (fun H locs hP hD hS => ?_)
  replace hP : va_P E.1 vwCl [(a_this, .inr (5, [x_symbols, .ref a_counts, .ref a_pairs, .ref a_itemsBefore, .ref a_items, .int v_many])), (a_itemsBefore, .inl (E.2.1, 576, .inl c_itemsBefore)), (a_items, .inl (E.2.1, 576, .inl c_items)), (a_counts, .inl (E.2.1, 288, .inl c_counts)), (a_pairs, .inl (E.2.2.2.1, 15, .inr (.inr (.inr (.inr (fun j => some (d_pairs j))))))), (d_pairs 0, .inl (E.2.2.1, 576, .inl (c_pairs 0))), (d_pairs 1, .inl (E.2.2.1, 576, .inl (c_pairs 1))), (d_pairs 2, .inl (E.2.2.1, 576, .inl (c_pairs 2))), (d_pairs 3, .inl (E.2.2.1, 576, .inl (c_pairs 3))), (d_pairs 4, .inl (E.2.2.1, 576, .inl (c_pairs 4))), (d_pairs 5, .inl (E.2.2.1, 576, .inl (c_pairs 5))), (d_pairs 6, .inl (E.2.2.1, 576, .inl (c_pairs 6))), (d_pairs 7, .inl (E.2.2.1, 576, .inl (c_pairs 7))), (d_pairs 8, .inl (E.2.2.1, 576, .inl (c_pairs 8))), (d_pairs 9, .inl (E.2.2.1, 576, .inl (c_pairs 9))), (d_pairs 10, .inl (E.2.2.1, 576, .inl (c_pairs 10))), (d_pairs 11, .inl (E.2.2.1, 576, .inl (c_pairs 11))), (d_pairs 12, .inl (E.2.2.1, 576, .inl (c_pairs 12))), (d_pairs 13, .inl (E.2.2.1, 576, .inl (c_pairs 13))), (d_pairs 14, .inl (E.2.2.1, 576, .inl (c_pairs 14)))] H := hP
  replace hD : va_D A [(a_this, .inr (5, [x_symbols, .ref a_counts, .ref a_pairs, .ref a_itemsBefore, .ref a_items, .int v_many])), (a_itemsBefore, .inl (E.2.1, 576, .inl c_itemsBefore)), (a_items, .inl (E.2.1, 576, .inl c_items)), (a_counts, .inl (E.2.1, 288, .inl c_counts)), (a_pairs, .inl (E.2.2.2.1, 15, .inr (.inr (.inr (.inr (fun j => some (d_pairs j))))))), (d_pairs 0, .inl (E.2.2.1, 576, .inl (c_pairs 0))), (d_pairs 1, .inl (E.2.2.1, 576, .inl (c_pairs 1))), (d_pairs 2, .inl (E.2.2.1, 576, .inl (c_pairs 2))), (d_pairs 3, .inl (E.2.2.1, 576, .inl (c_pairs 3))), (d_pairs 4, .inl (E.2.2.1, 576, .inl (c_pairs 4))), (d_pairs 5, .inl (E.2.2.1, 576, .inl (c_pairs 5))), (d_pairs 6, .inl (E.2.2.1, 576, .inl (c_pairs 6))), (d_pairs 7, .inl (E.2.2.1, 576, .inl (c_pairs 7))), (d_pairs 8, .inl (E.2.2.1, 576, .inl (c_pairs 8))), (d_pairs 9, .inl (E.2.2.1, 576, .inl (c_pairs 9))), (d_pairs 10, .inl (E.2.2.1, 576, .inl (c_pairs 10))), (d_pairs 11, .inl (E.2.2.1, 576, .inl (c_pairs 11))), (d_pairs 12, .inl (E.2.2.1, 576, .inl (c_pairs 12))), (d_pairs 13, .inl (E.2.2.1, 576, .inl (c_pairs 13))), (d_pairs 14, .inl (E.2.2.1, 576, .inl (c_pairs 14)))] := hD
  refine lv_iload_n hx hb d_Lists_makeList_18 rfl (lv_at hl 3 rfl) ?_
  refine lv_iconst (v := 2) hx hb d_Lists_makeList_19 (by decide) ?_
  refine lv_idiv hx hb d_Lists_makeList_20 (by decide) ?_
  refine lv_topi (fun y4_8 ey4_8 => ?_)
  replace hm := mL_e hm y4_8 ey4_8
  refine lv_istore (lv' := [(4, .int y4_8), (3, .ref a_itemsBefore), (0, .ref a_this), (1, .int x1), (2, .int x2)]) hx hb d_Lists_makeList_21 hl (by decide) rfl (fun ls hl => ?_)
  refine lv_iconst (v := 0) hx hb d_Lists_makeList_23 (by decide) ?_
  refine lv_istore (lv' := [(5, .int 0), (4, .int y4_8), (3, .ref a_itemsBefore), (0, .ref a_this), (1, .int x1), (2, .int x2)]) hx hb d_Lists_makeList_24 hl (by decide) rfl (fun ls hl => ?_)
  refine lv_iconst (v := 0) hx hb d_Lists_makeList_26 (by decide) ?_
  refine lv_istore (lv' := [(6, .int 0), (5, .int 0), (4, .int y4_8), (3, .ref a_itemsBefore), (0, .ref a_this), (1, .int x1), (2, .int x2)]) hx hb d_Lists_makeList_27 hl (by decide) rfl (fun ls hl => ?_)
  refine lv_iconst (v := 0) hx hb d_Lists_makeList_29 (by decide) ?_
  refine lv_istore (lv' := [(7, .int 0), (6, .int 0), (5, .int 0), (4, .int y4_8), (3, .ref a_itemsBefore), (0, .ref a_this), (1, .int x1), (2, .int x2)]) hx hb d_Lists_makeList_30 hl (by decide) rfl (fun ls hl => ?_)
  exact h_32 F _ _ _ _ _ _ _ a_items a_itemsBefore H locs ls hm (hP.sub [0, 2, 1, 3, 4, 5, 6, 7, 8, 9, 10, 11, 12, 13, 14, 15, 16, 17, 18, 19] rfl) (hD.sub [0, 2, 1, 3, 4, 5, 6, 7, 8, 9, 10, 11, 12, 13, 14, 15, 16, 17, 18, 19] (by decide) rfl) hS (lv_sub hl [5, 6, 3, 2, 1, 0] rfl)
theorem d_Lists_take_0 : decode b_Lists_take 0 = .ok (.iconst 0, 1) := by decide +kernel
theorem d_Lists_take_1 : decode b_Lists_take 1 = .ok (.istore 4, 2) := by decide +kernel
theorem d_Lists_take_3 : decode b_Lists_take 3 = .ok (.iconst 0, 1) := by decide +kernel
theorem d_Lists_take_4 : decode b_Lists_take 4 = .ok (.istore 5, 2) := by decide +kernel
theorem d_Lists_take_6 : decode b_Lists_take 6 = .ok (.iload 5, 2) := by decide +kernel
theorem d_Lists_take_8 : decode b_Lists_take 8 = .ok (.iload_n 2, 1) := by decide +kernel
theorem d_Lists_take_9 : decode b_Lists_take 9 = .ok (.if_icmp .ge 52, 3) := by decide +kernel
theorem d_Lists_take_12 : decode b_Lists_take 12 = .ok (.iload 5, 2) := by decide +kernel
theorem d_Lists_take_14 : decode b_Lists_take 14 = .ok (.sipush 576, 3) := by decide +kernel
theorem d_Lists_take_17 : decode b_Lists_take 17 = .ok (.if_icmp .ge 44, 3) := by decide +kernel
theorem d_Lists_take_20 : decode b_Lists_take 20 = .ok (.aload_n 0, 1) := by decide +kernel
theorem d_Lists_take_21 : decode b_Lists_take 21 = .ok (.getfield 20, 3) := by decide +kernel
theorem d_Lists_take_24 : decode b_Lists_take 24 = .ok (.iload_n 1, 1) := by decide +kernel
theorem d_Lists_take_25 : decode b_Lists_take 25 = .ok (.aaload, 1) := by decide +kernel
theorem d_Lists_take_26 : decode b_Lists_take 26 = .ok (.iload 5, 2) := by decide +kernel
theorem d_Lists_take_28 : decode b_Lists_take 28 = .ok (.baload, 1) := by decide +kernel
theorem d_Lists_take_29 : decode b_Lists_take 29 = .ok (.ifCond .ne 26, 3) := by decide +kernel
theorem d_Lists_take_32 : decode b_Lists_take 32 = .ok (.iload 4, 2) := by decide +kernel
theorem d_Lists_take_34 : decode b_Lists_take 34 = .ok (.aload_n 0, 1) := by decide +kernel
theorem d_Lists_take_35 : decode b_Lists_take 35 = .ok (.getfield 39, 3) := by decide +kernel
theorem d_Lists_take_38 : decode b_Lists_take 38 = .ok (.if_icmp .ge 17, 3) := by decide +kernel
theorem d_Lists_take_41 : decode b_Lists_take 41 = .ok (.aload_n 3, 1) := by decide +kernel
theorem d_Lists_take_42 : decode b_Lists_take 42 = .ok (.aload_n 0, 1) := by decide +kernel
theorem d_Lists_take_43 : decode b_Lists_take 43 = .ok (.getfield 9, 3) := by decide +kernel
theorem d_Lists_take_46 : decode b_Lists_take 46 = .ok (.iload 4, 2) := by decide +kernel
theorem d_Lists_take_48 : decode b_Lists_take 48 = .ok (.iaload, 1) := by decide +kernel
theorem d_Lists_take_49 : decode b_Lists_take 49 = .ok (.invokestatic 43, 3) := by decide +kernel
theorem d_Lists_take_52 : decode b_Lists_take 52 = .ok (.iinc 4 1, 3) := by decide +kernel
theorem d_Lists_take_55 : decode b_Lists_take 55 = .ok (.iinc 5 1, 3) := by decide +kernel
theorem d_Lists_take_58 : decode b_Lists_take 58 = .ok (.goto (-52), 3) := by decide +kernel
theorem d_Lists_take_61 : decode b_Lists_take 61 = .ok (.iconst 2, 1) := by decide +kernel
theorem d_Lists_take_62 : decode b_Lists_take 62 = .ok (.iload_n 2, 1) := by decide +kernel
theorem d_Lists_take_63 : decode b_Lists_take 63 = .ok (.iload 4, 2) := by decide +kernel
theorem d_Lists_take_65 : decode b_Lists_take 65 = .ok (.isub, 1) := by decide +kernel
theorem d_Lists_take_66 : decode b_Lists_take 66 = .ok (.imul, 1) := by decide +kernel
theorem d_Lists_take_67 : decode b_Lists_take 67 = .ok (.ireturn, 1) := by decide +kernel
def Lists_take_55 (F : Nat) (k_6 : (Nat → Int32) → Int32 → Int32 → Option (Int32 × (Nat → Int32))) (c_p3 : Nat → Int32) (x4 : Int32) (x5 : Int32) : Option (Int32 × (Nat → Int32)) :=
  mL (x5 + 1) fun y5_1 => k_6 c_p3 x4 y5_1
def Lists_take_6 (F : Nat) (n_p3 : Nat) (v_many : Int32) (c_pairs : Nat → Nat → Int32) (c_symbols : Nat → Int32) (x1 : Int32) (x2 : Int32) (k_6 : (Nat → Int32) → Int32 → Int32 → Option (Int32 × (Nat → Int32))) (c_p3 : Nat → Int32) (x4 : Int32) (x5 : Int32) : Option (Int32 × (Nat → Int32)) :=
  mC (x2 ≤ x5) (some (2 * (x2 - x4), c_p3)) (mC (576 ≤ x5) (some (2 * (x2 - x4), c_p3)) (mG x1 15 (mG x5 576 (mC ((c_pairs x1.toNatClampNeg x5.toNatClampNeg) = 0) (mC (v_many ≤ x4) ((Lists_take_55 F k_6) c_p3 x4 x5) (mG x4 288 (mL (c_symbols x4.toNatClampNeg) fun t_2 => mR1 (Lists_addOne F n_p3 c_p3 t_2) fun _ c_p0_3 => mL (x4 + 1) fun y4_5 => (Lists_take_55 F k_6) c_p0_3 y4_5 x5))) ((Lists_take_55 F k_6) c_p3 x4 x5)))))
abbrev Lists_take_w (E : xE) (a_this : Nat) (a_pairs : Nat) (a_symbols : Nat) (a_p3 : Nat) (d_pairs : Nat → Nat) (n_p3 : Nat) (x_counts : Value) (x_items : Value) (x_itemsBefore : Value) (v_many : Int32) (c_pairs : Nat → Nat → Int32) (c_symbols : Nat → Int32) (c_p3 : Nat → Int32) : va_W := [(a_this, .inr (5, [.ref a_symbols, x_counts, .ref a_pairs, x_items, x_itemsBefore, .int v_many])), (a_pairs, .inl (E.2.2.2.1, 15, .inr (.inr (.inr (.inr (fun j => some (d_pairs j))))))), (d_pairs 0, .inl (E.2.2.1, 576, .inl (c_pairs 0))), (d_pairs 1, .inl (E.2.2.1, 576, .inl (c_pairs 1))), (d_pairs 2, .inl (E.2.2.1, 576, .inl (c_pairs 2))), (d_pairs 3, .inl (E.2.2.1, 576, .inl (c_pairs 3))), (d_pairs 4, .inl (E.2.2.1, 576, .inl (c_pairs 4))), (d_pairs 5, .inl (E.2.2.1, 576, .inl (c_pairs 5))), (d_pairs 6, .inl (E.2.2.1, 576, .inl (c_pairs 6))), (d_pairs 7, .inl (E.2.2.1, 576, .inl (c_pairs 7))), (d_pairs 8, .inl (E.2.2.1, 576, .inl (c_pairs 8))), (d_pairs 9, .inl (E.2.2.1, 576, .inl (c_pairs 9))), (d_pairs 10, .inl (E.2.2.1, 576, .inl (c_pairs 10))), (d_pairs 11, .inl (E.2.2.1, 576, .inl (c_pairs 11))), (d_pairs 12, .inl (E.2.2.1, 576, .inl (c_pairs 12))), (d_pairs 13, .inl (E.2.2.1, 576, .inl (c_pairs 13))), (d_pairs 14, .inl (E.2.2.1, 576, .inl (c_pairs 14))), (a_symbols, .inl (E.2.1, 288, .inl c_symbols)), (a_p3, .inl (E.2.1, n_p3, .inl c_p3))]
def Lists_take (F : Nat) (n_p3 : Nat) (v_many : Int32) (c_pairs : Nat → Nat → Int32) (c_symbols : Nat → Int32) (c_p3 : Nat → Int32) (x1 : Int32) (x2 : Int32) : Option (Int32 × (Nat → Int32)) :=
  (mW3 (Lists_take_6 F n_p3 v_many c_pairs c_symbols x1 x2) F) c_p3 0 0
abbrev Lists_take_rm : Room := { frames := 1, cells := 0, slots := 0, locals := 21 }
set_option maxHeartbeats 4000000 in
set_option maxRecDepth 100000 in
theorem c_Lists_take (l : Launch) (E : xE) (F sz : Nat) (a_this : Nat) (a_pairs : Nat) (a_symbols : Nat) (a_p3 : Nat) (d_pairs : Nat → Nat) (n_p3 : Nat) (x_counts : Value) (x_items : Value) (x_itemsBefore : Value) (v_many : Int32) (c_pairs : Nat → Nat → Int32) (c_symbols : Nat → Int32) (c_p3 : Nat → Int32) (x1 : Int32) (x2 : Int32) (res : Int32 × (Nat → Int32)) (hm : Lists_take F n_p3 v_many c_pairs c_symbols c_p3 x1 x2 = some res) : Met l y_Lists_take (Cond.code y_Lists_take b_Lists_take 6 (some .int) :: x_tb) Lists_take_rm (va_Pc [.ref a_this, .int x1, .int x2, .ref a_p3] (xPre E (Lists_take_w E a_this a_pairs a_symbols a_p3 d_pairs n_p3 x_counts x_items x_itemsBefore v_many c_pairs c_symbols c_p3) sz)) (xQi E (fun (r : Int32) (u : (Nat → Int32)) => r = res.1 ∧ u = res.2) (fun (u : (Nat → Int32)) => (Lists_take_w E a_this a_pairs a_symbols a_p3 d_pairs n_p3 x_counts x_items x_itemsBefore v_many c_pairs c_symbols u)) (va_A (Lists_take_w E a_this a_pairs a_symbols a_p3 d_pairs n_p3 x_counts x_items x_itemsBefore v_many c_pairs c_symbols c_p3) sz)) 0 0 (va_A (Lists_take_w E a_this a_pairs a_symbols a_p3 d_pairs n_p3 x_counts x_items x_itemsBefore v_many c_pairs c_symbols c_p3) sz) := by
  refine xEnI (by decide) (Nat.le_of_ble_eq_true rfl) ?_
  intro p e s m args below meth c A ls Q hx hb hnm hts hown hml hK hA hI hN hret hP hD hS hl
  replace hown : s.vm.findClass R_Lists = some m.cls := hown
  replace hl : lv_has ls 6 [(0, .ref a_this), (1, .int x1), (2, .int x2), (3, .ref a_p3)] := hl
  obtain ⟨H, eH⟩ : ∃ z, z = s.heap := ⟨_, rfl⟩
  obtain ⟨locs, eL⟩ : ∃ z : List Loc, z = [] := ⟨_, rfl⟩
  rw [show W p l e Lists_take_rm s m args below meth c s.heap [] 0 0 Q (F0 m 0 ls []) = W p l e Lists_take_rm s m args below meth c H locs 0 0 Q (F0 m 0 ls []) by rw [eH, eL]]
  replace hP : va_P E.1 vwCl (Lists_take_w E a_this a_pairs a_symbols a_p3 d_pairs n_p3 x_counts x_items x_itemsBefore v_many c_pairs c_symbols c_p3) H := by rw [eH]; exact hP
  replace hS : va_S A s.heap H locs := by rw [eH, eL]; exact hS
  clear eH eL
  rw [Lists_take] at hm
  have h_6 : ∀ (n_6 : Nat) (c_p3 : Nat → Int32) (x4 : Int32) (x5 : Int32) (H : Heap) (locs : List Loc) (ls : Array Slot), (mW3 (Lists_take_6 F n_p3 v_many c_pairs c_symbols x1 x2) n_6) c_p3 x4 x5 = some res → va_P E.1 vwCl (Lists_take_w E a_this a_pairs a_symbols a_p3 d_pairs n_p3 x_counts x_items x_itemsBefore v_many c_pairs c_symbols c_p3) H → va_D A (Lists_take_w E a_this a_pairs a_symbols a_p3 d_pairs n_p3 x_counts x_items x_itemsBefore v_many c_pairs c_symbols c_p3) → va_S A s.heap H locs → lv_has ls 6 [(0, .ref a_this), (1, .int x1), (2, .int x2), (3, .ref a_p3), (4, .int x4), (5, .int x5)] → W p l e Lists_take_rm s m args below meth c H locs 0 0 Q (F0 m 6 ls []) := by
    intro n_6
    induction n_6 with
    | zero => exact fun _ _ _ _ _ _ hm _ _ _ _ => (mW3_z hm).elim
    | succ n_6 ih_6 =>
      intro c_p3 x4 x5 H locs ls hm hP hD hS hl
      replace hm := mW3_s hm
      rw [Lists_take_6] at hm
      refine lv_iload hx hb d_Lists_take_6 (lv_at hl 5 rfl) ?_
      refine lv_iload_n hx hb d_Lists_take_8 rfl (lv_at hl 2 rfl) ?_
      refine lv_icmp_ge (tgt := 61) hx hb d_Lists_take_9 (by decide) (fun c9 => ?_) (fun c9 => ?_)
      · replace hm := mC_t hm c9
        refine lv_iconst (v := 2) hx hb d_Lists_take_61 (by decide) ?_
        refine lv_iload_n hx hb d_Lists_take_62 rfl (lv_at hl 2 rfl) ?_
        refine lv_iload hx hb d_Lists_take_63 (lv_at hl 4 rfl) ?_
        refine lv_isub hx hb d_Lists_take_65 ?_
        refine lv_imul hx hb d_Lists_take_66 ?_
        replace hm := Option.some.inj hm
        subst hm
        exact hret d_Lists_take_67 (u := c_p3) ⟨rfl, rfl⟩ hP hD hS
      · replace hm := mC_f hm c9
        refine lv_iload hx hb d_Lists_take_12 (lv_at hl 5 rfl) ?_
        refine lv_sipush (v := 576) hx hb d_Lists_take_14 (by decide) ?_
        refine lv_icmp_ge (tgt := 61) hx hb d_Lists_take_17 (by decide) (fun c17 => ?_) (fun c17 => ?_)
        · replace hm := mC_t hm c17
          refine lv_iconst (v := 2) hx hb d_Lists_take_61 (by decide) ?_
          refine lv_iload_n hx hb d_Lists_take_62 rfl (lv_at hl 2 rfl) ?_
          refine lv_iload hx hb d_Lists_take_63 (lv_at hl 4 rfl) ?_
          refine lv_isub hx hb d_Lists_take_65 ?_
          refine lv_imul hx hb d_Lists_take_66 ?_
          replace hm := Option.some.inj hm
          subst hm
          exact hret d_Lists_take_67 (u := c_p3) ⟨rfl, rfl⟩ hP hD hS
        · replace hm := mC_f hm c17
          have h_55 : ∀ (c_p3 : Nat → Int32) (x4 : Int32) (x5 : Int32) (H : Heap) (locs : List Loc) (ls : Array Slot), (Lists_take_55 F (mW3 (Lists_take_6 F n_p3 v_many c_pairs c_symbols x1 x2) n_6)) c_p3 x4 x5 = some res → va_P E.1 vwCl (Lists_take_w E a_this a_pairs a_symbols a_p3 d_pairs n_p3 x_counts x_items x_itemsBefore v_many c_pairs c_symbols c_p3) H → va_D A (Lists_take_w E a_this a_pairs a_symbols a_p3 d_pairs n_p3 x_counts x_items x_itemsBefore v_many c_pairs c_symbols c_p3) → va_S A s.heap H locs → lv_has ls 6 [(0, .ref a_this), (1, .int x1), (2, .int x2), (3, .ref a_p3), (4, .int x4), (5, .int x5)] → W p l e Lists_take_rm s m args below meth c H locs 0 0 Q (F0 m 55 ls []) := by
            intro c_p3 x4 x5 H locs ls hm hP hD hS hl
            rw [Lists_take_55] at hm
            obtain ⟨y5_1, ey5_1⟩ : ∃ y : Int32, y = x5 + 1 := ⟨_, rfl⟩
            replace hm := mL_e hm y5_1 ey5_1
            refine lv_iinc (v := y5_1) (lv' := [(5, .int y5_1), (0, .ref a_this), (1, .int x1), (2, .int x2), (3, .ref a_p3), (4, .int x4)]) hx hb d_Lists_take_55 hl (k := 5) rfl (by rw [ey5_1]; rfl) (by decide) rfl (fun ls hl => ?_)
            refine lv_goto (tgt := 6) hx hb d_Lists_take_58 (by decide) ?_
            exact ih_6 _ _ _ H locs ls hm hP hD hS (lv_sub hl [1, 2, 3, 4, 5, 0] rfl)
          refine lv_aload_n hx hb d_Lists_take_20 rfl (lv_at hl 0 rfl) ?_
          refine va_get (D := E.1) (ci := 5) (v := .ref a_pairs) (C := R_Lists) (T := F_Lists) (N := 6) hx hb hts i_Lists hown hK hP 0 rfl rfl 2 (by decide) (hts _ tw_160) (fun _ h9 => h9) rfl d_Lists_take_21 ?_
          refine lv_iload_n hx hb d_Lists_take_24 rfl (lv_at hl 1 rfl) ?_
          obtain ⟨hi25, hm⟩ := mG_e hm
          refine xaald hx hb hK hP 1 2 rfl rfl hi25 d_Lists_take_25 ?_
          refine lv_iload hx hb d_Lists_take_26 (lv_at hl 5 rfl) ?_
          obtain ⟨hi28, hm⟩ := mG_e hm
          have hr28 : ∀ k, k < 15 → ((Lists_take_w E a_this a_pairs a_symbols a_p3 d_pairs n_p3 x_counts x_items x_itemsBefore v_many c_pairs c_symbols c_p3) : va_W)[2 + k]? = some (d_pairs k, .inl (E.2.2.1, 576, .inl (c_pairs k))) := x15 rfl rfl rfl rfl rfl rfl rfl rfl rfl rfl rfl rfl rfl rfl rfl
          refine va_bald hx hb hK hP (2 + x1.toNatClampNeg) 1 (hr28 _ (xlt15 hi25)) rfl hi28 d_Lists_take_28 ?_
          refine lv_if_ne (tgt := 55) hx hb d_Lists_take_29 (by decide) (fun c29 => ?_) (fun c29 => ?_)
          · replace hm := mC_f hm c29
            exact h_55 _ _ _ H locs ls hm hP hD hS hl
          · replace hm := mC_t hm c29
            refine lv_iload hx hb d_Lists_take_32 (lv_at hl 4 rfl) ?_
            refine lv_aload_n hx hb d_Lists_take_34 rfl (lv_at hl 0 rfl) ?_
            refine va_get (D := E.1) (ci := 5) (v := .int v_many) (C := R_Lists) (T := F_Lists) (N := 6) hx hb hts i_Lists hown hK hP 0 rfl rfl 5 (by decide) (hts _ tw_163) (fun _ h9 => h9) rfl d_Lists_take_35 ?_
            refine lv_icmp_ge (tgt := 55) hx hb d_Lists_take_38 (by decide) (fun c38 => ?_) (fun c38 => ?_)
            · replace hm := mC_t hm c38
              exact h_55 _ _ _ H locs ls hm hP hD hS hl
            · replace hm := mC_f hm c38
              refine lv_aload_n hx hb d_Lists_take_41 rfl (lv_at hl 3 rfl) ?_
              refine lv_aload_n hx hb d_Lists_take_42 rfl (lv_at hl 0 rfl) ?_
              refine va_get (D := E.1) (ci := 5) (v := .ref a_symbols) (C := R_Lists) (T := F_Lists) (N := 6) hx hb hts i_Lists hown hK hP 0 rfl rfl 0 (by decide) (hts _ tw_158) (fun _ h9 => h9) rfl d_Lists_take_43 ?_
              refine lv_iload hx hb d_Lists_take_46 (lv_at hl 4 rfl) ?_
              obtain ⟨hi48, hm⟩ := mG_e hm
              refine va_iald hx hb hK hP 17 0 rfl rfl hi48 d_Lists_take_48 ?_
              obtain ⟨t_2, et_2⟩ : ∃ z : Int32, z = c_symbols x4.toNatClampNeg := ⟨_, rfl⟩
              rw [← et_2]
              replace hm := mL_e hm t_2 et_2
              obtain ⟨r_4, c_p0_3, hc49, hm⟩ := mR1_e hm
              refine xmv (wc := (Lists_addOne_w E a_p3 n_p3 c_p3)) [false, false, false, false, false, false, false, false, false, false, false, false, false, false, false, false, false, false, true] [0] [0] hP hD hS hA rfl (by decide) (by decide) 1 (by decide) (fun _ => rfl) (fun hPc hDc hFc => va_runS (As := [.ref a_p3, .int t_2]) (rest := []) ⟨hx, hb, hml, hown, hts⟩ (c_Lists_addOne l E F H.size a_p3 n_p3 c_p3 t_2 (r_4, c_p0_3) hc49) (va_cwS 2 hts (x_gS tw_510 tw_511 tw_72 tw_512) rfl rfl rfl (by decide +kernel) ⟨Nat.le_of_ble_eq_true rfl, Nat.le_of_ble_eq_true rfl⟩) (xPS hPc hDc hFc hK hI hN hS) rfl rfl hl.1 rfl (lv_room (Nat.le_of_ble_eq_true rfl)) d_Lists_take_49 ⟨Nat.le_of_ble_eq_true rfl, Nat.le_of_ble_eq_true rfl⟩) (fun u9 H locs hw hP hD hS => ?_)
              have hw2 : c_p0_3 = u9 := hw.symm
              subst hw2
              replace hP : va_P E.1 vwCl (Lists_take_w E a_this a_pairs a_symbols a_p3 d_pairs n_p3 x_counts x_items x_itemsBefore v_many c_pairs c_symbols c_p0_3) H := hP
              replace hD : va_D A (Lists_take_w E a_this a_pairs a_symbols a_p3 d_pairs n_p3 x_counts x_items x_itemsBefore v_many c_pairs c_symbols c_p0_3) := hD
              obtain ⟨y4_5, ey4_5⟩ : ∃ y : Int32, y = x4 + 1 := ⟨_, rfl⟩
              replace hm := mL_e hm y4_5 ey4_5
              refine lv_iinc (v := y4_5) (lv' := [(4, .int y4_5), (0, .ref a_this), (1, .int x1), (2, .int x2), (3, .ref a_p3), (5, .int x5)]) hx hb d_Lists_take_52 hl (k := 4) rfl (by rw [ey4_5]; rfl) (by decide) rfl (fun ls hl => ?_)
              exact h_55 _ _ _ H locs ls hm hP hD hS (lv_sub hl [1, 2, 3, 4, 0, 5] rfl)
  refine lv_iconst (v := 0) hx hb d_Lists_take_0 (by decide) ?_
  refine lv_istore (lv' := [(4, .int 0), (0, .ref a_this), (1, .int x1), (2, .int x2), (3, .ref a_p3)]) hx hb d_Lists_take_1 hl (by decide) rfl (fun ls hl => ?_)
  refine lv_iconst (v := 0) hx hb d_Lists_take_3 (by decide) ?_
  refine lv_istore (lv' := [(5, .int 0), (4, .int 0), (0, .ref a_this), (1, .int x1), (2, .int x2), (3, .ref a_p3)]) hx hb d_Lists_take_4 hl (by decide) rfl (fun ls hl => ?_)
  exact h_6 F _ _ _ H locs ls hm hP hD hS (lv_sub hl [2, 3, 4, 5, 1, 0] rfl)
theorem d_Lists_fit_0 : decode b_Lists_fit 0 = .ok (.aload_n 3, 1) := by decide +kernel
theorem d_Lists_fit_1 : decode b_Lists_fit 1 = .ok (.iconst 0, 1) := by decide +kernel
theorem d_Lists_fit_2 : decode b_Lists_fit 2 = .ok (.invokestatic 29, 3) := by decide +kernel
theorem d_Lists_fit_5 : decode b_Lists_fit 5 = .ok (.aload_n 0, 1) := by decide +kernel
theorem d_Lists_fit_6 : decode b_Lists_fit 6 = .ok (.aload_n 1, 1) := by decide +kernel
theorem d_Lists_fit_7 : decode b_Lists_fit 7 = .ok (.invokevirtual 35, 3) := by decide +kernel
theorem d_Lists_fit_10 : decode b_Lists_fit 10 = .ok (.aload_n 0, 1) := by decide +kernel
theorem d_Lists_fit_11 : decode b_Lists_fit 11 = .ok (.getfield 39, 3) := by decide +kernel
theorem d_Lists_fit_14 : decode b_Lists_fit 14 = .ok (.iconst 1, 1) := by decide +kernel
theorem d_Lists_fit_15 : decode b_Lists_fit 15 = .ok (.if_icmp .ne 13, 3) := by decide +kernel
theorem d_Lists_fit_18 : decode b_Lists_fit 18 = .ok (.aload_n 3, 1) := by decide +kernel
theorem d_Lists_fit_19 : decode b_Lists_fit 19 = .ok (.aload_n 0, 1) := by decide +kernel
theorem d_Lists_fit_20 : decode b_Lists_fit 20 = .ok (.getfield 9, 3) := by decide +kernel
theorem d_Lists_fit_23 : decode b_Lists_fit 23 = .ok (.iconst 0, 1) := by decide +kernel
theorem d_Lists_fit_24 : decode b_Lists_fit 24 = .ok (.iaload, 1) := by decide +kernel
theorem d_Lists_fit_25 : decode b_Lists_fit 25 = .ok (.invokestatic 43, 3) := by decide +kernel
theorem d_Lists_fit_28 : decode b_Lists_fit 28 = .ok (.aload_n 0, 1) := by decide +kernel
theorem d_Lists_fit_29 : decode b_Lists_fit 29 = .ok (.getfield 39, 3) := by decide +kernel
theorem d_Lists_fit_32 : decode b_Lists_fit 32 = .ok (.iconst 2, 1) := by decide +kernel
theorem d_Lists_fit_33 : decode b_Lists_fit 33 = .ok (.if_icmp .ge 4, 3) := by decide +kernel
theorem d_Lists_fit_36 : decode b_Lists_fit 36 = .ok (.return_, 1) := by decide +kernel
theorem d_Lists_fit_37 : decode b_Lists_fit 37 = .ok (.iconst 0, 1) := by decide +kernel
theorem d_Lists_fit_38 : decode b_Lists_fit 38 = .ok (.istore 4, 2) := by decide +kernel
theorem d_Lists_fit_40 : decode b_Lists_fit 40 = .ok (.iconst 0, 1) := by decide +kernel
theorem d_Lists_fit_41 : decode b_Lists_fit 41 = .ok (.istore 5, 2) := by decide +kernel
theorem d_Lists_fit_43 : decode b_Lists_fit 43 = .ok (.iload 5, 2) := by decide +kernel
theorem d_Lists_fit_45 : decode b_Lists_fit 45 = .ok (.iload_n 2, 1) := by decide +kernel
theorem d_Lists_fit_46 : decode b_Lists_fit 46 = .ok (.if_icmp .ge 26, 3) := by decide +kernel
theorem d_Lists_fit_49 : decode b_Lists_fit 49 = .ok (.iload 5, 2) := by decide +kernel
theorem d_Lists_fit_51 : decode b_Lists_fit 51 = .ok (.bipush 15, 2) := by decide +kernel
theorem d_Lists_fit_53 : decode b_Lists_fit 53 = .ok (.if_icmp .ge 19, 3) := by decide +kernel
theorem d_Lists_fit_56 : decode b_Lists_fit 56 = .ok (.aload_n 0, 1) := by decide +kernel
theorem d_Lists_fit_57 : decode b_Lists_fit 57 = .ok (.iload 5, 2) := by decide +kernel
theorem d_Lists_fit_59 : decode b_Lists_fit 59 = .ok (.iload 4, 2) := by decide +kernel
theorem d_Lists_fit_61 : decode b_Lists_fit 61 = .ok (.invokevirtual 46, 3) := by decide +kernel
theorem d_Lists_fit_64 : decode b_Lists_fit 64 = .ok (.istore 4, 2) := by decide +kernel
theorem d_Lists_fit_66 : decode b_Lists_fit 66 = .ok (.iinc 5 1, 3) := by decide +kernel
theorem d_Lists_fit_69 : decode b_Lists_fit 69 = .ok (.goto (-26), 3) := by decide +kernel
theorem d_Lists_fit_72 : decode b_Lists_fit 72 = .ok (.iconst 2, 1) := by decide +kernel
theorem d_Lists_fit_73 : decode b_Lists_fit 73 = .ok (.aload_n 0, 1) := by decide +kernel
theorem d_Lists_fit_74 : decode b_Lists_fit 74 = .ok (.getfield 39, 3) := by decide +kernel
theorem d_Lists_fit_77 : decode b_Lists_fit 77 = .ok (.imul, 1) := by decide +kernel
theorem d_Lists_fit_78 : decode b_Lists_fit 78 = .ok (.iconst 2, 1) := by decide +kernel
theorem d_Lists_fit_79 : decode b_Lists_fit 79 = .ok (.isub, 1) := by decide +kernel
theorem d_Lists_fit_80 : decode b_Lists_fit 80 = .ok (.istore 5, 2) := by decide +kernel
theorem d_Lists_fit_82 : decode b_Lists_fit 82 = .ok (.iload_n 2, 1) := by decide +kernel
theorem d_Lists_fit_83 : decode b_Lists_fit 83 = .ok (.bipush 15, 2) := by decide +kernel
theorem d_Lists_fit_85 : decode b_Lists_fit 85 = .ok (.invokestatic 50, 3) := by decide +kernel
theorem d_Lists_fit_88 : decode b_Lists_fit 88 = .ok (.iconst 1, 1) := by decide +kernel
theorem d_Lists_fit_89 : decode b_Lists_fit 89 = .ok (.isub, 1) := by decide +kernel
theorem d_Lists_fit_90 : decode b_Lists_fit 90 = .ok (.istore 6, 2) := by decide +kernel
theorem d_Lists_fit_92 : decode b_Lists_fit 92 = .ok (.iload 6, 2) := by decide +kernel
theorem d_Lists_fit_94 : decode b_Lists_fit 94 = .ok (.ifCond .lt 20, 3) := by decide +kernel
theorem d_Lists_fit_97 : decode b_Lists_fit 97 = .ok (.aload_n 0, 1) := by decide +kernel
theorem d_Lists_fit_98 : decode b_Lists_fit 98 = .ok (.iload 6, 2) := by decide +kernel
theorem d_Lists_fit_100 : decode b_Lists_fit 100 = .ok (.iload 5, 2) := by decide +kernel
theorem d_Lists_fit_102 : decode b_Lists_fit 102 = .ok (.aload_n 3, 1) := by decide +kernel
theorem d_Lists_fit_103 : decode b_Lists_fit 103 = .ok (.invokevirtual 55, 3) := by decide +kernel
theorem d_Lists_fit_106 : decode b_Lists_fit 106 = .ok (.istore 5, 2) := by decide +kernel
theorem d_Lists_fit_108 : decode b_Lists_fit 108 = .ok (.iinc 6 (-1), 3) := by decide +kernel
theorem d_Lists_fit_111 : decode b_Lists_fit 111 = .ok (.goto (-19), 3) := by decide +kernel
theorem d_Lists_fit_114 : decode b_Lists_fit 114 = .ok (.return_, 1) := by decide +kernel
def Lists_fit_92 (F : Nat) (n_p3 : Nat) (k_92 : (Nat → Int32) → Int32 → (Nat → Int32) → (Nat → Int32) → (Nat → Int32) → (Nat → Int32) → (Nat → Nat → Int32) → Int32 → Int32 → Option (Unit × (Nat → Int32) × Int32 × (Nat → Int32) × (Nat → Int32) × (Nat → Int32) × (Nat → Int32) × (Nat → Nat → Int32))) (c_p3 : Nat → Int32) (v_many : Int32) (c_counts : Nat → Int32) (c_symbols : Nat → Int32) (c_itemsBefore : Nat → Int32) (c_items : Nat → Int32) (c_pairs : Nat → Nat → Int32) (x5 : Int32) (x6 : Int32) : Option (Unit × (Nat → Int32) × Int32 × (Nat → Int32) × (Nat → Int32) × (Nat → Int32) × (Nat → Int32) × (Nat → Nat → Int32)) :=
  mC (x6 < 0) (some ((), c_p3, v_many, c_counts, c_symbols, c_itemsBefore, c_items, c_pairs)) (mR1 (Lists_take F n_p3 v_many c_pairs c_symbols c_p3 x6 x5) fun r_2 c_p3_1 => mL (x6 + (-1)) fun y6_3 => k_92 c_p3_1 v_many c_counts c_symbols c_itemsBefore c_items c_pairs r_2 y6_3)
def Lists_fit_72 (F : Nat) (n_p3 : Nat) (x2 : Int32) (c_p3 : Nat → Int32) (v_many : Int32) (c_counts : Nat → Int32) (c_symbols : Nat → Int32) (c_itemsBefore : Nat → Int32) (c_items : Nat → Int32) (c_pairs : Nat → Nat → Int32) : Option (Unit × (Nat → Int32) × Int32 × (Nat → Int32) × (Nat → Int32) × (Nat → Int32) × (Nat → Int32) × (Nat → Nat → Int32)) :=
  mL ((2 * v_many) - 2) fun y5_4 => mL ((if 15 < x2 then 15 else x2) - 1) fun y6_5 => (mW9 (Lists_fit_92 F n_p3) F) c_p3 v_many c_counts c_symbols c_itemsBefore c_items c_pairs y5_4 y6_5
def Lists_fit_43 (F : Nat) (x2 : Int32) (k_72 : (Nat → Int32) → Int32 → (Nat → Int32) → (Nat → Int32) → (Nat → Int32) → (Nat → Int32) → (Nat → Nat → Int32) → Option (Unit × (Nat → Int32) × Int32 × (Nat → Int32) × (Nat → Int32) × (Nat → Int32) × (Nat → Int32) × (Nat → Nat → Int32))) (k_43 : (Nat → Int32) → Int32 → (Nat → Int32) → (Nat → Int32) → (Nat → Int32) → (Nat → Int32) → (Nat → Nat → Int32) → Int32 → Int32 → Option (Unit × (Nat → Int32) × Int32 × (Nat → Int32) × (Nat → Int32) × (Nat → Int32) × (Nat → Int32) × (Nat → Nat → Int32))) (c_p3 : Nat → Int32) (v_many : Int32) (c_counts : Nat → Int32) (c_symbols : Nat → Int32) (c_itemsBefore : Nat → Int32) (c_items : Nat → Int32) (c_pairs : Nat → Nat → Int32) (x4 : Int32) (x5 : Int32) : Option (Unit × (Nat → Int32) × Int32 × (Nat → Int32) × (Nat → Int32) × (Nat → Int32) × (Nat → Int32) × (Nat → Nat → Int32)) :=
  mC (x2 ≤ x5) (k_72 c_p3 v_many c_counts c_symbols c_itemsBefore c_items c_pairs) (mC (15 ≤ x5) (k_72 c_p3 v_many c_counts c_symbols c_itemsBefore c_items c_pairs) (mR3 (Lists_makeList F v_many c_counts c_itemsBefore c_items c_pairs x5 x4) fun r_9 c_itemsBefore_6 c_items_7 c_pairs_8 => mL (x5 + 1) fun y5_12 => k_43 c_p3 v_many c_counts c_symbols c_itemsBefore_6 c_items_7 c_pairs_8 r_9 y5_12))
def Lists_fit_28 (F : Nat) (n_p3 : Nat) (x2 : Int32) (c_p3 : Nat → Int32) (v_many : Int32) (c_counts : Nat → Int32) (c_symbols : Nat → Int32) (c_itemsBefore : Nat → Int32) (c_items : Nat → Int32) (c_pairs : Nat → Nat → Int32) : Option (Unit × (Nat → Int32) × Int32 × (Nat → Int32) × (Nat → Int32) × (Nat → Int32) × (Nat → Int32) × (Nat → Nat → Int32)) :=
  mC (2 ≤ v_many) ((mW9 (Lists_fit_43 F x2 (Lists_fit_72 F n_p3 x2)) F) c_p3 v_many c_counts c_symbols c_itemsBefore c_items c_pairs 0 0) (some ((), c_p3, v_many, c_counts, c_symbols, c_itemsBefore, c_items, c_pairs))
abbrev Lists_fit_w (E : xE) (a_p3 : Nat) (a_this : Nat) (a_p1 : Nat) (a_counts : Nat) (a_symbols : Nat) (a_itemsBefore : Nat) (a_items : Nat) (a_pairs : Nat) (d_pairs : Nat → Nat) (n_p3 : Nat) (n_p1 : Nat) (c_p1 : Nat → Int32) (c_p3 : Nat → Int32) (v_many : Int32) (c_counts : Nat → Int32) (c_symbols : Nat → Int32) (c_itemsBefore : Nat → Int32) (c_items : Nat → Int32) (c_pairs : Nat → Nat → Int32) : va_W := [(a_p3, .inl (E.2.1, n_p3, .inl c_p3)), (a_this, .inr (5, [.ref a_symbols, .ref a_counts, .ref a_pairs, .ref a_items, .ref a_itemsBefore, .int v_many])), (a_p1, .inl (E.2.1, n_p1, .inl c_p1)), (a_counts, .inl (E.2.1, 288, .inl c_counts)), (a_symbols, .inl (E.2.1, 288, .inl c_symbols)), (a_itemsBefore, .inl (E.2.1, 576, .inl c_itemsBefore)), (a_items, .inl (E.2.1, 576, .inl c_items)), (a_pairs, .inl (E.2.2.2.1, 15, .inr (.inr (.inr (.inr (fun j => some (d_pairs j))))))), (d_pairs 0, .inl (E.2.2.1, 576, .inl (c_pairs 0))), (d_pairs 1, .inl (E.2.2.1, 576, .inl (c_pairs 1))), (d_pairs 2, .inl (E.2.2.1, 576, .inl (c_pairs 2))), (d_pairs 3, .inl (E.2.2.1, 576, .inl (c_pairs 3))), (d_pairs 4, .inl (E.2.2.1, 576, .inl (c_pairs 4))), (d_pairs 5, .inl (E.2.2.1, 576, .inl (c_pairs 5))), (d_pairs 6, .inl (E.2.2.1, 576, .inl (c_pairs 6))), (d_pairs 7, .inl (E.2.2.1, 576, .inl (c_pairs 7))), (d_pairs 8, .inl (E.2.2.1, 576, .inl (c_pairs 8))), (d_pairs 9, .inl (E.2.2.1, 576, .inl (c_pairs 9))), (d_pairs 10, .inl (E.2.2.1, 576, .inl (c_pairs 10))), (d_pairs 11, .inl (E.2.2.1, 576, .inl (c_pairs 11))), (d_pairs 12, .inl (E.2.2.1, 576, .inl (c_pairs 12))), (d_pairs 13, .inl (E.2.2.1, 576, .inl (c_pairs 13))), (d_pairs 14, .inl (E.2.2.1, 576, .inl (c_pairs 14)))]
def Lists_fit (F : Nat) (n_p3 : Nat) (n_p1 : Nat) (c_p1 : Nat → Int32) (c_p3 : Nat → Int32) (v_many : Int32) (c_counts : Nat → Int32) (c_symbols : Nat → Int32) (c_itemsBefore : Nat → Int32) (c_items : Nat → Int32) (c_pairs : Nat → Nat → Int32) (x2 : Int32) : Option (Unit × (Nat → Int32) × Int32 × (Nat → Int32) × (Nat → Int32) × (Nat → Int32) × (Nat → Int32) × (Nat → Nat → Int32)) :=
  mR1 (Arr_fill F n_p3 c_p3 0) fun _ c_p0_13 => mR3 (Lists_sort F n_p1 c_p1 v_many c_counts c_symbols) fun _ v_many_15 c_counts_16 c_symbols_17 => mC (v_many_15 = 1) (mG 0 288 (mL (c_symbols_17 (0 : Int32).toNatClampNeg) fun t_19 => mR1 (Lists_addOne F n_p3 c_p0_13 t_19) fun _ c_p0_20 => (Lists_fit_28 F n_p3 x2) c_p0_20 v_many_15 c_counts_16 c_symbols_17 c_itemsBefore c_items c_pairs)) ((Lists_fit_28 F n_p3 x2) c_p0_13 v_many_15 c_counts_16 c_symbols_17 c_itemsBefore c_items c_pairs)
abbrev Lists_fit_rm : Room := { frames := 2, cells := 0, slots := 0, locals := 46 }
set_option maxHeartbeats 4000000 in
set_option maxRecDepth 100000 in
theorem c_Lists_fit (l : Launch) (E : xE) (F sz : Nat) (a_p3 : Nat) (a_this : Nat) (a_p1 : Nat) (a_counts : Nat) (a_symbols : Nat) (a_itemsBefore : Nat) (a_items : Nat) (a_pairs : Nat) (d_pairs : Nat → Nat) (n_p3 : Nat) (n_p1 : Nat) (c_p1 : Nat → Int32) (c_p3 : Nat → Int32) (v_many : Int32) (c_counts : Nat → Int32) (c_symbols : Nat → Int32) (c_itemsBefore : Nat → Int32) (c_items : Nat → Int32) (c_pairs : Nat → Nat → Int32) (x2 : Int32) (res : Unit × (Nat → Int32) × Int32 × (Nat → Int32) × (Nat → Int32) × (Nat → Int32) × (Nat → Int32) × (Nat → Nat → Int32)) (hm : Lists_fit F n_p3 n_p1 c_p1 c_p3 v_many c_counts c_symbols c_itemsBefore c_items c_pairs x2 = some res) : Met l y_Lists_fit (Cond.code y_Lists_fit b_Lists_fit 7 none :: x_tb) Lists_fit_rm (va_Pc [.ref a_this, .ref a_p1, .int x2, .ref a_p3] (xPre E (Lists_fit_w E a_p3 a_this a_p1 a_counts a_symbols a_itemsBefore a_items a_pairs d_pairs n_p3 n_p1 c_p1 c_p3 v_many c_counts c_symbols c_itemsBefore c_items c_pairs) sz)) (xQv E (fun (u : ((Nat → Int32) × Int32 × (Nat → Int32) × (Nat → Int32) × (Nat → Int32) × (Nat → Int32) × (Nat → Nat → Int32)) × Nat × Nat) => u.1 = res.2) (fun (u : ((Nat → Int32) × Int32 × (Nat → Int32) × (Nat → Int32) × (Nat → Int32) × (Nat → Int32) × (Nat → Nat → Int32)) × Nat × Nat) => (Lists_fit_w E a_p3 a_this a_p1 a_counts a_symbols u.2.1 u.2.2 a_pairs d_pairs n_p3 n_p1 c_p1 u.1.1 u.1.2.1 u.1.2.2.1 u.1.2.2.2.1 u.1.2.2.2.2.1 u.1.2.2.2.2.2.1 u.1.2.2.2.2.2.2)) (va_A (Lists_fit_w E a_p3 a_this a_p1 a_counts a_symbols a_itemsBefore a_items a_pairs d_pairs n_p3 n_p1 c_p1 c_p3 v_many c_counts c_symbols c_itemsBefore c_items c_pairs) sz)) 0 0 (va_A (Lists_fit_w E a_p3 a_this a_p1 a_counts a_symbols a_itemsBefore a_items a_pairs d_pairs n_p3 n_p1 c_p1 c_p3 v_many c_counts c_symbols c_itemsBefore c_items c_pairs) sz) := by
  refine xEnV (by decide) (Nat.le_of_ble_eq_true rfl) ?_
  intro p e s m args below meth c A ls Q hx hb hnm hts hown hml hK hA hI hN hret hP hD hS hl
  replace hown : s.vm.findClass R_Lists = some m.cls := hown
  replace hl : lv_has ls 7 [(0, .ref a_this), (1, .ref a_p1), (2, .int x2), (3, .ref a_p3)] := hl
  obtain ⟨H, eH⟩ : ∃ z, z = s.heap := ⟨_, rfl⟩
  obtain ⟨locs, eL⟩ : ∃ z : List Loc, z = [] := ⟨_, rfl⟩
  rw [show W p l e Lists_fit_rm s m args below meth c s.heap [] 0 0 Q (F0 m 0 ls []) = W p l e Lists_fit_rm s m args below meth c H locs 0 0 Q (F0 m 0 ls []) by rw [eH, eL]]
  replace hP : va_P E.1 vwCl (Lists_fit_w E a_p3 a_this a_p1 a_counts a_symbols a_itemsBefore a_items a_pairs d_pairs n_p3 n_p1 c_p1 c_p3 v_many c_counts c_symbols c_itemsBefore c_items c_pairs) H := by rw [eH]; exact hP
  replace hS : va_S A s.heap H locs := by rw [eH, eL]; exact hS
  clear eH eL
  rw [Lists_fit] at hm
  have h_28 : ∀ (c_p3 : Nat → Int32) (v_many : Int32) (c_counts : Nat → Int32) (c_symbols : Nat → Int32) (c_itemsBefore : Nat → Int32) (c_items : Nat → Int32) (c_pairs : Nat → Nat → Int32) (b_itemsBefore : Nat) (b_items : Nat) (H : Heap) (locs : List Loc) (ls : Array Slot), (Lists_fit_28 F n_p3 x2) c_p3 v_many c_counts c_symbols c_itemsBefore c_items c_pairs = some res → va_P E.1 vwCl (Lists_fit_w E a_p3 a_this a_p1 a_counts a_symbols b_itemsBefore b_items a_pairs d_pairs n_p3 n_p1 c_p1 c_p3 v_many c_counts c_symbols c_itemsBefore c_items c_pairs) H → va_D A (Lists_fit_w E a_p3 a_this a_p1 a_counts a_symbols b_itemsBefore b_items a_pairs d_pairs n_p3 n_p1 c_p1 c_p3 v_many c_counts c_symbols c_itemsBefore c_items c_pairs) → va_S A s.heap H locs → lv_has ls 7 [(0, .ref a_this), (2, .int x2), (3, .ref a_p3)] → W p l e Lists_fit_rm s m args below meth c H locs 0 0 Q (F0 m 28 ls []) := by
    intro c_p3 v_many c_counts c_symbols c_itemsBefore c_items c_pairs b_itemsBefore b_items H locs ls hm hP hD hS hl
    rw [Lists_fit_28] at hm
    refine lv_aload_n hx hb d_Lists_fit_28 rfl (lv_at hl 0 rfl) ?_
    refine va_get (D := E.1) (ci := 5) (v := .int v_many) (C := R_Lists) (T := F_Lists) (N := 6) hx hb hts i_Lists hown hK hP 1 rfl rfl 5 (by decide) (hts _ tw_163) (fun _ h9 => h9) rfl d_Lists_fit_29 ?_
    refine lv_iconst (v := 2) hx hb d_Lists_fit_32 (by decide) ?_
    refine lv_icmp_ge (tgt := 37) hx hb d_Lists_fit_33 (by decide) (fun c33 => ?_) (fun c33 => ?_)
    · replace hm := mC_t hm c33
      have h_72 : ∀ (c_p3 : Nat → Int32) (v_many : Int32) (c_counts : Nat → Int32) (c_symbols : Nat → Int32) (c_itemsBefore : Nat → Int32) (c_items : Nat → Int32) (c_pairs : Nat → Nat → Int32) (b_itemsBefore : Nat) (b_items : Nat) (H : Heap) (locs : List Loc) (ls : Array Slot), (Lists_fit_72 F n_p3 x2) c_p3 v_many c_counts c_symbols c_itemsBefore c_items c_pairs = some res → va_P E.1 vwCl (Lists_fit_w E a_p3 a_this a_p1 a_counts a_symbols b_itemsBefore b_items a_pairs d_pairs n_p3 n_p1 c_p1 c_p3 v_many c_counts c_symbols c_itemsBefore c_items c_pairs) H → va_D A (Lists_fit_w E a_p3 a_this a_p1 a_counts a_symbols b_itemsBefore b_items a_pairs d_pairs n_p3 n_p1 c_p1 c_p3 v_many c_counts c_symbols c_itemsBefore c_items c_pairs) → va_S A s.heap H locs → lv_has ls 7 [(0, .ref a_this), (2, .int x2), (3, .ref a_p3)] → W p l e Lists_fit_rm s m args below meth c H locs 0 0 Q (F0 m 72 ls []) := by
        intro c_p3 v_many c_counts c_symbols c_itemsBefore c_items c_pairs b_itemsBefore b_items H locs ls hm hP hD hS hl
        rw [Lists_fit_72] at hm
        have h_92 : ∀ (n_92 : Nat) (c_p3 : Nat → Int32) (v_many : Int32) (c_counts : Nat → Int32) (c_symbols : Nat → Int32) (c_itemsBefore : Nat → Int32) (c_items : Nat → Int32) (c_pairs : Nat → Nat → Int32) (x5 : Int32) (x6 : Int32) (b_itemsBefore : Nat) (b_items : Nat) (H : Heap) (locs : List Loc) (ls : Array Slot), (mW9 (Lists_fit_92 F n_p3) n_92) c_p3 v_many c_counts c_symbols c_itemsBefore c_items c_pairs x5 x6 = some res → va_P E.1 vwCl (Lists_fit_w E a_p3 a_this a_p1 a_counts a_symbols b_itemsBefore b_items a_pairs d_pairs n_p3 n_p1 c_p1 c_p3 v_many c_counts c_symbols c_itemsBefore c_items c_pairs) H → va_D A (Lists_fit_w E a_p3 a_this a_p1 a_counts a_symbols b_itemsBefore b_items a_pairs d_pairs n_p3 n_p1 c_p1 c_p3 v_many c_counts c_symbols c_itemsBefore c_items c_pairs) → va_S A s.heap H locs → lv_has ls 7 [(0, .ref a_this), (3, .ref a_p3), (5, .int x5), (6, .int x6)] → W p l e Lists_fit_rm s m args below meth c H locs 0 0 Q (F0 m 92 ls []) := by
          intro n_92
          induction n_92 with
          | zero => exact fun _ _ _ _ _ _ _ _ _ _ _ _ _ _ hm _ _ _ _ => (mW9_z hm).elim
          | succ n_92 ih_92 =>
            intro c_p3 v_many c_counts c_symbols c_itemsBefore c_items c_pairs x5 x6 b_itemsBefore b_items H locs ls hm hP hD hS hl
            replace hm := mW9_s hm
            rw [Lists_fit_92] at hm
            refine lv_iload hx hb d_Lists_fit_92 (lv_at hl 3 rfl) ?_
            refine lv_if_lt (tgt := 114) hx hb d_Lists_fit_94 (by decide) (fun c94 => ?_) (fun c94 => ?_)
            · replace hm := mC_t hm c94
              replace hm := Option.some.inj hm
              subst hm
              exact hret d_Lists_fit_114 (u := ((c_p3, v_many, c_counts, c_symbols, c_itemsBefore, c_items, c_pairs), b_itemsBefore, b_items)) rfl hP hD hS
            · replace hm := mC_f hm c94
              refine lv_aload_n hx hb d_Lists_fit_97 rfl (lv_at hl 0 rfl) ?_
              refine lv_iload hx hb d_Lists_fit_98 (lv_at hl 3 rfl) ?_
              refine lv_iload hx hb d_Lists_fit_100 (lv_at hl 2 rfl) ?_
              refine lv_aload_n hx hb d_Lists_fit_102 rfl (lv_at hl 1 rfl) ?_
              obtain ⟨r_2, c_p3_1, hc103, hm⟩ := mR1_e hm
              refine xmi (wc := (Lists_take_w E a_this a_pairs a_symbols a_p3 d_pairs n_p3 (.ref a_counts) (.ref b_items) (.ref b_itemsBefore) v_many c_pairs c_symbols c_p3)) [true, true, false, false, true, false, false, true, true, true, true, true, true, true, true, true, true, true, true, true, true, true, true] [1, 3, 4, 5, 6, 7, 8, 9, 10, 11, 12, 13, 14, 15, 16, 17, 18, 2, 0] [18, 0, 17, 1, 2, 3, 4, 5, 6, 7, 8, 9, 10, 11, 12, 13, 14, 15, 16] hP hD hS hA rfl (by decide) (by decide) 19 (by decide) (fun _ => rfl) (fun hPc hDc hFc => va_runV (As := [.int x6, .int x5, .ref a_p3]) (rest := []) ⟨hx, hb, hml, hown, hts⟩ (c_Lists_take l E F H.size a_this a_pairs a_symbols a_p3 d_pairs n_p3 (.ref a_counts) (.ref b_items) (.ref b_itemsBefore) v_many c_pairs c_symbols c_p3 x6 x5 (r_2, c_p3_1) hc103) (cwV 3 hts (x_gV tw_518 tw_520 tw_10 tw_72 tw_521) rfl rfl rfl (by decide +kernel) ⟨Nat.le_of_ble_eq_true rfl, Nat.le_of_ble_eq_true rfl⟩) (xPV 5 0 rfl rfl hPc hDc hFc hK hI hN hS) rfl rfl hl.1 rfl (lv_room (Nat.le_of_ble_eq_true rfl)) d_Lists_fit_103 ⟨Nat.le_of_ble_eq_true rfl, Nat.le_of_ble_eq_true rfl⟩) (fun r9 u9 H locs hw hP hD hS => ?_)
              have hw1 : r_2 = r9 := hw.1.symm
              subst hw1
              have hw2 : c_p3_1 = u9 := hw.2.symm
              subst hw2
              replace hP : va_P E.1 vwCl (Lists_fit_w E a_p3 a_this a_p1 a_counts a_symbols b_itemsBefore b_items a_pairs d_pairs n_p3 n_p1 c_p1 c_p3_1 v_many c_counts c_symbols c_itemsBefore c_items c_pairs) H := hP
              replace hD : va_D A (Lists_fit_w E a_p3 a_this a_p1 a_counts a_symbols b_itemsBefore b_items a_pairs d_pairs n_p3 n_p1 c_p1 c_p3_1 v_many c_counts c_symbols c_itemsBefore c_items c_pairs) := hD
              refine lv_istore (lv' := [(5, .int r_2), (0, .ref a_this), (3, .ref a_p3), (6, .int x6)]) hx hb d_Lists_fit_106 hl (by decide) rfl (fun ls hl => ?_)
              obtain ⟨y6_3, ey6_3⟩ : ∃ y : Int32, y = x6 + (-1) := ⟨_, rfl⟩
              replace hm := mL_e hm y6_3 ey6_3
              refine lv_iinc (v := y6_3) (lv' := [(6, .int y6_3), (5, .int r_2), (0, .ref a_this), (3, .ref a_p3)]) hx hb d_Lists_fit_108 hl (k := 3) rfl (by rw [ey6_3]; rfl) (by decide) rfl (fun ls hl => ?_)
              refine lv_goto (tgt := 92) hx hb d_Lists_fit_111 (by decide) ?_
              exact ih_92 _ _ _ _ _ _ _ _ _ b_itemsBefore b_items H locs ls hm hP hD hS (lv_sub hl [2, 3, 1, 0] rfl)
        refine lv_iconst (v := 2) hx hb d_Lists_fit_72 (by decide) ?_
        refine lv_aload_n hx hb d_Lists_fit_73 rfl (lv_at hl 0 rfl) ?_
        refine va_get (D := E.1) (ci := 5) (v := .int v_many) (C := R_Lists) (T := F_Lists) (N := 6) hx hb hts i_Lists hown hK hP 1 rfl rfl 5 (by decide) (hts _ tw_163) (fun _ h9 => h9) rfl d_Lists_fit_74 ?_
        refine lv_imul hx hb d_Lists_fit_77 ?_
        refine lv_iconst (v := 2) hx hb d_Lists_fit_78 (by decide) ?_
        refine lv_isub hx hb d_Lists_fit_79 ?_
        refine lv_topi (fun y5_4 ey5_4 => ?_)
        replace hm := mL_e hm y5_4 ey5_4
        refine lv_istore (lv' := [(5, .int y5_4), (0, .ref a_this), (2, .int x2), (3, .ref a_p3)]) hx hb d_Lists_fit_80 hl (by decide) rfl (fun ls hl => ?_)
        refine lv_iload_n hx hb d_Lists_fit_82 rfl (lv_at hl 2 rfl) ?_
        refine lv_bipush (v := 15) hx hb d_Lists_fit_83 (by decide) ?_
        refine va_mmin hx hb (hml.trans hl.1.symm) hown (hts _ tw_517) (hts _ tw_458) (hts _ tw_68) (hts _ tw_459) (Nat.le_of_ble_eq_true rfl) (Nat.le_of_ble_eq_true rfl) (Nat.le_of_ble_eq_true rfl) (Nat.le_of_ble_eq_true rfl) d_Lists_fit_85 ?_
        refine lv_iconst (v := 1) hx hb d_Lists_fit_88 (by decide) ?_
        refine lv_isub hx hb d_Lists_fit_89 ?_
        refine lv_topi (fun y6_5 ey6_5 => ?_)
        replace hm := mL_e hm y6_5 ey6_5
        refine lv_istore (lv' := [(6, .int y6_5), (5, .int y5_4), (0, .ref a_this), (2, .int x2), (3, .ref a_p3)]) hx hb d_Lists_fit_90 hl (by decide) rfl (fun ls hl => ?_)
        exact h_92 F _ _ _ _ _ _ _ _ _ b_itemsBefore b_items H locs ls hm hP hD hS (lv_sub hl [2, 4, 1, 0] rfl)
      have h_43 : ∀ (n_43 : Nat) (c_p3 : Nat → Int32) (v_many : Int32) (c_counts : Nat → Int32) (c_symbols : Nat → Int32) (c_itemsBefore : Nat → Int32) (c_items : Nat → Int32) (c_pairs : Nat → Nat → Int32) (x4 : Int32) (x5 : Int32) (b_itemsBefore : Nat) (b_items : Nat) (H : Heap) (locs : List Loc) (ls : Array Slot), (mW9 (Lists_fit_43 F x2 (Lists_fit_72 F n_p3 x2)) n_43) c_p3 v_many c_counts c_symbols c_itemsBefore c_items c_pairs x4 x5 = some res → va_P E.1 vwCl (Lists_fit_w E a_p3 a_this a_p1 a_counts a_symbols b_itemsBefore b_items a_pairs d_pairs n_p3 n_p1 c_p1 c_p3 v_many c_counts c_symbols c_itemsBefore c_items c_pairs) H → va_D A (Lists_fit_w E a_p3 a_this a_p1 a_counts a_symbols b_itemsBefore b_items a_pairs d_pairs n_p3 n_p1 c_p1 c_p3 v_many c_counts c_symbols c_itemsBefore c_items c_pairs) → va_S A s.heap H locs → lv_has ls 7 [(0, .ref a_this), (2, .int x2), (3, .ref a_p3), (4, .int x4), (5, .int x5)] → W p l e Lists_fit_rm s m args below meth c H locs 0 0 Q (F0 m 43 ls []) := by
        intro n_43
        induction n_43 with
        | zero => exact fun _ _ _ _ _ _ _ _ _ _ _ _ _ _ hm _ _ _ _ => (mW9_z hm).elim
        | succ n_43 ih_43 =>
          intro c_p3 v_many c_counts c_symbols c_itemsBefore c_items c_pairs x4 x5 b_itemsBefore b_items H locs ls hm hP hD hS hl
          replace hm := mW9_s hm
          rw [Lists_fit_43] at hm
          refine lv_iload hx hb d_Lists_fit_43 (lv_at hl 4 rfl) ?_
          refine lv_iload_n hx hb d_Lists_fit_45 rfl (lv_at hl 1 rfl) ?_
          refine lv_icmp_ge (tgt := 72) hx hb d_Lists_fit_46 (by decide) (fun c46 => ?_) (fun c46 => ?_)
          · replace hm := mC_t hm c46
            exact h_72 _ _ _ _ _ _ _ b_itemsBefore b_items H locs ls hm hP hD hS (lv_sub hl [0, 1, 2] rfl)
          · replace hm := mC_f hm c46
            refine lv_iload hx hb d_Lists_fit_49 (lv_at hl 4 rfl) ?_
            refine lv_bipush (v := 15) hx hb d_Lists_fit_51 (by decide) ?_
            refine lv_icmp_ge (tgt := 72) hx hb d_Lists_fit_53 (by decide) (fun c53 => ?_) (fun c53 => ?_)
            · replace hm := mC_t hm c53
              exact h_72 _ _ _ _ _ _ _ b_itemsBefore b_items H locs ls hm hP hD hS (lv_sub hl [0, 1, 2] rfl)
            · replace hm := mC_f hm c53
              refine lv_aload_n hx hb d_Lists_fit_56 rfl (lv_at hl 0 rfl) ?_
              refine lv_iload hx hb d_Lists_fit_57 (lv_at hl 4 rfl) ?_
              refine lv_iload hx hb d_Lists_fit_59 (lv_at hl 3 rfl) ?_
              obtain ⟨r_9, c_itemsBefore_6, c_items_7, c_pairs_8, hc61, hm⟩ := mR3_e hm
              refine xmi (wc := (Lists_makeList_w E a_this b_itemsBefore b_items a_counts a_pairs d_pairs (.ref a_symbols) v_many c_counts c_itemsBefore c_items c_pairs)) [false, true, false, true, false, true, true, true, true, true, true, true, true, true, true, true, true, true, true, true, true, true, true] [0, 2, 3, 1, 4, 5, 6, 7, 8, 9, 10, 11, 12, 13, 14, 15, 16, 17, 18, 19] [0, 3, 1, 2, 4, 5, 6, 7, 8, 9, 10, 11, 12, 13, 14, 15, 16, 17, 18, 19] hP hD hS hA rfl (by decide) (by decide) 20 (by decide) (fun _ => rfl) (fun hPc hDc hFc => va_runV (As := [.int x5, .int x4]) (rest := []) ⟨hx, hb, hml, hown, hts⟩ (c_Lists_makeList l E F H.size a_this b_itemsBefore b_items a_counts a_pairs d_pairs (.ref a_symbols) v_many c_counts c_itemsBefore c_items c_pairs x5 x4 (r_9, c_itemsBefore_6, c_items_7, c_pairs_8) hc61) (cwV 2 hts (x_gV tw_513 tw_515 tw_9 tw_72 tw_516) rfl rfl rfl (by decide +kernel) ⟨Nat.le_of_ble_eq_true rfl, Nat.le_of_ble_eq_true rfl⟩) (xPV 5 0 rfl rfl hPc hDc hFc hK hI hN hS) rfl rfl hl.1 rfl (lv_room (Nat.le_of_ble_eq_true rfl)) d_Lists_fit_61 ⟨Nat.le_of_ble_eq_true rfl, Nat.le_of_ble_eq_true rfl⟩) (fun r9 u9 H locs hw hP hD hS => ?_)
              obtain ⟨u9, b_10, b_11⟩ := u9
              have hw1 : r_9 = r9 := hw.1.symm
              subst hw1
              have hw2 : (c_itemsBefore_6, c_items_7, c_pairs_8) = u9 := hw.2.symm
              subst hw2
              replace hP : va_P E.1 vwCl (Lists_fit_w E a_p3 a_this a_p1 a_counts a_symbols b_10 b_11 a_pairs d_pairs n_p3 n_p1 c_p1 c_p3 v_many c_counts c_symbols c_itemsBefore_6 c_items_7 c_pairs_8) H := hP
              replace hD : va_D A (Lists_fit_w E a_p3 a_this a_p1 a_counts a_symbols b_10 b_11 a_pairs d_pairs n_p3 n_p1 c_p1 c_p3 v_many c_counts c_symbols c_itemsBefore_6 c_items_7 c_pairs_8) := hD
              refine lv_istore (lv' := [(4, .int r_9), (0, .ref a_this), (2, .int x2), (3, .ref a_p3), (5, .int x5)]) hx hb d_Lists_fit_64 hl (by decide) rfl (fun ls hl => ?_)
              obtain ⟨y5_12, ey5_12⟩ : ∃ y : Int32, y = x5 + 1 := ⟨_, rfl⟩
              replace hm := mL_e hm y5_12 ey5_12
              refine lv_iinc (v := y5_12) (lv' := [(5, .int y5_12), (4, .int r_9), (0, .ref a_this), (2, .int x2), (3, .ref a_p3)]) hx hb d_Lists_fit_66 hl (k := 4) rfl (by rw [ey5_12]; rfl) (by decide) rfl (fun ls hl => ?_)
              refine lv_goto (tgt := 43) hx hb d_Lists_fit_69 (by decide) ?_
              exact ih_43 _ _ _ _ _ _ _ _ _ b_10 b_11 H locs ls hm hP hD hS (lv_sub hl [2, 3, 4, 1, 0] rfl)
      refine lv_iconst (v := 0) hx hb d_Lists_fit_37 (by decide) ?_
      refine lv_istore (lv' := [(4, .int 0), (0, .ref a_this), (2, .int x2), (3, .ref a_p3)]) hx hb d_Lists_fit_38 hl (by decide) rfl (fun ls hl => ?_)
      refine lv_iconst (v := 0) hx hb d_Lists_fit_40 (by decide) ?_
      refine lv_istore (lv' := [(5, .int 0), (4, .int 0), (0, .ref a_this), (2, .int x2), (3, .ref a_p3)]) hx hb d_Lists_fit_41 hl (by decide) rfl (fun ls hl => ?_)
      exact h_43 F _ _ _ _ _ _ _ _ _ b_itemsBefore b_items H locs ls hm hP hD hS (lv_sub hl [2, 3, 4, 1, 0] rfl)
    · replace hm := mC_f hm c33
      replace hm := Option.some.inj hm
      subst hm
      exact hret d_Lists_fit_36 (u := ((c_p3, v_many, c_counts, c_symbols, c_itemsBefore, c_items, c_pairs), b_itemsBefore, b_items)) rfl hP hD hS
  refine lv_aload_n hx hb d_Lists_fit_0 rfl (lv_at hl 3 rfl) ?_
  refine lv_iconst (v := 0) hx hb d_Lists_fit_1 (by decide) ?_
  obtain ⟨r_14, c_p0_13, hc2, hm⟩ := mR1_e hm
  refine xmv (wc := (Arr_fill_w E a_p3 n_p3 c_p3)) [true, false, false, false, false, false, false, false, false, false, false, false, false, false, false, false, false, false, false, false, false, false, false] [0] [0] hP hD hS hA rfl (by decide) (by decide) 1 (by decide) (fun _ => rfl) (fun hPc hDc hFc => va_runS (As := [.ref a_p3, .int 0]) (rest := []) ⟨hx, hb, hml, hown, hts⟩ (c_Arr_fill l E F H.size a_p3 n_p3 c_p3 0 (r_14, c_p0_13) hc2) (va_cwS 2 hts (x_gS tw_501 tw_239 tw_75 tw_240) rfl rfl rfl (by decide +kernel) ⟨Nat.le_of_ble_eq_true rfl, Nat.le_of_ble_eq_true rfl⟩) (xPS hPc hDc hFc hK hI hN hS) rfl rfl hl.1 rfl (lv_room (Nat.le_of_ble_eq_true rfl)) d_Lists_fit_2 ⟨Nat.le_of_ble_eq_true rfl, Nat.le_of_ble_eq_true rfl⟩) (fun u9 H locs hw hP hD hS => ?_)
  have hw2 : c_p0_13 = u9 := hw.symm
  subst hw2
  replace hP : va_P E.1 vwCl (Lists_fit_w E a_p3 a_this a_p1 a_counts a_symbols a_itemsBefore a_items a_pairs d_pairs n_p3 n_p1 c_p1 c_p0_13 v_many c_counts c_symbols c_itemsBefore c_items c_pairs) H := hP
  replace hD : va_D A (Lists_fit_w E a_p3 a_this a_p1 a_counts a_symbols a_itemsBefore a_items a_pairs d_pairs n_p3 n_p1 c_p1 c_p0_13 v_many c_counts c_symbols c_itemsBefore c_items c_pairs) := hD
  refine lv_aload_n hx hb d_Lists_fit_5 rfl (lv_at hl 0 rfl) ?_
  refine lv_aload_n hx hb d_Lists_fit_6 rfl (lv_at hl 1 rfl) ?_
  obtain ⟨r_18, v_many_15, c_counts_16, c_symbols_17, hc7, hm⟩ := mR3_e hm
  refine xmv (wc := (Lists_sort_w E a_this a_p1 a_counts a_symbols n_p1 (.ref a_pairs) (.ref a_items) (.ref a_itemsBefore) c_p1 v_many c_counts c_symbols)) [false, true, true, true, true, false, false, false, false, false, false, false, false, false, false, false, false, false, false, false, false, false, false] [0, 1, 2, 3] [0, 1, 2, 3] hP hD hS hA rfl (by decide) (by decide) 4 (by decide) (fun _ => rfl) (fun hPc hDc hFc => va_runV (As := [.ref a_p1]) (rest := []) ⟨hx, hb, hml, hown, hts⟩ (c_Lists_sort l E F H.size a_this a_p1 a_counts a_symbols n_p1 (.ref a_pairs) (.ref a_items) (.ref a_itemsBefore) c_p1 v_many c_counts c_symbols (r_18, v_many_15, c_counts_16, c_symbols_17) hc7) (cwV 1 hts (x_gV tw_502 tw_504 tw_7 tw_72 tw_505) rfl rfl rfl (by decide +kernel) ⟨Nat.le_of_ble_eq_true rfl, Nat.le_of_ble_eq_true rfl⟩) (xPV 5 0 rfl rfl hPc hDc hFc hK hI hN hS) rfl rfl hl.1 rfl (lv_room (Nat.le_of_ble_eq_true rfl)) d_Lists_fit_7 ⟨Nat.le_of_ble_eq_true rfl, Nat.le_of_ble_eq_true rfl⟩) (fun u9 H locs hw hP hD hS => ?_)
  have hw2 : (v_many_15, c_counts_16, c_symbols_17) = u9 := hw.symm
  subst hw2
  replace hP : va_P E.1 vwCl (Lists_fit_w E a_p3 a_this a_p1 a_counts a_symbols a_itemsBefore a_items a_pairs d_pairs n_p3 n_p1 c_p1 c_p0_13 v_many_15 c_counts_16 c_symbols_17 c_itemsBefore c_items c_pairs) H := hP
  replace hD : va_D A (Lists_fit_w E a_p3 a_this a_p1 a_counts a_symbols a_itemsBefore a_items a_pairs d_pairs n_p3 n_p1 c_p1 c_p0_13 v_many_15 c_counts_16 c_symbols_17 c_itemsBefore c_items c_pairs) := hD
  refine lv_aload_n hx hb d_Lists_fit_10 rfl (lv_at hl 0 rfl) ?_
  refine va_get (D := E.1) (ci := 5) (v := .int v_many_15) (C := R_Lists) (T := F_Lists) (N := 6) hx hb hts i_Lists hown hK hP 1 rfl rfl 5 (by decide) (hts _ tw_163) (fun _ h9 => h9) rfl d_Lists_fit_11 ?_
  refine lv_iconst (v := 1) hx hb d_Lists_fit_14 (by decide) ?_
  refine lv_icmp_ne (tgt := 28) hx hb d_Lists_fit_15 (by decide) (fun c15 => ?_) (fun c15 => ?_)
  · replace hm := mC_f hm c15
    exact h_28 _ _ _ _ _ _ _ a_itemsBefore a_items H locs ls hm hP hD hS (lv_sub hl [0, 2, 3] rfl)
  · replace hm := mC_t hm c15
    refine lv_aload_n hx hb d_Lists_fit_18 rfl (lv_at hl 3 rfl) ?_
    refine lv_aload_n hx hb d_Lists_fit_19 rfl (lv_at hl 0 rfl) ?_
    refine va_get (D := E.1) (ci := 5) (v := .ref a_symbols) (C := R_Lists) (T := F_Lists) (N := 6) hx hb hts i_Lists hown hK hP 1 rfl rfl 0 (by decide) (hts _ tw_158) (fun _ h9 => h9) rfl d_Lists_fit_20 ?_
    refine lv_iconst (v := 0) hx hb d_Lists_fit_23 (by decide) ?_
    obtain ⟨hi24, hm⟩ := mG_e hm
    refine va_iald hx hb hK hP 4 0 rfl rfl hi24 d_Lists_fit_24 ?_
    obtain ⟨t_19, et_19⟩ : ∃ z : Int32, z = c_symbols_17 (0 : Int32).toNatClampNeg := ⟨_, rfl⟩
    rw [← et_19]
    replace hm := mL_e hm t_19 et_19
    obtain ⟨r_21, c_p0_20, hc25, hm⟩ := mR1_e hm
    refine xmv (wc := (Lists_addOne_w E a_p3 n_p3 c_p0_13)) [true, false, false, false, false, false, false, false, false, false, false, false, false, false, false, false, false, false, false, false, false, false, false] [0] [0] hP hD hS hA rfl (by decide) (by decide) 1 (by decide) (fun _ => rfl) (fun hPc hDc hFc => va_runS (As := [.ref a_p3, .int t_19]) (rest := []) ⟨hx, hb, hml, hown, hts⟩ (c_Lists_addOne l E F H.size a_p3 n_p3 c_p0_13 t_19 (r_21, c_p0_20) hc25) (va_cwS 2 hts (x_gS tw_510 tw_511 tw_72 tw_512) rfl rfl rfl (by decide +kernel) ⟨Nat.le_of_ble_eq_true rfl, Nat.le_of_ble_eq_true rfl⟩) (xPS hPc hDc hFc hK hI hN hS) rfl rfl hl.1 rfl (lv_room (Nat.le_of_ble_eq_true rfl)) d_Lists_fit_25 ⟨Nat.le_of_ble_eq_true rfl, Nat.le_of_ble_eq_true rfl⟩) (fun u9 H locs hw hP hD hS => ?_)
    have hw2 : c_p0_20 = u9 := hw.symm
    subst hw2
    replace hP : va_P E.1 vwCl (Lists_fit_w E a_p3 a_this a_p1 a_counts a_symbols a_itemsBefore a_items a_pairs d_pairs n_p3 n_p1 c_p1 c_p0_20 v_many_15 c_counts_16 c_symbols_17 c_itemsBefore c_items c_pairs) H := hP
    replace hD : va_D A (Lists_fit_w E a_p3 a_this a_p1 a_counts a_symbols a_itemsBefore a_items a_pairs d_pairs n_p3 n_p1 c_p1 c_p0_20 v_many_15 c_counts_16 c_symbols_17 c_itemsBefore c_items c_pairs) := hD
    exact h_28 _ _ _ _ _ _ _ a_itemsBefore a_items H locs ls hm hP hD hS (lv_sub hl [0, 2, 3] rfl)
