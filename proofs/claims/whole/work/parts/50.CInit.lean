theorem d_Bytes_init_0 : decode b_Bytes_init 0 = .ok (.aload_n 0, 1) := by decide +kernel
theorem d_Bytes_init_1 : decode b_Bytes_init 1 = .ok (.invokespecial 1, 3) := by decide +kernel
theorem d_Bytes_init_4 : decode b_Bytes_init 4 = .ok (.aload_n 0, 1) := by decide +kernel
theorem d_Bytes_init_5 : decode b_Bytes_init 5 = .ok (.iload_n 1, 1) := by decide +kernel
theorem d_Bytes_init_6 : decode b_Bytes_init 6 = .ok (.iconst 0, 1) := by decide +kernel
theorem d_Bytes_init_7 : decode b_Bytes_init 7 = .ok (.invokestatic 7, 3) := by decide +kernel
theorem d_Bytes_init_10 : decode b_Bytes_init 10 = .ok (.newarray .byte, 2) := by decide +kernel
theorem d_Bytes_init_12 : decode b_Bytes_init 12 = .ok (.putfield 13, 3) := by decide +kernel
theorem d_Bytes_init_15 : decode b_Bytes_init 15 = .ok (.return_, 1) := by decide +kernel
def Bytes_init_8192 (F : Nat) : Option (Unit × Unit) :=
  some ((), ())
abbrev Bytes_init_8192_rm : Room := { frames := 1, cells := 1, slots := 8192, locals := 21 }
set_option maxHeartbeats 4000000 in
set_option maxRecDepth 100000 in
theorem c_Bytes_init_8192 (l : Launch) (E : xE) (F sz : Nat) (a_this : Nat) (res : Unit × Unit) (hm : Bytes_init_8192 F = some res) : Met l y_Bytes_init (Cond.code y_Bytes_init b_Bytes_init 2 none :: x_tb) Bytes_init_8192_rm (va_Pc [.ref a_this, .int 8192] (xPre E [(a_this, .inr (2, [.null, .int 0]))] sz)) (xQv E (fun (u : (Unit) × Nat) => u.1 = res.2) (fun (u : (Unit) × Nat) => [(a_this, .inr (2, [.ref u.2, .int 0])), (u.2, .inl (E.2.2.1, 8192, .inl (fun _ => 0)))]) (va_A [(a_this, .inr (2, [.null, .int 0]))] sz)) 1 8192 (va_A [(a_this, .inr (2, [.null, .int 0]))] sz) := by
  refine xEnV (by decide) (Nat.le_of_ble_eq_true rfl) ?_
  intro p e s m args below meth c A ls Q hx hb hnm hts hown hml hK hA hI hN hret hP hD hS hl
  replace hown : s.vm.findClass R_Bytes = some m.cls := hown
  replace hl : lv_has ls 2 [(0, .ref a_this), (1, .int 8192)] := hl
  obtain ⟨H, eH⟩ : ∃ z, z = s.heap := ⟨_, rfl⟩
  obtain ⟨locs, eL⟩ : ∃ z : List Loc, z = [] := ⟨_, rfl⟩
  rw [show W p l e Bytes_init_8192_rm s m args below meth c s.heap [] 0 0 Q (F0 m 0 ls []) = W p l e Bytes_init_8192_rm s m args below meth c H locs 0 0 Q (F0 m 0 ls []) by rw [eH, eL]]
  replace hP : va_P E.1 vwCl [(a_this, .inr (2, [.null, .int 0]))] H := by rw [eH]; exact hP
  replace hS : va_S A s.heap H locs := by rw [eH, eL]; exact hS
  clear eH eL
  rw [Bytes_init_8192] at hm
  refine lv_aload_n hx hb d_Bytes_init_0 rfl (lv_at hl 0 rfl) ?_
  refine W.objInit hx hb hown (hts _ tw_95) (hts _ tw_88) (hts _ tw_89) rfl (by rw [hml]; exact hl.1) rfl d_Bytes_init_1 (Nat.le_of_ble_eq_true rfl) (Nat.le_of_ble_eq_true rfl) ?_
  refine W.eq (g2 := F0 m 4 ls []) rfl ?_
  refine lv_aload_n hx hb d_Bytes_init_4 rfl (lv_at hl 0 rfl) ?_
  refine lv_iload_n hx hb d_Bytes_init_5 rfl (lv_at hl 1 rfl) ?_
  refine lv_iconst (v := 0) hx hb d_Bytes_init_6 (by decide) ?_
  refine va_mmax hx hb (hml.trans hl.1.symm) hown (hts _ tw_96) (hts _ tw_97) (hts _ tw_68) (hts _ tw_98) (Nat.le_of_ble_eq_true rfl) (Nat.le_of_ble_eq_true rfl) (Nat.le_of_ble_eq_true rfl) (Nat.le_of_ble_eq_true rfl) d_Bytes_init_7 ?_
  rw [show (if (8192 : Int32) < 0 then 0 else 8192) = (8192 : Int32) from by decide]
  refine xnewB 8192 hx hb (hts _ tw_106) hK hP hD hS hA (by decide) (by decide) (by decide) (Nat.le_of_ble_eq_true rfl) (Nat.le_of_ble_eq_true rfl) d_Bytes_init_10 (fun q_1 H hP hD hS => ?_)
  replace hP : va_P E.1 vwCl [(a_this, .inr (2, [.null, .int 0])), (q_1, .inl (E.2.2.1, 8192, .inl (fun _ => 0)))] H := hP
  replace hD : va_D A [(a_this, .inr (2, [.null, .int 0])), (q_1, .inl (E.2.2.1, 8192, .inl (fun _ => 0)))] := hD
  refine va_putF (D := E.1) (ci := 2) (v := .ref q_1) (ty := (.array .byte)) (C := R_Bytes) (T := F_Bytes) (N := 2) hx hb hts i_Bytes t_Bytes t_Bytes_ok n_Bytes hown hK hP hD hS 0 rfl rfl 0 (by decide) (hts _ tw_99) (fun _ h9 => h9) rfl hnm rfl (by decide +kernel) rfl rfl (Nat.le_of_ble_eq_true rfl) d_Bytes_init_12 (fun H locs hP hD hS => ?_)
  replace hP : va_P E.1 vwCl [(a_this, .inr (2, [.ref q_1, .int 0])), (q_1, .inl (E.2.2.1, 8192, .inl (fun _ => 0)))] H := hP
  replace hD : va_D A [(a_this, .inr (2, [.ref q_1, .int 0])), (q_1, .inl (E.2.2.1, 8192, .inl (fun _ => 0)))] := hD
  replace hm := Option.some.inj hm
  subst hm
  exact hret d_Bytes_init_15 (u := ((), q_1)) rfl hP hD hS
def Bytes_init_66000 (F : Nat) : Option (Unit × Unit) :=
  some ((), ())
abbrev Bytes_init_66000_rm : Room := { frames := 1, cells := 1, slots := 66000, locals := 21 }
set_option maxHeartbeats 4000000 in
set_option maxRecDepth 100000 in
theorem c_Bytes_init_66000 (l : Launch) (E : xE) (F sz : Nat) (a_this : Nat) (res : Unit × Unit) (hm : Bytes_init_66000 F = some res) : Met l y_Bytes_init (Cond.code y_Bytes_init b_Bytes_init 2 none :: x_tb) Bytes_init_66000_rm (va_Pc [.ref a_this, .int 66000] (xPre E [(a_this, .inr (2, [.null, .int 0]))] sz)) (xQv E (fun (u : (Unit) × Nat) => u.1 = res.2) (fun (u : (Unit) × Nat) => [(a_this, .inr (2, [.ref u.2, .int 0])), (u.2, .inl (E.2.2.1, 66000, .inl (fun _ => 0)))]) (va_A [(a_this, .inr (2, [.null, .int 0]))] sz)) 1 66000 (va_A [(a_this, .inr (2, [.null, .int 0]))] sz) := by
  refine xEnV (by decide) (Nat.le_of_ble_eq_true rfl) ?_
  intro p e s m args below meth c A ls Q hx hb hnm hts hown hml hK hA hI hN hret hP hD hS hl
  replace hown : s.vm.findClass R_Bytes = some m.cls := hown
  replace hl : lv_has ls 2 [(0, .ref a_this), (1, .int 66000)] := hl
  obtain ⟨H, eH⟩ : ∃ z, z = s.heap := ⟨_, rfl⟩
  obtain ⟨locs, eL⟩ : ∃ z : List Loc, z = [] := ⟨_, rfl⟩
  rw [show W p l e Bytes_init_66000_rm s m args below meth c s.heap [] 0 0 Q (F0 m 0 ls []) = W p l e Bytes_init_66000_rm s m args below meth c H locs 0 0 Q (F0 m 0 ls []) by rw [eH, eL]]
  replace hP : va_P E.1 vwCl [(a_this, .inr (2, [.null, .int 0]))] H := by rw [eH]; exact hP
  replace hS : va_S A s.heap H locs := by rw [eH, eL]; exact hS
  clear eH eL
  rw [Bytes_init_66000] at hm
  refine lv_aload_n hx hb d_Bytes_init_0 rfl (lv_at hl 0 rfl) ?_
  refine W.objInit hx hb hown (hts _ tw_95) (hts _ tw_88) (hts _ tw_89) rfl (by rw [hml]; exact hl.1) rfl d_Bytes_init_1 (Nat.le_of_ble_eq_true rfl) (Nat.le_of_ble_eq_true rfl) ?_
  refine W.eq (g2 := F0 m 4 ls []) rfl ?_
  refine lv_aload_n hx hb d_Bytes_init_4 rfl (lv_at hl 0 rfl) ?_
  refine lv_iload_n hx hb d_Bytes_init_5 rfl (lv_at hl 1 rfl) ?_
  refine lv_iconst (v := 0) hx hb d_Bytes_init_6 (by decide) ?_
  refine va_mmax hx hb (hml.trans hl.1.symm) hown (hts _ tw_96) (hts _ tw_97) (hts _ tw_68) (hts _ tw_98) (Nat.le_of_ble_eq_true rfl) (Nat.le_of_ble_eq_true rfl) (Nat.le_of_ble_eq_true rfl) (Nat.le_of_ble_eq_true rfl) d_Bytes_init_7 ?_
  rw [show (if (66000 : Int32) < 0 then 0 else 66000) = (66000 : Int32) from by decide]
  refine xnewB 66000 hx hb (hts _ tw_106) hK hP hD hS hA (by decide) (by decide) (by decide) (Nat.le_of_ble_eq_true rfl) (Nat.le_of_ble_eq_true rfl) d_Bytes_init_10 (fun q_1 H hP hD hS => ?_)
  replace hP : va_P E.1 vwCl [(a_this, .inr (2, [.null, .int 0])), (q_1, .inl (E.2.2.1, 66000, .inl (fun _ => 0)))] H := hP
  replace hD : va_D A [(a_this, .inr (2, [.null, .int 0])), (q_1, .inl (E.2.2.1, 66000, .inl (fun _ => 0)))] := hD
  refine va_putF (D := E.1) (ci := 2) (v := .ref q_1) (ty := (.array .byte)) (C := R_Bytes) (T := F_Bytes) (N := 2) hx hb hts i_Bytes t_Bytes t_Bytes_ok n_Bytes hown hK hP hD hS 0 rfl rfl 0 (by decide) (hts _ tw_99) (fun _ h9 => h9) rfl hnm rfl (by decide +kernel) rfl rfl (Nat.le_of_ble_eq_true rfl) d_Bytes_init_12 (fun H locs hP hD hS => ?_)
  replace hP : va_P E.1 vwCl [(a_this, .inr (2, [.ref q_1, .int 0])), (q_1, .inl (E.2.2.1, 66000, .inl (fun _ => 0)))] H := hP
  replace hD : va_D A [(a_this, .inr (2, [.ref q_1, .int 0])), (q_1, .inl (E.2.2.1, 66000, .inl (fun _ => 0)))] := hD
  replace hm := Option.some.inj hm
  subst hm
  exact hret d_Bytes_init_15 (u := ((), q_1)) rfl hP hD hS
def Bytes_init_65536 (F : Nat) : Option (Unit × Unit) :=
  some ((), ())
abbrev Bytes_init_65536_rm : Room := { frames := 1, cells := 1, slots := 65536, locals := 21 }
set_option maxHeartbeats 4000000 in
set_option maxRecDepth 100000 in
theorem c_Bytes_init_65536 (l : Launch) (E : xE) (F sz : Nat) (a_this : Nat) (res : Unit × Unit) (hm : Bytes_init_65536 F = some res) : Met l y_Bytes_init (Cond.code y_Bytes_init b_Bytes_init 2 none :: x_tb) Bytes_init_65536_rm (va_Pc [.ref a_this, .int 65536] (xPre E [(a_this, .inr (2, [.null, .int 0]))] sz)) (xQv E (fun (u : (Unit) × Nat) => u.1 = res.2) (fun (u : (Unit) × Nat) => [(a_this, .inr (2, [.ref u.2, .int 0])), (u.2, .inl (E.2.2.1, 65536, .inl (fun _ => 0)))]) (va_A [(a_this, .inr (2, [.null, .int 0]))] sz)) 1 65536 (va_A [(a_this, .inr (2, [.null, .int 0]))] sz) := by
  refine xEnV (by decide) (Nat.le_of_ble_eq_true rfl) ?_
  intro p e s m args below meth c A ls Q hx hb hnm hts hown hml hK hA hI hN hret hP hD hS hl
  replace hown : s.vm.findClass R_Bytes = some m.cls := hown
  replace hl : lv_has ls 2 [(0, .ref a_this), (1, .int 65536)] := hl
  obtain ⟨H, eH⟩ : ∃ z, z = s.heap := ⟨_, rfl⟩
  obtain ⟨locs, eL⟩ : ∃ z : List Loc, z = [] := ⟨_, rfl⟩
  rw [show W p l e Bytes_init_65536_rm s m args below meth c s.heap [] 0 0 Q (F0 m 0 ls []) = W p l e Bytes_init_65536_rm s m args below meth c H locs 0 0 Q (F0 m 0 ls []) by rw [eH, eL]]
  replace hP : va_P E.1 vwCl [(a_this, .inr (2, [.null, .int 0]))] H := by rw [eH]; exact hP
  replace hS : va_S A s.heap H locs := by rw [eH, eL]; exact hS
  clear eH eL
  rw [Bytes_init_65536] at hm
  refine lv_aload_n hx hb d_Bytes_init_0 rfl (lv_at hl 0 rfl) ?_
  refine W.objInit hx hb hown (hts _ tw_95) (hts _ tw_88) (hts _ tw_89) rfl (by rw [hml]; exact hl.1) rfl d_Bytes_init_1 (Nat.le_of_ble_eq_true rfl) (Nat.le_of_ble_eq_true rfl) ?_
  refine W.eq (g2 := F0 m 4 ls []) rfl ?_
  refine lv_aload_n hx hb d_Bytes_init_4 rfl (lv_at hl 0 rfl) ?_
  refine lv_iload_n hx hb d_Bytes_init_5 rfl (lv_at hl 1 rfl) ?_
  refine lv_iconst (v := 0) hx hb d_Bytes_init_6 (by decide) ?_
  refine va_mmax hx hb (hml.trans hl.1.symm) hown (hts _ tw_96) (hts _ tw_97) (hts _ tw_68) (hts _ tw_98) (Nat.le_of_ble_eq_true rfl) (Nat.le_of_ble_eq_true rfl) (Nat.le_of_ble_eq_true rfl) (Nat.le_of_ble_eq_true rfl) d_Bytes_init_7 ?_
  rw [show (if (65536 : Int32) < 0 then 0 else 65536) = (65536 : Int32) from by decide]
  refine xnewB 65536 hx hb (hts _ tw_106) hK hP hD hS hA (by decide) (by decide) (by decide) (Nat.le_of_ble_eq_true rfl) (Nat.le_of_ble_eq_true rfl) d_Bytes_init_10 (fun q_1 H hP hD hS => ?_)
  replace hP : va_P E.1 vwCl [(a_this, .inr (2, [.null, .int 0])), (q_1, .inl (E.2.2.1, 65536, .inl (fun _ => 0)))] H := hP
  replace hD : va_D A [(a_this, .inr (2, [.null, .int 0])), (q_1, .inl (E.2.2.1, 65536, .inl (fun _ => 0)))] := hD
  refine va_putF (D := E.1) (ci := 2) (v := .ref q_1) (ty := (.array .byte)) (C := R_Bytes) (T := F_Bytes) (N := 2) hx hb hts i_Bytes t_Bytes t_Bytes_ok n_Bytes hown hK hP hD hS 0 rfl rfl 0 (by decide) (hts _ tw_99) (fun _ h9 => h9) rfl hnm rfl (by decide +kernel) rfl rfl (Nat.le_of_ble_eq_true rfl) d_Bytes_init_12 (fun H locs hP hD hS => ?_)
  replace hP : va_P E.1 vwCl [(a_this, .inr (2, [.ref q_1, .int 0])), (q_1, .inl (E.2.2.1, 65536, .inl (fun _ => 0)))] H := hP
  replace hD : va_D A [(a_this, .inr (2, [.ref q_1, .int 0])), (q_1, .inl (E.2.2.1, 65536, .inl (fun _ => 0)))] := hD
  replace hm := Option.some.inj hm
  subst hm
  exact hret d_Bytes_init_15 (u := ((), q_1)) rfl hP hD hS
theorem d_BitWriter_init_0 : decode b_BitWriter_init 0 = .ok (.aload_n 0, 1) := by decide +kernel
theorem d_BitWriter_init_1 : decode b_BitWriter_init 1 = .ok (.invokespecial 3, 3) := by decide +kernel
theorem d_BitWriter_init_4 : decode b_BitWriter_init 4 = .ok (.aload_n 0, 1) := by decide +kernel
theorem d_BitWriter_init_5 : decode b_BitWriter_init 5 = .ok (.sipush 8256, 3) := by decide +kernel
theorem d_BitWriter_init_8 : decode b_BitWriter_init 8 = .ok (.newarray .byte, 2) := by decide +kernel
theorem d_BitWriter_init_10 : decode b_BitWriter_init 10 = .ok (.putfield 11, 3) := by decide +kernel
theorem d_BitWriter_init_13 : decode b_BitWriter_init 13 = .ok (.return_, 1) := by decide +kernel
def BitWriter_init (F : Nat) : Option (Unit × Unit) :=
  some ((), ())
abbrev BitWriter_init_rm : Room := { frames := 1, cells := 1, slots := 8256, locals := 20 }
set_option maxHeartbeats 4000000 in
set_option maxRecDepth 100000 in
theorem c_BitWriter_init (l : Launch) (E : xE) (F sz : Nat) (a_this : Nat) (res : Unit × Unit) (hm : BitWriter_init F = some res) : Met l y_BitWriter_init (Cond.code y_BitWriter_init b_BitWriter_init 1 none :: x_tb) BitWriter_init_rm (va_Pc [.ref a_this] (xPre E [(a_this, .inr (1, [.null, .int 0, .int 0, .int 0]))] sz)) (xQv E (fun (u : (Unit) × Nat) => u.1 = res.2) (fun (u : (Unit) × Nat) => [(a_this, .inr (1, [.ref u.2, .int 0, .int 0, .int 0])), (u.2, .inl (E.2.2.1, 8256, .inl (fun _ => 0)))]) (va_A [(a_this, .inr (1, [.null, .int 0, .int 0, .int 0]))] sz)) 1 8256 (va_A [(a_this, .inr (1, [.null, .int 0, .int 0, .int 0]))] sz) := by
  refine xEnV (by decide) (Nat.le_of_ble_eq_true rfl) ?_
  intro p e s m args below meth c A ls Q hx hb hnm hts hown hml hK hA hI hN hret hP hD hS hl
  replace hown : s.vm.findClass R_BitWriter = some m.cls := hown
  replace hl : lv_has ls 1 [(0, .ref a_this)] := hl
  obtain ⟨H, eH⟩ : ∃ z, z = s.heap := ⟨_, rfl⟩
  obtain ⟨locs, eL⟩ : ∃ z : List Loc, z = [] := ⟨_, rfl⟩
  rw [show W p l e BitWriter_init_rm s m args below meth c s.heap [] 0 0 Q (F0 m 0 ls []) = W p l e BitWriter_init_rm s m args below meth c H locs 0 0 Q (F0 m 0 ls []) by rw [eH, eL]]
  replace hP : va_P E.1 vwCl [(a_this, .inr (1, [.null, .int 0, .int 0, .int 0]))] H := by rw [eH]; exact hP
  replace hS : va_S A s.heap H locs := by rw [eH, eL]; exact hS
  clear eH eL
  rw [BitWriter_init] at hm
  refine lv_aload_n hx hb d_BitWriter_init_0 rfl (lv_at hl 0 rfl) ?_
  refine W.objInit hx hb hown (hts _ tw_119) (hts _ tw_88) (hts _ tw_89) rfl (by rw [hml]; exact hl.1) rfl d_BitWriter_init_1 (Nat.le_of_ble_eq_true rfl) (Nat.le_of_ble_eq_true rfl) ?_
  refine W.eq (g2 := F0 m 4 ls []) rfl ?_
  refine lv_aload_n hx hb d_BitWriter_init_4 rfl (lv_at hl 0 rfl) ?_
  refine lv_sipush (v := 8256) hx hb d_BitWriter_init_5 (by decide) ?_
  refine xnewB 8256 hx hb (hts _ tw_106) hK hP hD hS hA (by decide) (by decide) (by decide) (Nat.le_of_ble_eq_true rfl) (Nat.le_of_ble_eq_true rfl) d_BitWriter_init_8 (fun q_1 H hP hD hS => ?_)
  replace hP : va_P E.1 vwCl [(a_this, .inr (1, [.null, .int 0, .int 0, .int 0])), (q_1, .inl (E.2.2.1, 8256, .inl (fun _ => 0)))] H := hP
  replace hD : va_D A [(a_this, .inr (1, [.null, .int 0, .int 0, .int 0])), (q_1, .inl (E.2.2.1, 8256, .inl (fun _ => 0)))] := hD
  refine va_putF (D := E.1) (ci := 1) (v := .ref q_1) (ty := (.array .byte)) (C := R_BitWriter) (T := F_BitWriter) (N := 4) hx hb hts i_BitWriter t_BitWriter t_BitWriter_ok n_BitWriter hown hK hP hD hS 0 rfl rfl 0 (by decide) (hts _ tw_120) (fun _ h9 => h9) rfl hnm rfl (by decide +kernel) rfl rfl (Nat.le_of_ble_eq_true rfl) d_BitWriter_init_10 (fun H locs hP hD hS => ?_)
  replace hP : va_P E.1 vwCl [(a_this, .inr (1, [.ref q_1, .int 0, .int 0, .int 0])), (q_1, .inl (E.2.2.1, 8256, .inl (fun _ => 0)))] H := hP
  replace hD : va_D A [(a_this, .inr (1, [.ref q_1, .int 0, .int 0, .int 0])), (q_1, .inl (E.2.2.1, 8256, .inl (fun _ => 0)))] := hD
  replace hm := Option.some.inj hm
  subst hm
  exact hret d_BitWriter_init_13 (u := ((), q_1)) rfl hP hD hS
theorem d_Matches_init_0 : decode b_Matches_init 0 = .ok (.aload_n 0, 1) := by decide +kernel
theorem d_Matches_init_1 : decode b_Matches_init 1 = .ok (.invokespecial 3, 3) := by decide +kernel
theorem d_Matches_init_4 : decode b_Matches_init 4 = .ok (.aload_n 0, 1) := by decide +kernel
theorem d_Matches_init_5 : decode b_Matches_init 5 = .ok (.aload_n 1, 1) := by decide +kernel
theorem d_Matches_init_6 : decode b_Matches_init 6 = .ok (.putfield 9, 3) := by decide +kernel
theorem d_Matches_init_9 : decode b_Matches_init 9 = .ok (.aload_n 0, 1) := by decide +kernel
theorem d_Matches_init_10 : decode b_Matches_init 10 = .ok (.sipush 4096, 3) := by decide +kernel
theorem d_Matches_init_13 : decode b_Matches_init 13 = .ok (.newarray .int, 2) := by decide +kernel
theorem d_Matches_init_15 : decode b_Matches_init 15 = .ok (.putfield 15, 3) := by decide +kernel
theorem d_Matches_init_18 : decode b_Matches_init 18 = .ok (.aload_n 0, 1) := by decide +kernel
theorem d_Matches_init_19 : decode b_Matches_init 19 = .ok (.sipush 8192, 3) := by decide +kernel
theorem d_Matches_init_22 : decode b_Matches_init 22 = .ok (.newarray .int, 2) := by decide +kernel
theorem d_Matches_init_24 : decode b_Matches_init 24 = .ok (.putfield 19, 3) := by decide +kernel
theorem d_Matches_init_27 : decode b_Matches_init 27 = .ok (.return_, 1) := by decide +kernel
def Matches_init (F : Nat) : Option (Unit × Unit) :=
  some ((), ())
abbrev Matches_init_rm : Room := { frames := 1, cells := 2, slots := 12288, locals := 20 }
set_option maxHeartbeats 4000000 in
set_option maxRecDepth 100000 in
theorem c_Matches_init (l : Launch) (E : xE) (F sz : Nat) (a_this : Nat) (x_p1 : Nat) (res : Unit × Unit) (hm : Matches_init F = some res) : Met l y_Matches_init (Cond.code y_Matches_init b_Matches_init 2 none :: x_tb) Matches_init_rm (va_Pc [.ref a_this, .ref x_p1] (xPre E [(a_this, .inr (6, [.null, .null, .null]))] sz)) (xQv E (fun (u : (Unit) × Nat × Nat) => u.1 = res.2) (fun (u : (Unit) × Nat × Nat) => [(a_this, .inr (6, [.ref x_p1, .ref u.2.1, .ref u.2.2])), (u.2.1, .inl (E.2.1, 4096, .inl (fun _ => 0))), (u.2.2, .inl (E.2.1, 8192, .inl (fun _ => 0)))]) (va_A [(a_this, .inr (6, [.null, .null, .null]))] sz)) 2 12288 (va_A [(a_this, .inr (6, [.null, .null, .null]))] sz) := by
  refine xEnV (by decide) (Nat.le_of_ble_eq_true rfl) ?_
  intro p e s m args below meth c A ls Q hx hb hnm hts hown hml hK hA hI hN hret hP hD hS hl
  replace hown : s.vm.findClass R_Matches = some m.cls := hown
  replace hl : lv_has ls 2 [(0, .ref a_this), (1, .ref x_p1)] := hl
  obtain ⟨H, eH⟩ : ∃ z, z = s.heap := ⟨_, rfl⟩
  obtain ⟨locs, eL⟩ : ∃ z : List Loc, z = [] := ⟨_, rfl⟩
  rw [show W p l e Matches_init_rm s m args below meth c s.heap [] 0 0 Q (F0 m 0 ls []) = W p l e Matches_init_rm s m args below meth c H locs 0 0 Q (F0 m 0 ls []) by rw [eH, eL]]
  replace hP : va_P E.1 vwCl [(a_this, .inr (6, [.null, .null, .null]))] H := by rw [eH]; exact hP
  replace hS : va_S A s.heap H locs := by rw [eH, eL]; exact hS
  clear eH eL
  rw [Matches_init] at hm
  refine lv_aload_n hx hb d_Matches_init_0 rfl (lv_at hl 0 rfl) ?_
  refine W.objInit hx hb hown (hts _ tw_138) (hts _ tw_88) (hts _ tw_89) rfl (by rw [hml]; exact hl.1) rfl d_Matches_init_1 (Nat.le_of_ble_eq_true rfl) (Nat.le_of_ble_eq_true rfl) ?_
  refine W.eq (g2 := F0 m 4 ls []) rfl ?_
  refine lv_aload_n hx hb d_Matches_init_4 rfl (lv_at hl 0 rfl) ?_
  refine lv_aload_n hx hb d_Matches_init_5 rfl (lv_at hl 1 rfl) ?_
  refine va_putF (D := E.1) (ci := 6) (v := .ref x_p1) (ty := (.object "PieceRow$Bytes")) (C := R_Matches) (T := F_Matches) (N := 3) hx hb hts i_Matches t_Matches t_Matches_ok n_Matches hown hK hP hD hS 0 rfl rfl 0 (by decide) (hts _ tw_139) (fun _ h9 => h9) rfl hnm rfl (by decide +kernel) rfl rfl (Nat.le_of_ble_eq_true rfl) d_Matches_init_6 (fun H locs hP hD hS => ?_)
  replace hP : va_P E.1 vwCl [(a_this, .inr (6, [.ref x_p1, .null, .null]))] H := hP
  replace hD : va_D A [(a_this, .inr (6, [.ref x_p1, .null, .null]))] := hD
  refine lv_aload_n hx hb d_Matches_init_9 rfl (lv_at hl 0 rfl) ?_
  refine lv_sipush (v := 4096) hx hb d_Matches_init_10 (by decide) ?_
  refine xnewI 4096 hx hb (hts _ tw_149) hK hP hD hS hA (by decide) (by decide) (by decide) (Nat.le_of_ble_eq_true rfl) (Nat.le_of_ble_eq_true rfl) d_Matches_init_13 (fun q_1 H hP hD hS => ?_)
  replace hP : va_P E.1 vwCl [(a_this, .inr (6, [.ref x_p1, .null, .null])), (q_1, .inl (E.2.1, 4096, .inl (fun _ => 0)))] H := hP
  replace hD : va_D A [(a_this, .inr (6, [.ref x_p1, .null, .null])), (q_1, .inl (E.2.1, 4096, .inl (fun _ => 0)))] := hD
  refine va_putF (D := E.1) (ci := 6) (v := .ref q_1) (ty := (.array .int)) (C := R_Matches) (T := F_Matches) (N := 3) hx hb hts i_Matches t_Matches t_Matches_ok n_Matches hown hK hP hD hS 0 rfl rfl 1 (by decide) (hts _ tw_140) (fun _ h9 => h9) rfl hnm rfl (by decide +kernel) rfl rfl (Nat.le_of_ble_eq_true rfl) d_Matches_init_15 (fun H locs hP hD hS => ?_)
  replace hP : va_P E.1 vwCl [(a_this, .inr (6, [.ref x_p1, .ref q_1, .null])), (q_1, .inl (E.2.1, 4096, .inl (fun _ => 0)))] H := hP
  replace hD : va_D A [(a_this, .inr (6, [.ref x_p1, .ref q_1, .null])), (q_1, .inl (E.2.1, 4096, .inl (fun _ => 0)))] := hD
  refine lv_aload_n hx hb d_Matches_init_18 rfl (lv_at hl 0 rfl) ?_
  refine lv_sipush (v := 8192) hx hb d_Matches_init_19 (by decide) ?_
  refine xnewI 8192 hx hb (hts _ tw_149) hK hP hD hS hA (by decide) (by decide) (by decide) (Nat.le_of_ble_eq_true rfl) (Nat.le_of_ble_eq_true rfl) d_Matches_init_22 (fun q_2 H hP hD hS => ?_)
  replace hP : va_P E.1 vwCl [(a_this, .inr (6, [.ref x_p1, .ref q_1, .null])), (q_1, .inl (E.2.1, 4096, .inl (fun _ => 0))), (q_2, .inl (E.2.1, 8192, .inl (fun _ => 0)))] H := hP
  replace hD : va_D A [(a_this, .inr (6, [.ref x_p1, .ref q_1, .null])), (q_1, .inl (E.2.1, 4096, .inl (fun _ => 0))), (q_2, .inl (E.2.1, 8192, .inl (fun _ => 0)))] := hD
  refine va_putF (D := E.1) (ci := 6) (v := .ref q_2) (ty := (.array .int)) (C := R_Matches) (T := F_Matches) (N := 3) hx hb hts i_Matches t_Matches t_Matches_ok n_Matches hown hK hP hD hS 0 rfl rfl 2 (by decide) (hts _ tw_141) (fun _ h9 => h9) rfl hnm rfl (by decide +kernel) rfl rfl (Nat.le_of_ble_eq_true rfl) d_Matches_init_24 (fun H locs hP hD hS => ?_)
  replace hP : va_P E.1 vwCl [(a_this, .inr (6, [.ref x_p1, .ref q_1, .ref q_2])), (q_1, .inl (E.2.1, 4096, .inl (fun _ => 0))), (q_2, .inl (E.2.1, 8192, .inl (fun _ => 0)))] H := hP
  replace hD : va_D A [(a_this, .inr (6, [.ref x_p1, .ref q_1, .ref q_2])), (q_1, .inl (E.2.1, 4096, .inl (fun _ => 0))), (q_2, .inl (E.2.1, 8192, .inl (fun _ => 0)))] := hD
  replace hm := Option.some.inj hm
  subst hm
  exact hret d_Matches_init_27 (u := ((), q_1, q_2)) rfl hP hD hS
theorem d_Code_init_0 : decode b_Code_init 0 = .ok (.aload_n 0, 1) := by decide +kernel
theorem d_Code_init_1 : decode b_Code_init 1 = .ok (.invokespecial 3, 3) := by decide +kernel
theorem d_Code_init_4 : decode b_Code_init 4 = .ok (.aload_n 0, 1) := by decide +kernel
theorem d_Code_init_5 : decode b_Code_init 5 = .ok (.iload_n 1, 1) := by decide +kernel
theorem d_Code_init_6 : decode b_Code_init 6 = .ok (.iconst 0, 1) := by decide +kernel
theorem d_Code_init_7 : decode b_Code_init 7 = .ok (.invokestatic 9, 3) := by decide +kernel
theorem d_Code_init_10 : decode b_Code_init 10 = .ok (.newarray .int, 2) := by decide +kernel
theorem d_Code_init_12 : decode b_Code_init 12 = .ok (.putfield 15, 3) := by decide +kernel
theorem d_Code_init_15 : decode b_Code_init 15 = .ok (.aload_n 0, 1) := by decide +kernel
theorem d_Code_init_16 : decode b_Code_init 16 = .ok (.iload_n 1, 1) := by decide +kernel
theorem d_Code_init_17 : decode b_Code_init 17 = .ok (.iconst 0, 1) := by decide +kernel
theorem d_Code_init_18 : decode b_Code_init 18 = .ok (.invokestatic 9, 3) := by decide +kernel
theorem d_Code_init_21 : decode b_Code_init 21 = .ok (.newarray .int, 2) := by decide +kernel
theorem d_Code_init_23 : decode b_Code_init 23 = .ok (.putfield 21, 3) := by decide +kernel
theorem d_Code_init_26 : decode b_Code_init 26 = .ok (.aload_n 0, 1) := by decide +kernel
theorem d_Code_init_27 : decode b_Code_init 27 = .ok (.bipush 16, 2) := by decide +kernel
theorem d_Code_init_29 : decode b_Code_init 29 = .ok (.newarray .int, 2) := by decide +kernel
theorem d_Code_init_31 : decode b_Code_init 31 = .ok (.putfield 24, 3) := by decide +kernel
theorem d_Code_init_34 : decode b_Code_init 34 = .ok (.return_, 1) := by decide +kernel
def Code_init_288 (F : Nat) : Option (Unit × Unit) :=
  some ((), ())
abbrev Code_init_288_rm : Room := { frames := 1, cells := 3, slots := 592, locals := 21 }
set_option maxHeartbeats 4000000 in
set_option maxRecDepth 100000 in
theorem c_Code_init_288 (l : Launch) (E : xE) (F sz : Nat) (a_this : Nat) (res : Unit × Unit) (hm : Code_init_288 F = some res) : Met l y_Code_init (Cond.code y_Code_init b_Code_init 2 none :: x_tb) Code_init_288_rm (va_Pc [.ref a_this, .int 288] (xPre E [(a_this, .inr (3, [.null, .null, .null]))] sz)) (xQv E (fun (u : (Unit) × Nat × Nat × Nat) => u.1 = res.2) (fun (u : (Unit) × Nat × Nat × Nat) => [(a_this, .inr (3, [.ref u.2.1, .ref u.2.2.1, .ref u.2.2.2])), (u.2.1, .inl (E.2.1, 288, .inl (fun _ => 0))), (u.2.2.1, .inl (E.2.1, 288, .inl (fun _ => 0))), (u.2.2.2, .inl (E.2.1, 16, .inl (fun _ => 0)))]) (va_A [(a_this, .inr (3, [.null, .null, .null]))] sz)) 3 592 (va_A [(a_this, .inr (3, [.null, .null, .null]))] sz) := by
  refine xEnV (by decide) (Nat.le_of_ble_eq_true rfl) ?_
  intro p e s m args below meth c A ls Q hx hb hnm hts hown hml hK hA hI hN hret hP hD hS hl
  replace hown : s.vm.findClass R_Code = some m.cls := hown
  replace hl : lv_has ls 2 [(0, .ref a_this), (1, .int 288)] := hl
  obtain ⟨H, eH⟩ : ∃ z, z = s.heap := ⟨_, rfl⟩
  obtain ⟨locs, eL⟩ : ∃ z : List Loc, z = [] := ⟨_, rfl⟩
  rw [show W p l e Code_init_288_rm s m args below meth c s.heap [] 0 0 Q (F0 m 0 ls []) = W p l e Code_init_288_rm s m args below meth c H locs 0 0 Q (F0 m 0 ls []) by rw [eH, eL]]
  replace hP : va_P E.1 vwCl [(a_this, .inr (3, [.null, .null, .null]))] H := by rw [eH]; exact hP
  replace hS : va_S A s.heap H locs := by rw [eH, eL]; exact hS
  clear eH eL
  rw [Code_init_288] at hm
  refine lv_aload_n hx hb d_Code_init_0 rfl (lv_at hl 0 rfl) ?_
  refine W.objInit hx hb hown (hts _ tw_188) (hts _ tw_88) (hts _ tw_89) rfl (by rw [hml]; exact hl.1) rfl d_Code_init_1 (Nat.le_of_ble_eq_true rfl) (Nat.le_of_ble_eq_true rfl) ?_
  refine W.eq (g2 := F0 m 4 ls []) rfl ?_
  refine lv_aload_n hx hb d_Code_init_4 rfl (lv_at hl 0 rfl) ?_
  refine lv_iload_n hx hb d_Code_init_5 rfl (lv_at hl 1 rfl) ?_
  refine lv_iconst (v := 0) hx hb d_Code_init_6 (by decide) ?_
  refine va_mmax hx hb (hml.trans hl.1.symm) hown (hts _ tw_189) (hts _ tw_97) (hts _ tw_68) (hts _ tw_98) (Nat.le_of_ble_eq_true rfl) (Nat.le_of_ble_eq_true rfl) (Nat.le_of_ble_eq_true rfl) (Nat.le_of_ble_eq_true rfl) d_Code_init_7 ?_
  rw [show (if (288 : Int32) < 0 then 0 else 288) = (288 : Int32) from by decide]
  refine xnewI 288 hx hb (hts _ tw_149) hK hP hD hS hA (by decide) (by decide) (by decide) (Nat.le_of_ble_eq_true rfl) (Nat.le_of_ble_eq_true rfl) d_Code_init_10 (fun q_1 H hP hD hS => ?_)
  replace hP : va_P E.1 vwCl [(a_this, .inr (3, [.null, .null, .null])), (q_1, .inl (E.2.1, 288, .inl (fun _ => 0)))] H := hP
  replace hD : va_D A [(a_this, .inr (3, [.null, .null, .null])), (q_1, .inl (E.2.1, 288, .inl (fun _ => 0)))] := hD
  refine va_putF (D := E.1) (ci := 3) (v := .ref q_1) (ty := (.array .int)) (C := R_Code) (T := F_Code) (N := 3) hx hb hts i_Code t_Code t_Code_ok n_Code hown hK hP hD hS 0 rfl rfl 0 (by decide) (hts _ tw_190) (fun _ h9 => h9) rfl hnm rfl (by decide +kernel) rfl rfl (Nat.le_of_ble_eq_true rfl) d_Code_init_12 (fun H locs hP hD hS => ?_)
  replace hP : va_P E.1 vwCl [(a_this, .inr (3, [.ref q_1, .null, .null])), (q_1, .inl (E.2.1, 288, .inl (fun _ => 0)))] H := hP
  replace hD : va_D A [(a_this, .inr (3, [.ref q_1, .null, .null])), (q_1, .inl (E.2.1, 288, .inl (fun _ => 0)))] := hD
  refine lv_aload_n hx hb d_Code_init_15 rfl (lv_at hl 0 rfl) ?_
  refine lv_iload_n hx hb d_Code_init_16 rfl (lv_at hl 1 rfl) ?_
  refine lv_iconst (v := 0) hx hb d_Code_init_17 (by decide) ?_
  refine va_mmax hx hb (hml.trans hl.1.symm) hown (hts _ tw_189) (hts _ tw_97) (hts _ tw_68) (hts _ tw_98) (Nat.le_of_ble_eq_true rfl) (Nat.le_of_ble_eq_true rfl) (Nat.le_of_ble_eq_true rfl) (Nat.le_of_ble_eq_true rfl) d_Code_init_18 ?_
  rw [show (if (288 : Int32) < 0 then 0 else 288) = (288 : Int32) from by decide]
  refine xnewI 288 hx hb (hts _ tw_149) hK hP hD hS hA (by decide) (by decide) (by decide) (Nat.le_of_ble_eq_true rfl) (Nat.le_of_ble_eq_true rfl) d_Code_init_21 (fun q_2 H hP hD hS => ?_)
  replace hP : va_P E.1 vwCl [(a_this, .inr (3, [.ref q_1, .null, .null])), (q_1, .inl (E.2.1, 288, .inl (fun _ => 0))), (q_2, .inl (E.2.1, 288, .inl (fun _ => 0)))] H := hP
  replace hD : va_D A [(a_this, .inr (3, [.ref q_1, .null, .null])), (q_1, .inl (E.2.1, 288, .inl (fun _ => 0))), (q_2, .inl (E.2.1, 288, .inl (fun _ => 0)))] := hD
  refine va_putF (D := E.1) (ci := 3) (v := .ref q_2) (ty := (.array .int)) (C := R_Code) (T := F_Code) (N := 3) hx hb hts i_Code t_Code t_Code_ok n_Code hown hK hP hD hS 0 rfl rfl 1 (by decide) (hts _ tw_193) (fun _ h9 => h9) rfl hnm rfl (by decide +kernel) rfl rfl (Nat.le_of_ble_eq_true rfl) d_Code_init_23 (fun H locs hP hD hS => ?_)
  replace hP : va_P E.1 vwCl [(a_this, .inr (3, [.ref q_1, .ref q_2, .null])), (q_1, .inl (E.2.1, 288, .inl (fun _ => 0))), (q_2, .inl (E.2.1, 288, .inl (fun _ => 0)))] H := hP
  replace hD : va_D A [(a_this, .inr (3, [.ref q_1, .ref q_2, .null])), (q_1, .inl (E.2.1, 288, .inl (fun _ => 0))), (q_2, .inl (E.2.1, 288, .inl (fun _ => 0)))] := hD
  refine lv_aload_n hx hb d_Code_init_26 rfl (lv_at hl 0 rfl) ?_
  refine lv_bipush (v := 16) hx hb d_Code_init_27 (by decide) ?_
  refine xnewI 16 hx hb (hts _ tw_149) hK hP hD hS hA (by decide) (by decide) (by decide) (Nat.le_of_ble_eq_true rfl) (Nat.le_of_ble_eq_true rfl) d_Code_init_29 (fun q_3 H hP hD hS => ?_)
  replace hP : va_P E.1 vwCl [(a_this, .inr (3, [.ref q_1, .ref q_2, .null])), (q_1, .inl (E.2.1, 288, .inl (fun _ => 0))), (q_2, .inl (E.2.1, 288, .inl (fun _ => 0))), (q_3, .inl (E.2.1, 16, .inl (fun _ => 0)))] H := hP
  replace hD : va_D A [(a_this, .inr (3, [.ref q_1, .ref q_2, .null])), (q_1, .inl (E.2.1, 288, .inl (fun _ => 0))), (q_2, .inl (E.2.1, 288, .inl (fun _ => 0))), (q_3, .inl (E.2.1, 16, .inl (fun _ => 0)))] := hD
  refine va_putF (D := E.1) (ci := 3) (v := .ref q_3) (ty := (.array .int)) (C := R_Code) (T := F_Code) (N := 3) hx hb hts i_Code t_Code t_Code_ok n_Code hown hK hP hD hS 0 rfl rfl 2 (by decide) (hts _ tw_194) (fun _ h9 => h9) rfl hnm rfl (by decide +kernel) rfl rfl (Nat.le_of_ble_eq_true rfl) d_Code_init_31 (fun H locs hP hD hS => ?_)
  replace hP : va_P E.1 vwCl [(a_this, .inr (3, [.ref q_1, .ref q_2, .ref q_3])), (q_1, .inl (E.2.1, 288, .inl (fun _ => 0))), (q_2, .inl (E.2.1, 288, .inl (fun _ => 0))), (q_3, .inl (E.2.1, 16, .inl (fun _ => 0)))] H := hP
  replace hD : va_D A [(a_this, .inr (3, [.ref q_1, .ref q_2, .ref q_3])), (q_1, .inl (E.2.1, 288, .inl (fun _ => 0))), (q_2, .inl (E.2.1, 288, .inl (fun _ => 0))), (q_3, .inl (E.2.1, 16, .inl (fun _ => 0)))] := hD
  replace hm := Option.some.inj hm
  subst hm
  exact hret d_Code_init_34 (u := ((), q_1, q_2, q_3)) rfl hP hD hS
def Code_init_32 (F : Nat) : Option (Unit × Unit) :=
  some ((), ())
abbrev Code_init_32_rm : Room := { frames := 1, cells := 3, slots := 80, locals := 21 }
set_option maxHeartbeats 4000000 in
set_option maxRecDepth 100000 in
theorem c_Code_init_32 (l : Launch) (E : xE) (F sz : Nat) (a_this : Nat) (res : Unit × Unit) (hm : Code_init_32 F = some res) : Met l y_Code_init (Cond.code y_Code_init b_Code_init 2 none :: x_tb) Code_init_32_rm (va_Pc [.ref a_this, .int 32] (xPre E [(a_this, .inr (3, [.null, .null, .null]))] sz)) (xQv E (fun (u : (Unit) × Nat × Nat × Nat) => u.1 = res.2) (fun (u : (Unit) × Nat × Nat × Nat) => [(a_this, .inr (3, [.ref u.2.1, .ref u.2.2.1, .ref u.2.2.2])), (u.2.1, .inl (E.2.1, 32, .inl (fun _ => 0))), (u.2.2.1, .inl (E.2.1, 32, .inl (fun _ => 0))), (u.2.2.2, .inl (E.2.1, 16, .inl (fun _ => 0)))]) (va_A [(a_this, .inr (3, [.null, .null, .null]))] sz)) 3 80 (va_A [(a_this, .inr (3, [.null, .null, .null]))] sz) := by
  refine xEnV (by decide) (Nat.le_of_ble_eq_true rfl) ?_
  intro p e s m args below meth c A ls Q hx hb hnm hts hown hml hK hA hI hN hret hP hD hS hl
  replace hown : s.vm.findClass R_Code = some m.cls := hown
  replace hl : lv_has ls 2 [(0, .ref a_this), (1, .int 32)] := hl
  obtain ⟨H, eH⟩ : ∃ z, z = s.heap := ⟨_, rfl⟩
  obtain ⟨locs, eL⟩ : ∃ z : List Loc, z = [] := ⟨_, rfl⟩
  rw [show W p l e Code_init_32_rm s m args below meth c s.heap [] 0 0 Q (F0 m 0 ls []) = W p l e Code_init_32_rm s m args below meth c H locs 0 0 Q (F0 m 0 ls []) by rw [eH, eL]]
  replace hP : va_P E.1 vwCl [(a_this, .inr (3, [.null, .null, .null]))] H := by rw [eH]; exact hP
  replace hS : va_S A s.heap H locs := by rw [eH, eL]; exact hS
  clear eH eL
  rw [Code_init_32] at hm
  refine lv_aload_n hx hb d_Code_init_0 rfl (lv_at hl 0 rfl) ?_
  refine W.objInit hx hb hown (hts _ tw_188) (hts _ tw_88) (hts _ tw_89) rfl (by rw [hml]; exact hl.1) rfl d_Code_init_1 (Nat.le_of_ble_eq_true rfl) (Nat.le_of_ble_eq_true rfl) ?_
  refine W.eq (g2 := F0 m 4 ls []) rfl ?_
  refine lv_aload_n hx hb d_Code_init_4 rfl (lv_at hl 0 rfl) ?_
  refine lv_iload_n hx hb d_Code_init_5 rfl (lv_at hl 1 rfl) ?_
  refine lv_iconst (v := 0) hx hb d_Code_init_6 (by decide) ?_
  refine va_mmax hx hb (hml.trans hl.1.symm) hown (hts _ tw_189) (hts _ tw_97) (hts _ tw_68) (hts _ tw_98) (Nat.le_of_ble_eq_true rfl) (Nat.le_of_ble_eq_true rfl) (Nat.le_of_ble_eq_true rfl) (Nat.le_of_ble_eq_true rfl) d_Code_init_7 ?_
  rw [show (if (32 : Int32) < 0 then 0 else 32) = (32 : Int32) from by decide]
  refine xnewI 32 hx hb (hts _ tw_149) hK hP hD hS hA (by decide) (by decide) (by decide) (Nat.le_of_ble_eq_true rfl) (Nat.le_of_ble_eq_true rfl) d_Code_init_10 (fun q_1 H hP hD hS => ?_)
  replace hP : va_P E.1 vwCl [(a_this, .inr (3, [.null, .null, .null])), (q_1, .inl (E.2.1, 32, .inl (fun _ => 0)))] H := hP
  replace hD : va_D A [(a_this, .inr (3, [.null, .null, .null])), (q_1, .inl (E.2.1, 32, .inl (fun _ => 0)))] := hD
  refine va_putF (D := E.1) (ci := 3) (v := .ref q_1) (ty := (.array .int)) (C := R_Code) (T := F_Code) (N := 3) hx hb hts i_Code t_Code t_Code_ok n_Code hown hK hP hD hS 0 rfl rfl 0 (by decide) (hts _ tw_190) (fun _ h9 => h9) rfl hnm rfl (by decide +kernel) rfl rfl (Nat.le_of_ble_eq_true rfl) d_Code_init_12 (fun H locs hP hD hS => ?_)
  replace hP : va_P E.1 vwCl [(a_this, .inr (3, [.ref q_1, .null, .null])), (q_1, .inl (E.2.1, 32, .inl (fun _ => 0)))] H := hP
  replace hD : va_D A [(a_this, .inr (3, [.ref q_1, .null, .null])), (q_1, .inl (E.2.1, 32, .inl (fun _ => 0)))] := hD
  refine lv_aload_n hx hb d_Code_init_15 rfl (lv_at hl 0 rfl) ?_
  refine lv_iload_n hx hb d_Code_init_16 rfl (lv_at hl 1 rfl) ?_
  refine lv_iconst (v := 0) hx hb d_Code_init_17 (by decide) ?_
  refine va_mmax hx hb (hml.trans hl.1.symm) hown (hts _ tw_189) (hts _ tw_97) (hts _ tw_68) (hts _ tw_98) (Nat.le_of_ble_eq_true rfl) (Nat.le_of_ble_eq_true rfl) (Nat.le_of_ble_eq_true rfl) (Nat.le_of_ble_eq_true rfl) d_Code_init_18 ?_
  rw [show (if (32 : Int32) < 0 then 0 else 32) = (32 : Int32) from by decide]
  refine xnewI 32 hx hb (hts _ tw_149) hK hP hD hS hA (by decide) (by decide) (by decide) (Nat.le_of_ble_eq_true rfl) (Nat.le_of_ble_eq_true rfl) d_Code_init_21 (fun q_2 H hP hD hS => ?_)
  replace hP : va_P E.1 vwCl [(a_this, .inr (3, [.ref q_1, .null, .null])), (q_1, .inl (E.2.1, 32, .inl (fun _ => 0))), (q_2, .inl (E.2.1, 32, .inl (fun _ => 0)))] H := hP
  replace hD : va_D A [(a_this, .inr (3, [.ref q_1, .null, .null])), (q_1, .inl (E.2.1, 32, .inl (fun _ => 0))), (q_2, .inl (E.2.1, 32, .inl (fun _ => 0)))] := hD
  refine va_putF (D := E.1) (ci := 3) (v := .ref q_2) (ty := (.array .int)) (C := R_Code) (T := F_Code) (N := 3) hx hb hts i_Code t_Code t_Code_ok n_Code hown hK hP hD hS 0 rfl rfl 1 (by decide) (hts _ tw_193) (fun _ h9 => h9) rfl hnm rfl (by decide +kernel) rfl rfl (Nat.le_of_ble_eq_true rfl) d_Code_init_23 (fun H locs hP hD hS => ?_)
  replace hP : va_P E.1 vwCl [(a_this, .inr (3, [.ref q_1, .ref q_2, .null])), (q_1, .inl (E.2.1, 32, .inl (fun _ => 0))), (q_2, .inl (E.2.1, 32, .inl (fun _ => 0)))] H := hP
  replace hD : va_D A [(a_this, .inr (3, [.ref q_1, .ref q_2, .null])), (q_1, .inl (E.2.1, 32, .inl (fun _ => 0))), (q_2, .inl (E.2.1, 32, .inl (fun _ => 0)))] := hD
  refine lv_aload_n hx hb d_Code_init_26 rfl (lv_at hl 0 rfl) ?_
  refine lv_bipush (v := 16) hx hb d_Code_init_27 (by decide) ?_
  refine xnewI 16 hx hb (hts _ tw_149) hK hP hD hS hA (by decide) (by decide) (by decide) (Nat.le_of_ble_eq_true rfl) (Nat.le_of_ble_eq_true rfl) d_Code_init_29 (fun q_3 H hP hD hS => ?_)
  replace hP : va_P E.1 vwCl [(a_this, .inr (3, [.ref q_1, .ref q_2, .null])), (q_1, .inl (E.2.1, 32, .inl (fun _ => 0))), (q_2, .inl (E.2.1, 32, .inl (fun _ => 0))), (q_3, .inl (E.2.1, 16, .inl (fun _ => 0)))] H := hP
  replace hD : va_D A [(a_this, .inr (3, [.ref q_1, .ref q_2, .null])), (q_1, .inl (E.2.1, 32, .inl (fun _ => 0))), (q_2, .inl (E.2.1, 32, .inl (fun _ => 0))), (q_3, .inl (E.2.1, 16, .inl (fun _ => 0)))] := hD
  refine va_putF (D := E.1) (ci := 3) (v := .ref q_3) (ty := (.array .int)) (C := R_Code) (T := F_Code) (N := 3) hx hb hts i_Code t_Code t_Code_ok n_Code hown hK hP hD hS 0 rfl rfl 2 (by decide) (hts _ tw_194) (fun _ h9 => h9) rfl hnm rfl (by decide +kernel) rfl rfl (Nat.le_of_ble_eq_true rfl) d_Code_init_31 (fun H locs hP hD hS => ?_)
  replace hP : va_P E.1 vwCl [(a_this, .inr (3, [.ref q_1, .ref q_2, .ref q_3])), (q_1, .inl (E.2.1, 32, .inl (fun _ => 0))), (q_2, .inl (E.2.1, 32, .inl (fun _ => 0))), (q_3, .inl (E.2.1, 16, .inl (fun _ => 0)))] H := hP
  replace hD : va_D A [(a_this, .inr (3, [.ref q_1, .ref q_2, .ref q_3])), (q_1, .inl (E.2.1, 32, .inl (fun _ => 0))), (q_2, .inl (E.2.1, 32, .inl (fun _ => 0))), (q_3, .inl (E.2.1, 16, .inl (fun _ => 0)))] := hD
  replace hm := Option.some.inj hm
  subst hm
  exact hret d_Code_init_34 (u := ((), q_1, q_2, q_3)) rfl hP hD hS
def Code_init_286 (F : Nat) : Option (Unit × Unit) :=
  some ((), ())
abbrev Code_init_286_rm : Room := { frames := 1, cells := 3, slots := 588, locals := 21 }
set_option maxHeartbeats 4000000 in
set_option maxRecDepth 100000 in
theorem c_Code_init_286 (l : Launch) (E : xE) (F sz : Nat) (a_this : Nat) (res : Unit × Unit) (hm : Code_init_286 F = some res) : Met l y_Code_init (Cond.code y_Code_init b_Code_init 2 none :: x_tb) Code_init_286_rm (va_Pc [.ref a_this, .int 286] (xPre E [(a_this, .inr (3, [.null, .null, .null]))] sz)) (xQv E (fun (u : (Unit) × Nat × Nat × Nat) => u.1 = res.2) (fun (u : (Unit) × Nat × Nat × Nat) => [(a_this, .inr (3, [.ref u.2.1, .ref u.2.2.1, .ref u.2.2.2])), (u.2.1, .inl (E.2.1, 286, .inl (fun _ => 0))), (u.2.2.1, .inl (E.2.1, 286, .inl (fun _ => 0))), (u.2.2.2, .inl (E.2.1, 16, .inl (fun _ => 0)))]) (va_A [(a_this, .inr (3, [.null, .null, .null]))] sz)) 3 588 (va_A [(a_this, .inr (3, [.null, .null, .null]))] sz) := by
  refine xEnV (by decide) (Nat.le_of_ble_eq_true rfl) ?_
  intro p e s m args below meth c A ls Q hx hb hnm hts hown hml hK hA hI hN hret hP hD hS hl
  replace hown : s.vm.findClass R_Code = some m.cls := hown
  replace hl : lv_has ls 2 [(0, .ref a_this), (1, .int 286)] := hl
  obtain ⟨H, eH⟩ : ∃ z, z = s.heap := ⟨_, rfl⟩
  obtain ⟨locs, eL⟩ : ∃ z : List Loc, z = [] := ⟨_, rfl⟩
  rw [show W p l e Code_init_286_rm s m args below meth c s.heap [] 0 0 Q (F0 m 0 ls []) = W p l e Code_init_286_rm s m args below meth c H locs 0 0 Q (F0 m 0 ls []) by rw [eH, eL]]
  replace hP : va_P E.1 vwCl [(a_this, .inr (3, [.null, .null, .null]))] H := by rw [eH]; exact hP
  replace hS : va_S A s.heap H locs := by rw [eH, eL]; exact hS
  clear eH eL
  rw [Code_init_286] at hm
  refine lv_aload_n hx hb d_Code_init_0 rfl (lv_at hl 0 rfl) ?_
  refine W.objInit hx hb hown (hts _ tw_188) (hts _ tw_88) (hts _ tw_89) rfl (by rw [hml]; exact hl.1) rfl d_Code_init_1 (Nat.le_of_ble_eq_true rfl) (Nat.le_of_ble_eq_true rfl) ?_
  refine W.eq (g2 := F0 m 4 ls []) rfl ?_
  refine lv_aload_n hx hb d_Code_init_4 rfl (lv_at hl 0 rfl) ?_
  refine lv_iload_n hx hb d_Code_init_5 rfl (lv_at hl 1 rfl) ?_
  refine lv_iconst (v := 0) hx hb d_Code_init_6 (by decide) ?_
  refine va_mmax hx hb (hml.trans hl.1.symm) hown (hts _ tw_189) (hts _ tw_97) (hts _ tw_68) (hts _ tw_98) (Nat.le_of_ble_eq_true rfl) (Nat.le_of_ble_eq_true rfl) (Nat.le_of_ble_eq_true rfl) (Nat.le_of_ble_eq_true rfl) d_Code_init_7 ?_
  rw [show (if (286 : Int32) < 0 then 0 else 286) = (286 : Int32) from by decide]
  refine xnewI 286 hx hb (hts _ tw_149) hK hP hD hS hA (by decide) (by decide) (by decide) (Nat.le_of_ble_eq_true rfl) (Nat.le_of_ble_eq_true rfl) d_Code_init_10 (fun q_1 H hP hD hS => ?_)
  replace hP : va_P E.1 vwCl [(a_this, .inr (3, [.null, .null, .null])), (q_1, .inl (E.2.1, 286, .inl (fun _ => 0)))] H := hP
  replace hD : va_D A [(a_this, .inr (3, [.null, .null, .null])), (q_1, .inl (E.2.1, 286, .inl (fun _ => 0)))] := hD
  refine va_putF (D := E.1) (ci := 3) (v := .ref q_1) (ty := (.array .int)) (C := R_Code) (T := F_Code) (N := 3) hx hb hts i_Code t_Code t_Code_ok n_Code hown hK hP hD hS 0 rfl rfl 0 (by decide) (hts _ tw_190) (fun _ h9 => h9) rfl hnm rfl (by decide +kernel) rfl rfl (Nat.le_of_ble_eq_true rfl) d_Code_init_12 (fun H locs hP hD hS => ?_)
  replace hP : va_P E.1 vwCl [(a_this, .inr (3, [.ref q_1, .null, .null])), (q_1, .inl (E.2.1, 286, .inl (fun _ => 0)))] H := hP
  replace hD : va_D A [(a_this, .inr (3, [.ref q_1, .null, .null])), (q_1, .inl (E.2.1, 286, .inl (fun _ => 0)))] := hD
  refine lv_aload_n hx hb d_Code_init_15 rfl (lv_at hl 0 rfl) ?_
  refine lv_iload_n hx hb d_Code_init_16 rfl (lv_at hl 1 rfl) ?_
  refine lv_iconst (v := 0) hx hb d_Code_init_17 (by decide) ?_
  refine va_mmax hx hb (hml.trans hl.1.symm) hown (hts _ tw_189) (hts _ tw_97) (hts _ tw_68) (hts _ tw_98) (Nat.le_of_ble_eq_true rfl) (Nat.le_of_ble_eq_true rfl) (Nat.le_of_ble_eq_true rfl) (Nat.le_of_ble_eq_true rfl) d_Code_init_18 ?_
  rw [show (if (286 : Int32) < 0 then 0 else 286) = (286 : Int32) from by decide]
  refine xnewI 286 hx hb (hts _ tw_149) hK hP hD hS hA (by decide) (by decide) (by decide) (Nat.le_of_ble_eq_true rfl) (Nat.le_of_ble_eq_true rfl) d_Code_init_21 (fun q_2 H hP hD hS => ?_)
  replace hP : va_P E.1 vwCl [(a_this, .inr (3, [.ref q_1, .null, .null])), (q_1, .inl (E.2.1, 286, .inl (fun _ => 0))), (q_2, .inl (E.2.1, 286, .inl (fun _ => 0)))] H := hP
  replace hD : va_D A [(a_this, .inr (3, [.ref q_1, .null, .null])), (q_1, .inl (E.2.1, 286, .inl (fun _ => 0))), (q_2, .inl (E.2.1, 286, .inl (fun _ => 0)))] := hD
  refine va_putF (D := E.1) (ci := 3) (v := .ref q_2) (ty := (.array .int)) (C := R_Code) (T := F_Code) (N := 3) hx hb hts i_Code t_Code t_Code_ok n_Code hown hK hP hD hS 0 rfl rfl 1 (by decide) (hts _ tw_193) (fun _ h9 => h9) rfl hnm rfl (by decide +kernel) rfl rfl (Nat.le_of_ble_eq_true rfl) d_Code_init_23 (fun H locs hP hD hS => ?_)
  replace hP : va_P E.1 vwCl [(a_this, .inr (3, [.ref q_1, .ref q_2, .null])), (q_1, .inl (E.2.1, 286, .inl (fun _ => 0))), (q_2, .inl (E.2.1, 286, .inl (fun _ => 0)))] H := hP
  replace hD : va_D A [(a_this, .inr (3, [.ref q_1, .ref q_2, .null])), (q_1, .inl (E.2.1, 286, .inl (fun _ => 0))), (q_2, .inl (E.2.1, 286, .inl (fun _ => 0)))] := hD
  refine lv_aload_n hx hb d_Code_init_26 rfl (lv_at hl 0 rfl) ?_
  refine lv_bipush (v := 16) hx hb d_Code_init_27 (by decide) ?_
  refine xnewI 16 hx hb (hts _ tw_149) hK hP hD hS hA (by decide) (by decide) (by decide) (Nat.le_of_ble_eq_true rfl) (Nat.le_of_ble_eq_true rfl) d_Code_init_29 (fun q_3 H hP hD hS => ?_)
  replace hP : va_P E.1 vwCl [(a_this, .inr (3, [.ref q_1, .ref q_2, .null])), (q_1, .inl (E.2.1, 286, .inl (fun _ => 0))), (q_2, .inl (E.2.1, 286, .inl (fun _ => 0))), (q_3, .inl (E.2.1, 16, .inl (fun _ => 0)))] H := hP
  replace hD : va_D A [(a_this, .inr (3, [.ref q_1, .ref q_2, .null])), (q_1, .inl (E.2.1, 286, .inl (fun _ => 0))), (q_2, .inl (E.2.1, 286, .inl (fun _ => 0))), (q_3, .inl (E.2.1, 16, .inl (fun _ => 0)))] := hD
  refine va_putF (D := E.1) (ci := 3) (v := .ref q_3) (ty := (.array .int)) (C := R_Code) (T := F_Code) (N := 3) hx hb hts i_Code t_Code t_Code_ok n_Code hown hK hP hD hS 0 rfl rfl 2 (by decide) (hts _ tw_194) (fun _ h9 => h9) rfl hnm rfl (by decide +kernel) rfl rfl (Nat.le_of_ble_eq_true rfl) d_Code_init_31 (fun H locs hP hD hS => ?_)
  replace hP : va_P E.1 vwCl [(a_this, .inr (3, [.ref q_1, .ref q_2, .ref q_3])), (q_1, .inl (E.2.1, 286, .inl (fun _ => 0))), (q_2, .inl (E.2.1, 286, .inl (fun _ => 0))), (q_3, .inl (E.2.1, 16, .inl (fun _ => 0)))] H := hP
  replace hD : va_D A [(a_this, .inr (3, [.ref q_1, .ref q_2, .ref q_3])), (q_1, .inl (E.2.1, 286, .inl (fun _ => 0))), (q_2, .inl (E.2.1, 286, .inl (fun _ => 0))), (q_3, .inl (E.2.1, 16, .inl (fun _ => 0)))] := hD
  replace hm := Option.some.inj hm
  subst hm
  exact hret d_Code_init_34 (u := ((), q_1, q_2, q_3)) rfl hP hD hS
def Code_init_30 (F : Nat) : Option (Unit × Unit) :=
  some ((), ())
abbrev Code_init_30_rm : Room := { frames := 1, cells := 3, slots := 76, locals := 21 }
set_option maxHeartbeats 4000000 in
set_option maxRecDepth 100000 in
theorem c_Code_init_30 (l : Launch) (E : xE) (F sz : Nat) (a_this : Nat) (res : Unit × Unit) (hm : Code_init_30 F = some res) : Met l y_Code_init (Cond.code y_Code_init b_Code_init 2 none :: x_tb) Code_init_30_rm (va_Pc [.ref a_this, .int 30] (xPre E [(a_this, .inr (3, [.null, .null, .null]))] sz)) (xQv E (fun (u : (Unit) × Nat × Nat × Nat) => u.1 = res.2) (fun (u : (Unit) × Nat × Nat × Nat) => [(a_this, .inr (3, [.ref u.2.1, .ref u.2.2.1, .ref u.2.2.2])), (u.2.1, .inl (E.2.1, 30, .inl (fun _ => 0))), (u.2.2.1, .inl (E.2.1, 30, .inl (fun _ => 0))), (u.2.2.2, .inl (E.2.1, 16, .inl (fun _ => 0)))]) (va_A [(a_this, .inr (3, [.null, .null, .null]))] sz)) 3 76 (va_A [(a_this, .inr (3, [.null, .null, .null]))] sz) := by
  refine xEnV (by decide) (Nat.le_of_ble_eq_true rfl) ?_
  intro p e s m args below meth c A ls Q hx hb hnm hts hown hml hK hA hI hN hret hP hD hS hl
  replace hown : s.vm.findClass R_Code = some m.cls := hown
  replace hl : lv_has ls 2 [(0, .ref a_this), (1, .int 30)] := hl
  obtain ⟨H, eH⟩ : ∃ z, z = s.heap := ⟨_, rfl⟩
  obtain ⟨locs, eL⟩ : ∃ z : List Loc, z = [] := ⟨_, rfl⟩
  rw [show W p l e Code_init_30_rm s m args below meth c s.heap [] 0 0 Q (F0 m 0 ls []) = W p l e Code_init_30_rm s m args below meth c H locs 0 0 Q (F0 m 0 ls []) by rw [eH, eL]]
  replace hP : va_P E.1 vwCl [(a_this, .inr (3, [.null, .null, .null]))] H := by rw [eH]; exact hP
  replace hS : va_S A s.heap H locs := by rw [eH, eL]; exact hS
  clear eH eL
  rw [Code_init_30] at hm
  refine lv_aload_n hx hb d_Code_init_0 rfl (lv_at hl 0 rfl) ?_
  refine W.objInit hx hb hown (hts _ tw_188) (hts _ tw_88) (hts _ tw_89) rfl (by rw [hml]; exact hl.1) rfl d_Code_init_1 (Nat.le_of_ble_eq_true rfl) (Nat.le_of_ble_eq_true rfl) ?_
  refine W.eq (g2 := F0 m 4 ls []) rfl ?_
  refine lv_aload_n hx hb d_Code_init_4 rfl (lv_at hl 0 rfl) ?_
  refine lv_iload_n hx hb d_Code_init_5 rfl (lv_at hl 1 rfl) ?_
  refine lv_iconst (v := 0) hx hb d_Code_init_6 (by decide) ?_
  refine va_mmax hx hb (hml.trans hl.1.symm) hown (hts _ tw_189) (hts _ tw_97) (hts _ tw_68) (hts _ tw_98) (Nat.le_of_ble_eq_true rfl) (Nat.le_of_ble_eq_true rfl) (Nat.le_of_ble_eq_true rfl) (Nat.le_of_ble_eq_true rfl) d_Code_init_7 ?_
  rw [show (if (30 : Int32) < 0 then 0 else 30) = (30 : Int32) from by decide]
  refine xnewI 30 hx hb (hts _ tw_149) hK hP hD hS hA (by decide) (by decide) (by decide) (Nat.le_of_ble_eq_true rfl) (Nat.le_of_ble_eq_true rfl) d_Code_init_10 (fun q_1 H hP hD hS => ?_)
  replace hP : va_P E.1 vwCl [(a_this, .inr (3, [.null, .null, .null])), (q_1, .inl (E.2.1, 30, .inl (fun _ => 0)))] H := hP
  replace hD : va_D A [(a_this, .inr (3, [.null, .null, .null])), (q_1, .inl (E.2.1, 30, .inl (fun _ => 0)))] := hD
  refine va_putF (D := E.1) (ci := 3) (v := .ref q_1) (ty := (.array .int)) (C := R_Code) (T := F_Code) (N := 3) hx hb hts i_Code t_Code t_Code_ok n_Code hown hK hP hD hS 0 rfl rfl 0 (by decide) (hts _ tw_190) (fun _ h9 => h9) rfl hnm rfl (by decide +kernel) rfl rfl (Nat.le_of_ble_eq_true rfl) d_Code_init_12 (fun H locs hP hD hS => ?_)
  replace hP : va_P E.1 vwCl [(a_this, .inr (3, [.ref q_1, .null, .null])), (q_1, .inl (E.2.1, 30, .inl (fun _ => 0)))] H := hP
  replace hD : va_D A [(a_this, .inr (3, [.ref q_1, .null, .null])), (q_1, .inl (E.2.1, 30, .inl (fun _ => 0)))] := hD
  refine lv_aload_n hx hb d_Code_init_15 rfl (lv_at hl 0 rfl) ?_
  refine lv_iload_n hx hb d_Code_init_16 rfl (lv_at hl 1 rfl) ?_
  refine lv_iconst (v := 0) hx hb d_Code_init_17 (by decide) ?_
  refine va_mmax hx hb (hml.trans hl.1.symm) hown (hts _ tw_189) (hts _ tw_97) (hts _ tw_68) (hts _ tw_98) (Nat.le_of_ble_eq_true rfl) (Nat.le_of_ble_eq_true rfl) (Nat.le_of_ble_eq_true rfl) (Nat.le_of_ble_eq_true rfl) d_Code_init_18 ?_
  rw [show (if (30 : Int32) < 0 then 0 else 30) = (30 : Int32) from by decide]
  refine xnewI 30 hx hb (hts _ tw_149) hK hP hD hS hA (by decide) (by decide) (by decide) (Nat.le_of_ble_eq_true rfl) (Nat.le_of_ble_eq_true rfl) d_Code_init_21 (fun q_2 H hP hD hS => ?_)
  replace hP : va_P E.1 vwCl [(a_this, .inr (3, [.ref q_1, .null, .null])), (q_1, .inl (E.2.1, 30, .inl (fun _ => 0))), (q_2, .inl (E.2.1, 30, .inl (fun _ => 0)))] H := hP
  replace hD : va_D A [(a_this, .inr (3, [.ref q_1, .null, .null])), (q_1, .inl (E.2.1, 30, .inl (fun _ => 0))), (q_2, .inl (E.2.1, 30, .inl (fun _ => 0)))] := hD
  refine va_putF (D := E.1) (ci := 3) (v := .ref q_2) (ty := (.array .int)) (C := R_Code) (T := F_Code) (N := 3) hx hb hts i_Code t_Code t_Code_ok n_Code hown hK hP hD hS 0 rfl rfl 1 (by decide) (hts _ tw_193) (fun _ h9 => h9) rfl hnm rfl (by decide +kernel) rfl rfl (Nat.le_of_ble_eq_true rfl) d_Code_init_23 (fun H locs hP hD hS => ?_)
  replace hP : va_P E.1 vwCl [(a_this, .inr (3, [.ref q_1, .ref q_2, .null])), (q_1, .inl (E.2.1, 30, .inl (fun _ => 0))), (q_2, .inl (E.2.1, 30, .inl (fun _ => 0)))] H := hP
  replace hD : va_D A [(a_this, .inr (3, [.ref q_1, .ref q_2, .null])), (q_1, .inl (E.2.1, 30, .inl (fun _ => 0))), (q_2, .inl (E.2.1, 30, .inl (fun _ => 0)))] := hD
  refine lv_aload_n hx hb d_Code_init_26 rfl (lv_at hl 0 rfl) ?_
  refine lv_bipush (v := 16) hx hb d_Code_init_27 (by decide) ?_
  refine xnewI 16 hx hb (hts _ tw_149) hK hP hD hS hA (by decide) (by decide) (by decide) (Nat.le_of_ble_eq_true rfl) (Nat.le_of_ble_eq_true rfl) d_Code_init_29 (fun q_3 H hP hD hS => ?_)
  replace hP : va_P E.1 vwCl [(a_this, .inr (3, [.ref q_1, .ref q_2, .null])), (q_1, .inl (E.2.1, 30, .inl (fun _ => 0))), (q_2, .inl (E.2.1, 30, .inl (fun _ => 0))), (q_3, .inl (E.2.1, 16, .inl (fun _ => 0)))] H := hP
  replace hD : va_D A [(a_this, .inr (3, [.ref q_1, .ref q_2, .null])), (q_1, .inl (E.2.1, 30, .inl (fun _ => 0))), (q_2, .inl (E.2.1, 30, .inl (fun _ => 0))), (q_3, .inl (E.2.1, 16, .inl (fun _ => 0)))] := hD
  refine va_putF (D := E.1) (ci := 3) (v := .ref q_3) (ty := (.array .int)) (C := R_Code) (T := F_Code) (N := 3) hx hb hts i_Code t_Code t_Code_ok n_Code hown hK hP hD hS 0 rfl rfl 2 (by decide) (hts _ tw_194) (fun _ h9 => h9) rfl hnm rfl (by decide +kernel) rfl rfl (Nat.le_of_ble_eq_true rfl) d_Code_init_31 (fun H locs hP hD hS => ?_)
  replace hP : va_P E.1 vwCl [(a_this, .inr (3, [.ref q_1, .ref q_2, .ref q_3])), (q_1, .inl (E.2.1, 30, .inl (fun _ => 0))), (q_2, .inl (E.2.1, 30, .inl (fun _ => 0))), (q_3, .inl (E.2.1, 16, .inl (fun _ => 0)))] H := hP
  replace hD : va_D A [(a_this, .inr (3, [.ref q_1, .ref q_2, .ref q_3])), (q_1, .inl (E.2.1, 30, .inl (fun _ => 0))), (q_2, .inl (E.2.1, 30, .inl (fun _ => 0))), (q_3, .inl (E.2.1, 16, .inl (fun _ => 0)))] := hD
  replace hm := Option.some.inj hm
  subst hm
  exact hret d_Code_init_34 (u := ((), q_1, q_2, q_3)) rfl hP hD hS
def Code_init_19 (F : Nat) : Option (Unit × Unit) :=
  some ((), ())
abbrev Code_init_19_rm : Room := { frames := 1, cells := 3, slots := 54, locals := 21 }
set_option maxHeartbeats 4000000 in
set_option maxRecDepth 100000 in
theorem c_Code_init_19 (l : Launch) (E : xE) (F sz : Nat) (a_this : Nat) (res : Unit × Unit) (hm : Code_init_19 F = some res) : Met l y_Code_init (Cond.code y_Code_init b_Code_init 2 none :: x_tb) Code_init_19_rm (va_Pc [.ref a_this, .int 19] (xPre E [(a_this, .inr (3, [.null, .null, .null]))] sz)) (xQv E (fun (u : (Unit) × Nat × Nat × Nat) => u.1 = res.2) (fun (u : (Unit) × Nat × Nat × Nat) => [(a_this, .inr (3, [.ref u.2.1, .ref u.2.2.1, .ref u.2.2.2])), (u.2.1, .inl (E.2.1, 19, .inl (fun _ => 0))), (u.2.2.1, .inl (E.2.1, 19, .inl (fun _ => 0))), (u.2.2.2, .inl (E.2.1, 16, .inl (fun _ => 0)))]) (va_A [(a_this, .inr (3, [.null, .null, .null]))] sz)) 3 54 (va_A [(a_this, .inr (3, [.null, .null, .null]))] sz) := by
  refine xEnV (by decide) (Nat.le_of_ble_eq_true rfl) ?_
  intro p e s m args below meth c A ls Q hx hb hnm hts hown hml hK hA hI hN hret hP hD hS hl
  replace hown : s.vm.findClass R_Code = some m.cls := hown
  replace hl : lv_has ls 2 [(0, .ref a_this), (1, .int 19)] := hl
  obtain ⟨H, eH⟩ : ∃ z, z = s.heap := ⟨_, rfl⟩
  obtain ⟨locs, eL⟩ : ∃ z : List Loc, z = [] := ⟨_, rfl⟩
  rw [show W p l e Code_init_19_rm s m args below meth c s.heap [] 0 0 Q (F0 m 0 ls []) = W p l e Code_init_19_rm s m args below meth c H locs 0 0 Q (F0 m 0 ls []) by rw [eH, eL]]
  replace hP : va_P E.1 vwCl [(a_this, .inr (3, [.null, .null, .null]))] H := by rw [eH]; exact hP
  replace hS : va_S A s.heap H locs := by rw [eH, eL]; exact hS
  clear eH eL
  rw [Code_init_19] at hm
  refine lv_aload_n hx hb d_Code_init_0 rfl (lv_at hl 0 rfl) ?_
  refine W.objInit hx hb hown (hts _ tw_188) (hts _ tw_88) (hts _ tw_89) rfl (by rw [hml]; exact hl.1) rfl d_Code_init_1 (Nat.le_of_ble_eq_true rfl) (Nat.le_of_ble_eq_true rfl) ?_
  refine W.eq (g2 := F0 m 4 ls []) rfl ?_
  refine lv_aload_n hx hb d_Code_init_4 rfl (lv_at hl 0 rfl) ?_
  refine lv_iload_n hx hb d_Code_init_5 rfl (lv_at hl 1 rfl) ?_
  refine lv_iconst (v := 0) hx hb d_Code_init_6 (by decide) ?_
  refine va_mmax hx hb (hml.trans hl.1.symm) hown (hts _ tw_189) (hts _ tw_97) (hts _ tw_68) (hts _ tw_98) (Nat.le_of_ble_eq_true rfl) (Nat.le_of_ble_eq_true rfl) (Nat.le_of_ble_eq_true rfl) (Nat.le_of_ble_eq_true rfl) d_Code_init_7 ?_
  rw [show (if (19 : Int32) < 0 then 0 else 19) = (19 : Int32) from by decide]
  refine xnewI 19 hx hb (hts _ tw_149) hK hP hD hS hA (by decide) (by decide) (by decide) (Nat.le_of_ble_eq_true rfl) (Nat.le_of_ble_eq_true rfl) d_Code_init_10 (fun q_1 H hP hD hS => ?_)
  replace hP : va_P E.1 vwCl [(a_this, .inr (3, [.null, .null, .null])), (q_1, .inl (E.2.1, 19, .inl (fun _ => 0)))] H := hP
  replace hD : va_D A [(a_this, .inr (3, [.null, .null, .null])), (q_1, .inl (E.2.1, 19, .inl (fun _ => 0)))] := hD
  refine va_putF (D := E.1) (ci := 3) (v := .ref q_1) (ty := (.array .int)) (C := R_Code) (T := F_Code) (N := 3) hx hb hts i_Code t_Code t_Code_ok n_Code hown hK hP hD hS 0 rfl rfl 0 (by decide) (hts _ tw_190) (fun _ h9 => h9) rfl hnm rfl (by decide +kernel) rfl rfl (Nat.le_of_ble_eq_true rfl) d_Code_init_12 (fun H locs hP hD hS => ?_)
  replace hP : va_P E.1 vwCl [(a_this, .inr (3, [.ref q_1, .null, .null])), (q_1, .inl (E.2.1, 19, .inl (fun _ => 0)))] H := hP
  replace hD : va_D A [(a_this, .inr (3, [.ref q_1, .null, .null])), (q_1, .inl (E.2.1, 19, .inl (fun _ => 0)))] := hD
  refine lv_aload_n hx hb d_Code_init_15 rfl (lv_at hl 0 rfl) ?_
  refine lv_iload_n hx hb d_Code_init_16 rfl (lv_at hl 1 rfl) ?_
  refine lv_iconst (v := 0) hx hb d_Code_init_17 (by decide) ?_
  refine va_mmax hx hb (hml.trans hl.1.symm) hown (hts _ tw_189) (hts _ tw_97) (hts _ tw_68) (hts _ tw_98) (Nat.le_of_ble_eq_true rfl) (Nat.le_of_ble_eq_true rfl) (Nat.le_of_ble_eq_true rfl) (Nat.le_of_ble_eq_true rfl) d_Code_init_18 ?_
  rw [show (if (19 : Int32) < 0 then 0 else 19) = (19 : Int32) from by decide]
  refine xnewI 19 hx hb (hts _ tw_149) hK hP hD hS hA (by decide) (by decide) (by decide) (Nat.le_of_ble_eq_true rfl) (Nat.le_of_ble_eq_true rfl) d_Code_init_21 (fun q_2 H hP hD hS => ?_)
  replace hP : va_P E.1 vwCl [(a_this, .inr (3, [.ref q_1, .null, .null])), (q_1, .inl (E.2.1, 19, .inl (fun _ => 0))), (q_2, .inl (E.2.1, 19, .inl (fun _ => 0)))] H := hP
  replace hD : va_D A [(a_this, .inr (3, [.ref q_1, .null, .null])), (q_1, .inl (E.2.1, 19, .inl (fun _ => 0))), (q_2, .inl (E.2.1, 19, .inl (fun _ => 0)))] := hD
  refine va_putF (D := E.1) (ci := 3) (v := .ref q_2) (ty := (.array .int)) (C := R_Code) (T := F_Code) (N := 3) hx hb hts i_Code t_Code t_Code_ok n_Code hown hK hP hD hS 0 rfl rfl 1 (by decide) (hts _ tw_193) (fun _ h9 => h9) rfl hnm rfl (by decide +kernel) rfl rfl (Nat.le_of_ble_eq_true rfl) d_Code_init_23 (fun H locs hP hD hS => ?_)
  replace hP : va_P E.1 vwCl [(a_this, .inr (3, [.ref q_1, .ref q_2, .null])), (q_1, .inl (E.2.1, 19, .inl (fun _ => 0))), (q_2, .inl (E.2.1, 19, .inl (fun _ => 0)))] H := hP
  replace hD : va_D A [(a_this, .inr (3, [.ref q_1, .ref q_2, .null])), (q_1, .inl (E.2.1, 19, .inl (fun _ => 0))), (q_2, .inl (E.2.1, 19, .inl (fun _ => 0)))] := hD
  refine lv_aload_n hx hb d_Code_init_26 rfl (lv_at hl 0 rfl) ?_
  refine lv_bipush (v := 16) hx hb d_Code_init_27 (by decide) ?_
  refine xnewI 16 hx hb (hts _ tw_149) hK hP hD hS hA (by decide) (by decide) (by decide) (Nat.le_of_ble_eq_true rfl) (Nat.le_of_ble_eq_true rfl) d_Code_init_29 (fun q_3 H hP hD hS => ?_)
  replace hP : va_P E.1 vwCl [(a_this, .inr (3, [.ref q_1, .ref q_2, .null])), (q_1, .inl (E.2.1, 19, .inl (fun _ => 0))), (q_2, .inl (E.2.1, 19, .inl (fun _ => 0))), (q_3, .inl (E.2.1, 16, .inl (fun _ => 0)))] H := hP
  replace hD : va_D A [(a_this, .inr (3, [.ref q_1, .ref q_2, .null])), (q_1, .inl (E.2.1, 19, .inl (fun _ => 0))), (q_2, .inl (E.2.1, 19, .inl (fun _ => 0))), (q_3, .inl (E.2.1, 16, .inl (fun _ => 0)))] := hD
  refine va_putF (D := E.1) (ci := 3) (v := .ref q_3) (ty := (.array .int)) (C := R_Code) (T := F_Code) (N := 3) hx hb hts i_Code t_Code t_Code_ok n_Code hown hK hP hD hS 0 rfl rfl 2 (by decide) (hts _ tw_194) (fun _ h9 => h9) rfl hnm rfl (by decide +kernel) rfl rfl (Nat.le_of_ble_eq_true rfl) d_Code_init_31 (fun H locs hP hD hS => ?_)
  replace hP : va_P E.1 vwCl [(a_this, .inr (3, [.ref q_1, .ref q_2, .ref q_3])), (q_1, .inl (E.2.1, 19, .inl (fun _ => 0))), (q_2, .inl (E.2.1, 19, .inl (fun _ => 0))), (q_3, .inl (E.2.1, 16, .inl (fun _ => 0)))] H := hP
  replace hD : va_D A [(a_this, .inr (3, [.ref q_1, .ref q_2, .ref q_3])), (q_1, .inl (E.2.1, 19, .inl (fun _ => 0))), (q_2, .inl (E.2.1, 19, .inl (fun _ => 0))), (q_3, .inl (E.2.1, 16, .inl (fun _ => 0)))] := hD
  replace hm := Option.some.inj hm
  subst hm
  exact hret d_Code_init_34 (u := ((), q_1, q_2, q_3)) rfl hP hD hS
theorem d_BitReader_init_0 : decode b_BitReader_init 0 = .ok (.aload_n 0, 1) := by decide +kernel
theorem d_BitReader_init_1 : decode b_BitReader_init 1 = .ok (.invokespecial 1, 3) := by decide +kernel
theorem d_BitReader_init_4 : decode b_BitReader_init 4 = .ok (.aload_n 0, 1) := by decide +kernel
theorem d_BitReader_init_5 : decode b_BitReader_init 5 = .ok (.aload_n 1, 1) := by decide +kernel
theorem d_BitReader_init_6 : decode b_BitReader_init 6 = .ok (.putfield 7, 3) := by decide +kernel
theorem d_BitReader_init_9 : decode b_BitReader_init 9 = .ok (.return_, 1) := by decide +kernel
def BitReader_init (F : Nat) : Option (Unit × Unit) :=
  some ((), ())
abbrev BitReader_init_rm : Room := { frames := 1, cells := 0, slots := 0, locals := 20 }
set_option maxHeartbeats 4000000 in
set_option maxRecDepth 100000 in
theorem c_BitReader_init (l : Launch) (E : xE) (F sz : Nat) (a_this : Nat) (x_p1 : Nat) (res : Unit × Unit) (hm : BitReader_init F = some res) : Met l y_BitReader_init (Cond.code y_BitReader_init b_BitReader_init 2 none :: x_tb) BitReader_init_rm (va_Pc [.ref a_this, .ref x_p1] (xPre E [(a_this, .inr (0, [.null, .int 0, .int 0]))] sz)) (xQv E (fun (u : Unit) => u = res.2) (fun (u : Unit) => [(a_this, .inr (0, [.ref x_p1, .int 0, .int 0]))]) (va_A [(a_this, .inr (0, [.null, .int 0, .int 0]))] sz)) 0 0 (va_A [(a_this, .inr (0, [.null, .int 0, .int 0]))] sz) := by
  refine xEnV (by decide) (Nat.le_of_ble_eq_true rfl) ?_
  intro p e s m args below meth c A ls Q hx hb hnm hts hown hml hK hA hI hN hret hP hD hS hl
  replace hown : s.vm.findClass R_BitReader = some m.cls := hown
  replace hl : lv_has ls 2 [(0, .ref a_this), (1, .ref x_p1)] := hl
  obtain ⟨H, eH⟩ : ∃ z, z = s.heap := ⟨_, rfl⟩
  obtain ⟨locs, eL⟩ : ∃ z : List Loc, z = [] := ⟨_, rfl⟩
  rw [show W p l e BitReader_init_rm s m args below meth c s.heap [] 0 0 Q (F0 m 0 ls []) = W p l e BitReader_init_rm s m args below meth c H locs 0 0 Q (F0 m 0 ls []) by rw [eH, eL]]
  replace hP : va_P E.1 vwCl [(a_this, .inr (0, [.null, .int 0, .int 0]))] H := by rw [eH]; exact hP
  replace hS : va_S A s.heap H locs := by rw [eH, eL]; exact hS
  clear eH eL
  rw [BitReader_init] at hm
  refine lv_aload_n hx hb d_BitReader_init_0 rfl (lv_at hl 0 rfl) ?_
  refine W.objInit hx hb hown (hts _ tw_304) (hts _ tw_88) (hts _ tw_89) rfl (by rw [hml]; exact hl.1) rfl d_BitReader_init_1 (Nat.le_of_ble_eq_true rfl) (Nat.le_of_ble_eq_true rfl) ?_
  refine W.eq (g2 := F0 m 4 ls []) rfl ?_
  refine lv_aload_n hx hb d_BitReader_init_4 rfl (lv_at hl 0 rfl) ?_
  refine lv_aload_n hx hb d_BitReader_init_5 rfl (lv_at hl 1 rfl) ?_
  refine va_putF (D := E.1) (ci := 0) (v := .ref x_p1) (ty := (.object "PieceRow$Bytes")) (C := R_BitReader) (T := F_BitReader) (N := 3) hx hb hts i_BitReader t_BitReader t_BitReader_ok n_BitReader hown hK hP hD hS 0 rfl rfl 0 (by decide) (hts _ tw_305) (fun _ h9 => h9) rfl hnm rfl (by decide +kernel) rfl rfl (Nat.le_of_ble_eq_true rfl) d_BitReader_init_6 (fun H locs hP hD hS => ?_)
  replace hP : va_P E.1 vwCl [(a_this, .inr (0, [.ref x_p1, .int 0, .int 0]))] H := hP
  replace hD : va_D A [(a_this, .inr (0, [.ref x_p1, .int 0, .int 0]))] := hD
  replace hm := Option.some.inj hm
  subst hm
  exact hret d_BitReader_init_9 (u := ()) rfl hP hD hS
theorem d_Table_init_0 : decode b_Table_init 0 = .ok (.aload_n 0, 1) := by decide +kernel
theorem d_Table_init_1 : decode b_Table_init 1 = .ok (.invokespecial 3, 3) := by decide +kernel
theorem d_Table_init_4 : decode b_Table_init 4 = .ok (.aload_n 0, 1) := by decide +kernel
theorem d_Table_init_5 : decode b_Table_init 5 = .ok (.bipush 16, 2) := by decide +kernel
theorem d_Table_init_7 : decode b_Table_init 7 = .ok (.newarray .int, 2) := by decide +kernel
theorem d_Table_init_9 : decode b_Table_init 9 = .ok (.putfield 9, 3) := by decide +kernel
theorem d_Table_init_12 : decode b_Table_init 12 = .ok (.aload_n 0, 1) := by decide +kernel
theorem d_Table_init_13 : decode b_Table_init 13 = .ok (.bipush 16, 2) := by decide +kernel
theorem d_Table_init_15 : decode b_Table_init 15 = .ok (.newarray .int, 2) := by decide +kernel
theorem d_Table_init_17 : decode b_Table_init 17 = .ok (.putfield 15, 3) := by decide +kernel
theorem d_Table_init_20 : decode b_Table_init 20 = .ok (.aload_n 0, 1) := by decide +kernel
theorem d_Table_init_21 : decode b_Table_init 21 = .ok (.iload_n 1, 1) := by decide +kernel
theorem d_Table_init_22 : decode b_Table_init 22 = .ok (.iconst 0, 1) := by decide +kernel
theorem d_Table_init_23 : decode b_Table_init 23 = .ok (.invokestatic 18, 3) := by decide +kernel
theorem d_Table_init_26 : decode b_Table_init 26 = .ok (.newarray .int, 2) := by decide +kernel
theorem d_Table_init_28 : decode b_Table_init 28 = .ok (.putfield 24, 3) := by decide +kernel
theorem d_Table_init_31 : decode b_Table_init 31 = .ok (.return_, 1) := by decide +kernel
def Table_init_288 (F : Nat) : Option (Unit × Unit) :=
  some ((), ())
abbrev Table_init_288_rm : Room := { frames := 1, cells := 3, slots := 320, locals := 21 }
set_option maxHeartbeats 4000000 in
set_option maxRecDepth 100000 in
theorem c_Table_init_288 (l : Launch) (E : xE) (F sz : Nat) (a_this : Nat) (res : Unit × Unit) (hm : Table_init_288 F = some res) : Met l y_Table_init (Cond.code y_Table_init b_Table_init 2 none :: x_tb) Table_init_288_rm (va_Pc [.ref a_this, .int 288] (xPre E [(a_this, .inr (8, [.null, .null, .null]))] sz)) (xQv E (fun (u : (Unit) × Nat × Nat × Nat) => u.1 = res.2) (fun (u : (Unit) × Nat × Nat × Nat) => [(a_this, .inr (8, [.ref u.2.1, .ref u.2.2.1, .ref u.2.2.2])), (u.2.1, .inl (E.2.1, 16, .inl (fun _ => 0))), (u.2.2.1, .inl (E.2.1, 16, .inl (fun _ => 0))), (u.2.2.2, .inl (E.2.1, 288, .inl (fun _ => 0)))]) (va_A [(a_this, .inr (8, [.null, .null, .null]))] sz)) 3 320 (va_A [(a_this, .inr (8, [.null, .null, .null]))] sz) := by
  refine xEnV (by decide) (Nat.le_of_ble_eq_true rfl) ?_
  intro p e s m args below meth c A ls Q hx hb hnm hts hown hml hK hA hI hN hret hP hD hS hl
  replace hown : s.vm.findClass R_Table = some m.cls := hown
  replace hl : lv_has ls 2 [(0, .ref a_this), (1, .int 288)] := hl
  obtain ⟨H, eH⟩ : ∃ z, z = s.heap := ⟨_, rfl⟩
  obtain ⟨locs, eL⟩ : ∃ z : List Loc, z = [] := ⟨_, rfl⟩
  rw [show W p l e Table_init_288_rm s m args below meth c s.heap [] 0 0 Q (F0 m 0 ls []) = W p l e Table_init_288_rm s m args below meth c H locs 0 0 Q (F0 m 0 ls []) by rw [eH, eL]]
  replace hP : va_P E.1 vwCl [(a_this, .inr (8, [.null, .null, .null]))] H := by rw [eH]; exact hP
  replace hS : va_S A s.heap H locs := by rw [eH, eL]; exact hS
  clear eH eL
  rw [Table_init_288] at hm
  refine lv_aload_n hx hb d_Table_init_0 rfl (lv_at hl 0 rfl) ?_
  refine W.objInit hx hb hown (hts _ tw_320) (hts _ tw_88) (hts _ tw_89) rfl (by rw [hml]; exact hl.1) rfl d_Table_init_1 (Nat.le_of_ble_eq_true rfl) (Nat.le_of_ble_eq_true rfl) ?_
  refine W.eq (g2 := F0 m 4 ls []) rfl ?_
  refine lv_aload_n hx hb d_Table_init_4 rfl (lv_at hl 0 rfl) ?_
  refine lv_bipush (v := 16) hx hb d_Table_init_5 (by decide) ?_
  refine xnewI 16 hx hb (hts _ tw_149) hK hP hD hS hA (by decide) (by decide) (by decide) (Nat.le_of_ble_eq_true rfl) (Nat.le_of_ble_eq_true rfl) d_Table_init_7 (fun q_1 H hP hD hS => ?_)
  replace hP : va_P E.1 vwCl [(a_this, .inr (8, [.null, .null, .null])), (q_1, .inl (E.2.1, 16, .inl (fun _ => 0)))] H := hP
  replace hD : va_D A [(a_this, .inr (8, [.null, .null, .null])), (q_1, .inl (E.2.1, 16, .inl (fun _ => 0)))] := hD
  refine va_putF (D := E.1) (ci := 8) (v := .ref q_1) (ty := (.array .int)) (C := R_Table) (T := F_Table) (N := 3) hx hb hts i_Table t_Table t_Table_ok n_Table hown hK hP hD hS 0 rfl rfl 0 (by decide) (hts _ tw_322) (fun _ h9 => h9) rfl hnm rfl (by decide +kernel) rfl rfl (Nat.le_of_ble_eq_true rfl) d_Table_init_9 (fun H locs hP hD hS => ?_)
  replace hP : va_P E.1 vwCl [(a_this, .inr (8, [.ref q_1, .null, .null])), (q_1, .inl (E.2.1, 16, .inl (fun _ => 0)))] H := hP
  replace hD : va_D A [(a_this, .inr (8, [.ref q_1, .null, .null])), (q_1, .inl (E.2.1, 16, .inl (fun _ => 0)))] := hD
  refine lv_aload_n hx hb d_Table_init_12 rfl (lv_at hl 0 rfl) ?_
  refine lv_bipush (v := 16) hx hb d_Table_init_13 (by decide) ?_
  refine xnewI 16 hx hb (hts _ tw_149) hK hP hD hS hA (by decide) (by decide) (by decide) (Nat.le_of_ble_eq_true rfl) (Nat.le_of_ble_eq_true rfl) d_Table_init_15 (fun q_2 H hP hD hS => ?_)
  replace hP : va_P E.1 vwCl [(a_this, .inr (8, [.ref q_1, .null, .null])), (q_1, .inl (E.2.1, 16, .inl (fun _ => 0))), (q_2, .inl (E.2.1, 16, .inl (fun _ => 0)))] H := hP
  replace hD : va_D A [(a_this, .inr (8, [.ref q_1, .null, .null])), (q_1, .inl (E.2.1, 16, .inl (fun _ => 0))), (q_2, .inl (E.2.1, 16, .inl (fun _ => 0)))] := hD
  refine va_putF (D := E.1) (ci := 8) (v := .ref q_2) (ty := (.array .int)) (C := R_Table) (T := F_Table) (N := 3) hx hb hts i_Table t_Table t_Table_ok n_Table hown hK hP hD hS 0 rfl rfl 1 (by decide) (hts _ tw_323) (fun _ h9 => h9) rfl hnm rfl (by decide +kernel) rfl rfl (Nat.le_of_ble_eq_true rfl) d_Table_init_17 (fun H locs hP hD hS => ?_)
  replace hP : va_P E.1 vwCl [(a_this, .inr (8, [.ref q_1, .ref q_2, .null])), (q_1, .inl (E.2.1, 16, .inl (fun _ => 0))), (q_2, .inl (E.2.1, 16, .inl (fun _ => 0)))] H := hP
  replace hD : va_D A [(a_this, .inr (8, [.ref q_1, .ref q_2, .null])), (q_1, .inl (E.2.1, 16, .inl (fun _ => 0))), (q_2, .inl (E.2.1, 16, .inl (fun _ => 0)))] := hD
  refine lv_aload_n hx hb d_Table_init_20 rfl (lv_at hl 0 rfl) ?_
  refine lv_iload_n hx hb d_Table_init_21 rfl (lv_at hl 1 rfl) ?_
  refine lv_iconst (v := 0) hx hb d_Table_init_22 (by decide) ?_
  refine va_mmax hx hb (hml.trans hl.1.symm) hown (hts _ tw_321) (hts _ tw_97) (hts _ tw_68) (hts _ tw_98) (Nat.le_of_ble_eq_true rfl) (Nat.le_of_ble_eq_true rfl) (Nat.le_of_ble_eq_true rfl) (Nat.le_of_ble_eq_true rfl) d_Table_init_23 ?_
  rw [show (if (288 : Int32) < 0 then 0 else 288) = (288 : Int32) from by decide]
  refine xnewI 288 hx hb (hts _ tw_149) hK hP hD hS hA (by decide) (by decide) (by decide) (Nat.le_of_ble_eq_true rfl) (Nat.le_of_ble_eq_true rfl) d_Table_init_26 (fun q_3 H hP hD hS => ?_)
  replace hP : va_P E.1 vwCl [(a_this, .inr (8, [.ref q_1, .ref q_2, .null])), (q_1, .inl (E.2.1, 16, .inl (fun _ => 0))), (q_2, .inl (E.2.1, 16, .inl (fun _ => 0))), (q_3, .inl (E.2.1, 288, .inl (fun _ => 0)))] H := hP
  replace hD : va_D A [(a_this, .inr (8, [.ref q_1, .ref q_2, .null])), (q_1, .inl (E.2.1, 16, .inl (fun _ => 0))), (q_2, .inl (E.2.1, 16, .inl (fun _ => 0))), (q_3, .inl (E.2.1, 288, .inl (fun _ => 0)))] := hD
  refine va_putF (D := E.1) (ci := 8) (v := .ref q_3) (ty := (.array .int)) (C := R_Table) (T := F_Table) (N := 3) hx hb hts i_Table t_Table t_Table_ok n_Table hown hK hP hD hS 0 rfl rfl 2 (by decide) (hts _ tw_324) (fun _ h9 => h9) rfl hnm rfl (by decide +kernel) rfl rfl (Nat.le_of_ble_eq_true rfl) d_Table_init_28 (fun H locs hP hD hS => ?_)
  replace hP : va_P E.1 vwCl [(a_this, .inr (8, [.ref q_1, .ref q_2, .ref q_3])), (q_1, .inl (E.2.1, 16, .inl (fun _ => 0))), (q_2, .inl (E.2.1, 16, .inl (fun _ => 0))), (q_3, .inl (E.2.1, 288, .inl (fun _ => 0)))] H := hP
  replace hD : va_D A [(a_this, .inr (8, [.ref q_1, .ref q_2, .ref q_3])), (q_1, .inl (E.2.1, 16, .inl (fun _ => 0))), (q_2, .inl (E.2.1, 16, .inl (fun _ => 0))), (q_3, .inl (E.2.1, 288, .inl (fun _ => 0)))] := hD
  replace hm := Option.some.inj hm
  subst hm
  exact hret d_Table_init_31 (u := ((), q_1, q_2, q_3)) rfl hP hD hS
def Table_init_32 (F : Nat) : Option (Unit × Unit) :=
  some ((), ())
abbrev Table_init_32_rm : Room := { frames := 1, cells := 3, slots := 64, locals := 21 }
set_option maxHeartbeats 4000000 in
set_option maxRecDepth 100000 in
theorem c_Table_init_32 (l : Launch) (E : xE) (F sz : Nat) (a_this : Nat) (res : Unit × Unit) (hm : Table_init_32 F = some res) : Met l y_Table_init (Cond.code y_Table_init b_Table_init 2 none :: x_tb) Table_init_32_rm (va_Pc [.ref a_this, .int 32] (xPre E [(a_this, .inr (8, [.null, .null, .null]))] sz)) (xQv E (fun (u : (Unit) × Nat × Nat × Nat) => u.1 = res.2) (fun (u : (Unit) × Nat × Nat × Nat) => [(a_this, .inr (8, [.ref u.2.1, .ref u.2.2.1, .ref u.2.2.2])), (u.2.1, .inl (E.2.1, 16, .inl (fun _ => 0))), (u.2.2.1, .inl (E.2.1, 16, .inl (fun _ => 0))), (u.2.2.2, .inl (E.2.1, 32, .inl (fun _ => 0)))]) (va_A [(a_this, .inr (8, [.null, .null, .null]))] sz)) 3 64 (va_A [(a_this, .inr (8, [.null, .null, .null]))] sz) := by
  refine xEnV (by decide) (Nat.le_of_ble_eq_true rfl) ?_
  intro p e s m args below meth c A ls Q hx hb hnm hts hown hml hK hA hI hN hret hP hD hS hl
  replace hown : s.vm.findClass R_Table = some m.cls := hown
  replace hl : lv_has ls 2 [(0, .ref a_this), (1, .int 32)] := hl
  obtain ⟨H, eH⟩ : ∃ z, z = s.heap := ⟨_, rfl⟩
  obtain ⟨locs, eL⟩ : ∃ z : List Loc, z = [] := ⟨_, rfl⟩
  rw [show W p l e Table_init_32_rm s m args below meth c s.heap [] 0 0 Q (F0 m 0 ls []) = W p l e Table_init_32_rm s m args below meth c H locs 0 0 Q (F0 m 0 ls []) by rw [eH, eL]]
  replace hP : va_P E.1 vwCl [(a_this, .inr (8, [.null, .null, .null]))] H := by rw [eH]; exact hP
  replace hS : va_S A s.heap H locs := by rw [eH, eL]; exact hS
  clear eH eL
  rw [Table_init_32] at hm
  refine lv_aload_n hx hb d_Table_init_0 rfl (lv_at hl 0 rfl) ?_
  refine W.objInit hx hb hown (hts _ tw_320) (hts _ tw_88) (hts _ tw_89) rfl (by rw [hml]; exact hl.1) rfl d_Table_init_1 (Nat.le_of_ble_eq_true rfl) (Nat.le_of_ble_eq_true rfl) ?_
  refine W.eq (g2 := F0 m 4 ls []) rfl ?_
  refine lv_aload_n hx hb d_Table_init_4 rfl (lv_at hl 0 rfl) ?_
  refine lv_bipush (v := 16) hx hb d_Table_init_5 (by decide) ?_
  refine xnewI 16 hx hb (hts _ tw_149) hK hP hD hS hA (by decide) (by decide) (by decide) (Nat.le_of_ble_eq_true rfl) (Nat.le_of_ble_eq_true rfl) d_Table_init_7 (fun q_1 H hP hD hS => ?_)
  replace hP : va_P E.1 vwCl [(a_this, .inr (8, [.null, .null, .null])), (q_1, .inl (E.2.1, 16, .inl (fun _ => 0)))] H := hP
  replace hD : va_D A [(a_this, .inr (8, [.null, .null, .null])), (q_1, .inl (E.2.1, 16, .inl (fun _ => 0)))] := hD
  refine va_putF (D := E.1) (ci := 8) (v := .ref q_1) (ty := (.array .int)) (C := R_Table) (T := F_Table) (N := 3) hx hb hts i_Table t_Table t_Table_ok n_Table hown hK hP hD hS 0 rfl rfl 0 (by decide) (hts _ tw_322) (fun _ h9 => h9) rfl hnm rfl (by decide +kernel) rfl rfl (Nat.le_of_ble_eq_true rfl) d_Table_init_9 (fun H locs hP hD hS => ?_)
  replace hP : va_P E.1 vwCl [(a_this, .inr (8, [.ref q_1, .null, .null])), (q_1, .inl (E.2.1, 16, .inl (fun _ => 0)))] H := hP
  replace hD : va_D A [(a_this, .inr (8, [.ref q_1, .null, .null])), (q_1, .inl (E.2.1, 16, .inl (fun _ => 0)))] := hD
  refine lv_aload_n hx hb d_Table_init_12 rfl (lv_at hl 0 rfl) ?_
  refine lv_bipush (v := 16) hx hb d_Table_init_13 (by decide) ?_
  refine xnewI 16 hx hb (hts _ tw_149) hK hP hD hS hA (by decide) (by decide) (by decide) (Nat.le_of_ble_eq_true rfl) (Nat.le_of_ble_eq_true rfl) d_Table_init_15 (fun q_2 H hP hD hS => ?_)
  replace hP : va_P E.1 vwCl [(a_this, .inr (8, [.ref q_1, .null, .null])), (q_1, .inl (E.2.1, 16, .inl (fun _ => 0))), (q_2, .inl (E.2.1, 16, .inl (fun _ => 0)))] H := hP
  replace hD : va_D A [(a_this, .inr (8, [.ref q_1, .null, .null])), (q_1, .inl (E.2.1, 16, .inl (fun _ => 0))), (q_2, .inl (E.2.1, 16, .inl (fun _ => 0)))] := hD
  refine va_putF (D := E.1) (ci := 8) (v := .ref q_2) (ty := (.array .int)) (C := R_Table) (T := F_Table) (N := 3) hx hb hts i_Table t_Table t_Table_ok n_Table hown hK hP hD hS 0 rfl rfl 1 (by decide) (hts _ tw_323) (fun _ h9 => h9) rfl hnm rfl (by decide +kernel) rfl rfl (Nat.le_of_ble_eq_true rfl) d_Table_init_17 (fun H locs hP hD hS => ?_)
  replace hP : va_P E.1 vwCl [(a_this, .inr (8, [.ref q_1, .ref q_2, .null])), (q_1, .inl (E.2.1, 16, .inl (fun _ => 0))), (q_2, .inl (E.2.1, 16, .inl (fun _ => 0)))] H := hP
  replace hD : va_D A [(a_this, .inr (8, [.ref q_1, .ref q_2, .null])), (q_1, .inl (E.2.1, 16, .inl (fun _ => 0))), (q_2, .inl (E.2.1, 16, .inl (fun _ => 0)))] := hD
  refine lv_aload_n hx hb d_Table_init_20 rfl (lv_at hl 0 rfl) ?_
  refine lv_iload_n hx hb d_Table_init_21 rfl (lv_at hl 1 rfl) ?_
  refine lv_iconst (v := 0) hx hb d_Table_init_22 (by decide) ?_
  refine va_mmax hx hb (hml.trans hl.1.symm) hown (hts _ tw_321) (hts _ tw_97) (hts _ tw_68) (hts _ tw_98) (Nat.le_of_ble_eq_true rfl) (Nat.le_of_ble_eq_true rfl) (Nat.le_of_ble_eq_true rfl) (Nat.le_of_ble_eq_true rfl) d_Table_init_23 ?_
  rw [show (if (32 : Int32) < 0 then 0 else 32) = (32 : Int32) from by decide]
  refine xnewI 32 hx hb (hts _ tw_149) hK hP hD hS hA (by decide) (by decide) (by decide) (Nat.le_of_ble_eq_true rfl) (Nat.le_of_ble_eq_true rfl) d_Table_init_26 (fun q_3 H hP hD hS => ?_)
  replace hP : va_P E.1 vwCl [(a_this, .inr (8, [.ref q_1, .ref q_2, .null])), (q_1, .inl (E.2.1, 16, .inl (fun _ => 0))), (q_2, .inl (E.2.1, 16, .inl (fun _ => 0))), (q_3, .inl (E.2.1, 32, .inl (fun _ => 0)))] H := hP
  replace hD : va_D A [(a_this, .inr (8, [.ref q_1, .ref q_2, .null])), (q_1, .inl (E.2.1, 16, .inl (fun _ => 0))), (q_2, .inl (E.2.1, 16, .inl (fun _ => 0))), (q_3, .inl (E.2.1, 32, .inl (fun _ => 0)))] := hD
  refine va_putF (D := E.1) (ci := 8) (v := .ref q_3) (ty := (.array .int)) (C := R_Table) (T := F_Table) (N := 3) hx hb hts i_Table t_Table t_Table_ok n_Table hown hK hP hD hS 0 rfl rfl 2 (by decide) (hts _ tw_324) (fun _ h9 => h9) rfl hnm rfl (by decide +kernel) rfl rfl (Nat.le_of_ble_eq_true rfl) d_Table_init_28 (fun H locs hP hD hS => ?_)
  replace hP : va_P E.1 vwCl [(a_this, .inr (8, [.ref q_1, .ref q_2, .ref q_3])), (q_1, .inl (E.2.1, 16, .inl (fun _ => 0))), (q_2, .inl (E.2.1, 16, .inl (fun _ => 0))), (q_3, .inl (E.2.1, 32, .inl (fun _ => 0)))] H := hP
  replace hD : va_D A [(a_this, .inr (8, [.ref q_1, .ref q_2, .ref q_3])), (q_1, .inl (E.2.1, 16, .inl (fun _ => 0))), (q_2, .inl (E.2.1, 16, .inl (fun _ => 0))), (q_3, .inl (E.2.1, 32, .inl (fun _ => 0)))] := hD
  replace hm := Option.some.inj hm
  subst hm
  exact hret d_Table_init_31 (u := ((), q_1, q_2, q_3)) rfl hP hD hS
def Table_init_19 (F : Nat) : Option (Unit × Unit) :=
  some ((), ())
abbrev Table_init_19_rm : Room := { frames := 1, cells := 3, slots := 51, locals := 21 }
set_option maxHeartbeats 4000000 in
set_option maxRecDepth 100000 in
theorem c_Table_init_19 (l : Launch) (E : xE) (F sz : Nat) (a_this : Nat) (res : Unit × Unit) (hm : Table_init_19 F = some res) : Met l y_Table_init (Cond.code y_Table_init b_Table_init 2 none :: x_tb) Table_init_19_rm (va_Pc [.ref a_this, .int 19] (xPre E [(a_this, .inr (8, [.null, .null, .null]))] sz)) (xQv E (fun (u : (Unit) × Nat × Nat × Nat) => u.1 = res.2) (fun (u : (Unit) × Nat × Nat × Nat) => [(a_this, .inr (8, [.ref u.2.1, .ref u.2.2.1, .ref u.2.2.2])), (u.2.1, .inl (E.2.1, 16, .inl (fun _ => 0))), (u.2.2.1, .inl (E.2.1, 16, .inl (fun _ => 0))), (u.2.2.2, .inl (E.2.1, 19, .inl (fun _ => 0)))]) (va_A [(a_this, .inr (8, [.null, .null, .null]))] sz)) 3 51 (va_A [(a_this, .inr (8, [.null, .null, .null]))] sz) := by
  refine xEnV (by decide) (Nat.le_of_ble_eq_true rfl) ?_
  intro p e s m args below meth c A ls Q hx hb hnm hts hown hml hK hA hI hN hret hP hD hS hl
  replace hown : s.vm.findClass R_Table = some m.cls := hown
  replace hl : lv_has ls 2 [(0, .ref a_this), (1, .int 19)] := hl
  obtain ⟨H, eH⟩ : ∃ z, z = s.heap := ⟨_, rfl⟩
  obtain ⟨locs, eL⟩ : ∃ z : List Loc, z = [] := ⟨_, rfl⟩
  rw [show W p l e Table_init_19_rm s m args below meth c s.heap [] 0 0 Q (F0 m 0 ls []) = W p l e Table_init_19_rm s m args below meth c H locs 0 0 Q (F0 m 0 ls []) by rw [eH, eL]]
  replace hP : va_P E.1 vwCl [(a_this, .inr (8, [.null, .null, .null]))] H := by rw [eH]; exact hP
  replace hS : va_S A s.heap H locs := by rw [eH, eL]; exact hS
  clear eH eL
  rw [Table_init_19] at hm
  refine lv_aload_n hx hb d_Table_init_0 rfl (lv_at hl 0 rfl) ?_
  refine W.objInit hx hb hown (hts _ tw_320) (hts _ tw_88) (hts _ tw_89) rfl (by rw [hml]; exact hl.1) rfl d_Table_init_1 (Nat.le_of_ble_eq_true rfl) (Nat.le_of_ble_eq_true rfl) ?_
  refine W.eq (g2 := F0 m 4 ls []) rfl ?_
  refine lv_aload_n hx hb d_Table_init_4 rfl (lv_at hl 0 rfl) ?_
  refine lv_bipush (v := 16) hx hb d_Table_init_5 (by decide) ?_
  refine xnewI 16 hx hb (hts _ tw_149) hK hP hD hS hA (by decide) (by decide) (by decide) (Nat.le_of_ble_eq_true rfl) (Nat.le_of_ble_eq_true rfl) d_Table_init_7 (fun q_1 H hP hD hS => ?_)
  replace hP : va_P E.1 vwCl [(a_this, .inr (8, [.null, .null, .null])), (q_1, .inl (E.2.1, 16, .inl (fun _ => 0)))] H := hP
  replace hD : va_D A [(a_this, .inr (8, [.null, .null, .null])), (q_1, .inl (E.2.1, 16, .inl (fun _ => 0)))] := hD
  refine va_putF (D := E.1) (ci := 8) (v := .ref q_1) (ty := (.array .int)) (C := R_Table) (T := F_Table) (N := 3) hx hb hts i_Table t_Table t_Table_ok n_Table hown hK hP hD hS 0 rfl rfl 0 (by decide) (hts _ tw_322) (fun _ h9 => h9) rfl hnm rfl (by decide +kernel) rfl rfl (Nat.le_of_ble_eq_true rfl) d_Table_init_9 (fun H locs hP hD hS => ?_)
  replace hP : va_P E.1 vwCl [(a_this, .inr (8, [.ref q_1, .null, .null])), (q_1, .inl (E.2.1, 16, .inl (fun _ => 0)))] H := hP
  replace hD : va_D A [(a_this, .inr (8, [.ref q_1, .null, .null])), (q_1, .inl (E.2.1, 16, .inl (fun _ => 0)))] := hD
  refine lv_aload_n hx hb d_Table_init_12 rfl (lv_at hl 0 rfl) ?_
  refine lv_bipush (v := 16) hx hb d_Table_init_13 (by decide) ?_
  refine xnewI 16 hx hb (hts _ tw_149) hK hP hD hS hA (by decide) (by decide) (by decide) (Nat.le_of_ble_eq_true rfl) (Nat.le_of_ble_eq_true rfl) d_Table_init_15 (fun q_2 H hP hD hS => ?_)
  replace hP : va_P E.1 vwCl [(a_this, .inr (8, [.ref q_1, .null, .null])), (q_1, .inl (E.2.1, 16, .inl (fun _ => 0))), (q_2, .inl (E.2.1, 16, .inl (fun _ => 0)))] H := hP
  replace hD : va_D A [(a_this, .inr (8, [.ref q_1, .null, .null])), (q_1, .inl (E.2.1, 16, .inl (fun _ => 0))), (q_2, .inl (E.2.1, 16, .inl (fun _ => 0)))] := hD
  refine va_putF (D := E.1) (ci := 8) (v := .ref q_2) (ty := (.array .int)) (C := R_Table) (T := F_Table) (N := 3) hx hb hts i_Table t_Table t_Table_ok n_Table hown hK hP hD hS 0 rfl rfl 1 (by decide) (hts _ tw_323) (fun _ h9 => h9) rfl hnm rfl (by decide +kernel) rfl rfl (Nat.le_of_ble_eq_true rfl) d_Table_init_17 (fun H locs hP hD hS => ?_)
  replace hP : va_P E.1 vwCl [(a_this, .inr (8, [.ref q_1, .ref q_2, .null])), (q_1, .inl (E.2.1, 16, .inl (fun _ => 0))), (q_2, .inl (E.2.1, 16, .inl (fun _ => 0)))] H := hP
  replace hD : va_D A [(a_this, .inr (8, [.ref q_1, .ref q_2, .null])), (q_1, .inl (E.2.1, 16, .inl (fun _ => 0))), (q_2, .inl (E.2.1, 16, .inl (fun _ => 0)))] := hD
  refine lv_aload_n hx hb d_Table_init_20 rfl (lv_at hl 0 rfl) ?_
  refine lv_iload_n hx hb d_Table_init_21 rfl (lv_at hl 1 rfl) ?_
  refine lv_iconst (v := 0) hx hb d_Table_init_22 (by decide) ?_
  refine va_mmax hx hb (hml.trans hl.1.symm) hown (hts _ tw_321) (hts _ tw_97) (hts _ tw_68) (hts _ tw_98) (Nat.le_of_ble_eq_true rfl) (Nat.le_of_ble_eq_true rfl) (Nat.le_of_ble_eq_true rfl) (Nat.le_of_ble_eq_true rfl) d_Table_init_23 ?_
  rw [show (if (19 : Int32) < 0 then 0 else 19) = (19 : Int32) from by decide]
  refine xnewI 19 hx hb (hts _ tw_149) hK hP hD hS hA (by decide) (by decide) (by decide) (Nat.le_of_ble_eq_true rfl) (Nat.le_of_ble_eq_true rfl) d_Table_init_26 (fun q_3 H hP hD hS => ?_)
  replace hP : va_P E.1 vwCl [(a_this, .inr (8, [.ref q_1, .ref q_2, .null])), (q_1, .inl (E.2.1, 16, .inl (fun _ => 0))), (q_2, .inl (E.2.1, 16, .inl (fun _ => 0))), (q_3, .inl (E.2.1, 19, .inl (fun _ => 0)))] H := hP
  replace hD : va_D A [(a_this, .inr (8, [.ref q_1, .ref q_2, .null])), (q_1, .inl (E.2.1, 16, .inl (fun _ => 0))), (q_2, .inl (E.2.1, 16, .inl (fun _ => 0))), (q_3, .inl (E.2.1, 19, .inl (fun _ => 0)))] := hD
  refine va_putF (D := E.1) (ci := 8) (v := .ref q_3) (ty := (.array .int)) (C := R_Table) (T := F_Table) (N := 3) hx hb hts i_Table t_Table t_Table_ok n_Table hown hK hP hD hS 0 rfl rfl 2 (by decide) (hts _ tw_324) (fun _ h9 => h9) rfl hnm rfl (by decide +kernel) rfl rfl (Nat.le_of_ble_eq_true rfl) d_Table_init_28 (fun H locs hP hD hS => ?_)
  replace hP : va_P E.1 vwCl [(a_this, .inr (8, [.ref q_1, .ref q_2, .ref q_3])), (q_1, .inl (E.2.1, 16, .inl (fun _ => 0))), (q_2, .inl (E.2.1, 16, .inl (fun _ => 0))), (q_3, .inl (E.2.1, 19, .inl (fun _ => 0)))] H := hP
  replace hD : va_D A [(a_this, .inr (8, [.ref q_1, .ref q_2, .ref q_3])), (q_1, .inl (E.2.1, 16, .inl (fun _ => 0))), (q_2, .inl (E.2.1, 16, .inl (fun _ => 0))), (q_3, .inl (E.2.1, 19, .inl (fun _ => 0)))] := hD
  replace hm := Option.some.inj hm
  subst hm
  exact hret d_Table_init_31 (u := ((), q_1, q_2, q_3)) rfl hP hD hS
theorem d_Tree_init_0 : decode b_Tree_init 0 = .ok (.aload_n 0, 1) := by decide +kernel
theorem d_Tree_init_1 : decode b_Tree_init 1 = .ok (.invokespecial 1, 3) := by decide +kernel
theorem d_Tree_init_4 : decode b_Tree_init 4 = .ok (.aload_n 0, 1) := by decide +kernel
theorem d_Tree_init_5 : decode b_Tree_init 5 = .ok (.sipush 1300, 3) := by decide +kernel
theorem d_Tree_init_8 : decode b_Tree_init 8 = .ok (.newarray .int, 2) := by decide +kernel
theorem d_Tree_init_10 : decode b_Tree_init 10 = .ok (.putfield 7, 3) := by decide +kernel
theorem d_Tree_init_13 : decode b_Tree_init 13 = .ok (.return_, 1) := by decide +kernel
def Tree_init (F : Nat) : Option (Unit × Unit) :=
  some ((), ())
abbrev Tree_init_rm : Room := { frames := 1, cells := 1, slots := 1300, locals := 20 }
set_option maxHeartbeats 4000000 in
set_option maxRecDepth 100000 in
theorem c_Tree_init (l : Launch) (E : xE) (F sz : Nat) (a_this : Nat) (res : Unit × Unit) (hm : Tree_init F = some res) : Met l y_Tree_init (Cond.code y_Tree_init b_Tree_init 1 none :: x_tb) Tree_init_rm (va_Pc [.ref a_this] (xPre E [(a_this, .inr (11, [.null, .int 0]))] sz)) (xQv E (fun (u : (Unit) × Nat) => u.1 = res.2) (fun (u : (Unit) × Nat) => [(a_this, .inr (11, [.ref u.2, .int 0])), (u.2, .inl (E.2.1, 1300, .inl (fun _ => 0)))]) (va_A [(a_this, .inr (11, [.null, .int 0]))] sz)) 1 1300 (va_A [(a_this, .inr (11, [.null, .int 0]))] sz) := by
  refine xEnV (by decide) (Nat.le_of_ble_eq_true rfl) ?_
  intro p e s m args below meth c A ls Q hx hb hnm hts hown hml hK hA hI hN hret hP hD hS hl
  replace hown : s.vm.findClass R_Tree = some m.cls := hown
  replace hl : lv_has ls 1 [(0, .ref a_this)] := hl
  obtain ⟨H, eH⟩ : ∃ z, z = s.heap := ⟨_, rfl⟩
  obtain ⟨locs, eL⟩ : ∃ z : List Loc, z = [] := ⟨_, rfl⟩
  rw [show W p l e Tree_init_rm s m args below meth c s.heap [] 0 0 Q (F0 m 0 ls []) = W p l e Tree_init_rm s m args below meth c H locs 0 0 Q (F0 m 0 ls []) by rw [eH, eL]]
  replace hP : va_P E.1 vwCl [(a_this, .inr (11, [.null, .int 0]))] H := by rw [eH]; exact hP
  replace hS : va_S A s.heap H locs := by rw [eH, eL]; exact hS
  clear eH eL
  rw [Tree_init] at hm
  refine lv_aload_n hx hb d_Tree_init_0 rfl (lv_at hl 0 rfl) ?_
  refine W.objInit hx hb hown (hts _ tw_786) (hts _ tw_88) (hts _ tw_89) rfl (by rw [hml]; exact hl.1) rfl d_Tree_init_1 (Nat.le_of_ble_eq_true rfl) (Nat.le_of_ble_eq_true rfl) ?_
  refine W.eq (g2 := F0 m 4 ls []) rfl ?_
  refine lv_aload_n hx hb d_Tree_init_4 rfl (lv_at hl 0 rfl) ?_
  refine lv_sipush (v := 1300) hx hb d_Tree_init_5 (by decide) ?_
  refine xnewI 1300 hx hb (hts _ tw_149) hK hP hD hS hA (by decide) (by decide) (by decide) (Nat.le_of_ble_eq_true rfl) (Nat.le_of_ble_eq_true rfl) d_Tree_init_8 (fun q_1 H hP hD hS => ?_)
  replace hP : va_P E.1 vwCl [(a_this, .inr (11, [.null, .int 0])), (q_1, .inl (E.2.1, 1300, .inl (fun _ => 0)))] H := hP
  replace hD : va_D A [(a_this, .inr (11, [.null, .int 0])), (q_1, .inl (E.2.1, 1300, .inl (fun _ => 0)))] := hD
  refine va_putF (D := E.1) (ci := 11) (v := .ref q_1) (ty := (.array .int)) (C := R_Tree) (T := F_Tree) (N := 2) hx hb hts i_Tree t_Tree t_Tree_ok n_Tree hown hK hP hD hS 0 rfl rfl 0 (by decide) (hts _ tw_787) (fun _ h9 => h9) rfl hnm rfl (by decide +kernel) rfl rfl (Nat.le_of_ble_eq_true rfl) d_Tree_init_10 (fun H locs hP hD hS => ?_)
  replace hP : va_P E.1 vwCl [(a_this, .inr (11, [.ref q_1, .int 0])), (q_1, .inl (E.2.1, 1300, .inl (fun _ => 0)))] H := hP
  replace hD : va_D A [(a_this, .inr (11, [.ref q_1, .int 0])), (q_1, .inl (E.2.1, 1300, .inl (fun _ => 0)))] := hD
  replace hm := Option.some.inj hm
  subst hm
  exact hret d_Tree_init_13 (u := ((), q_1)) rfl hP hD hS
