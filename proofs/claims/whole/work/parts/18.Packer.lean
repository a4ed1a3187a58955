theorem d_Packer_copyTo_0 : decode b_Packer_copyTo 0 = .ok (.aload_n 0, 1) := by decide +kernel
theorem d_Packer_copyTo_1 : decode b_Packer_copyTo 1 = .ok (.getfield 18, 3) := by decide +kernel
theorem d_Packer_copyTo_4 : decode b_Packer_copyTo 4 = .ok (.aload_n 1, 1) := by decide +kernel
theorem d_Packer_copyTo_5 : decode b_Packer_copyTo 5 = .ok (.invokevirtual 124, 3) := by decide +kernel
theorem d_Packer_copyTo_8 : decode b_Packer_copyTo 8 = .ok (.return_, 1) := by decide +kernel
abbrev Packer_copyTo_w (E : xE) (a_this : Nat) (a_out : Nat) (a_out_data : Nat) (a_p1 : Nat) (a_p1_data : Nat) (n_p1_data : Nat) (x_row : Value) (x_matches : Value) (x_lists : Value) (x_header : Value) (x_tokens : Value) (x_symbolCounts : Value) (x_distanceCounts : Value) (x_fixedSymbols : Value) (x_fixedDistances : Value) (x_madeSymbols : Value) (x_madeDistances : Value) (v_out_length : Int32) (c_out_data : Nat → Int32) (v_p1_length : Int32) (c_p1_data : Nat → Int32) (v_tokenCount : Int32) (v_extraBits : Int32) (v_out_open : Int32) (v_out_openCount : Int32) : va_W := [(a_this, .inr (7, [x_row, .ref a_out, x_matches, x_lists, x_header, x_tokens, x_symbolCounts, x_distanceCounts, x_fixedSymbols, x_fixedDistances, x_madeSymbols, x_madeDistances, .int v_tokenCount, .int v_extraBits])), (a_out, .inr (1, [.ref a_out_data, .int v_out_length, .int v_out_open, .int v_out_openCount])), (a_out_data, .inl (E.2.2.1, 8256, .inl c_out_data)), (a_p1, .inr (2, [.ref a_p1_data, .int v_p1_length])), (a_p1_data, .inl (E.2.2.1, n_p1_data, .inl c_p1_data))]
def Packer_copyTo (F : Nat) (n_p1_data : Nat) (v_out_length : Int32) (c_out_data : Nat → Int32) (v_p1_length : Int32) (c_p1_data : Nat → Int32) : Option (Unit × Int32 × (Nat → Int32)) :=
  mR2 (BitWriter_copyTo F n_p1_data v_out_length c_out_data v_p1_length c_p1_data) fun _ v_p1_length_1 c_p1_data_2 => some ((), v_p1_length_1, c_p1_data_2)
abbrev Packer_copyTo_rm : Room := { frames := 2, cells := 0, slots := 0, locals := 43 }
set_option maxHeartbeats 4000000 in
set_option maxRecDepth 100000 in
theorem c_Packer_copyTo (l : Launch) (E : xE) (F sz : Nat) (a_this : Nat) (a_out : Nat) (a_out_data : Nat) (a_p1 : Nat) (a_p1_data : Nat) (n_p1_data : Nat) (x_row : Value) (x_matches : Value) (x_lists : Value) (x_header : Value) (x_tokens : Value) (x_symbolCounts : Value) (x_distanceCounts : Value) (x_fixedSymbols : Value) (x_fixedDistances : Value) (x_madeSymbols : Value) (x_madeDistances : Value) (v_out_length : Int32) (c_out_data : Nat → Int32) (v_p1_length : Int32) (c_p1_data : Nat → Int32) (v_tokenCount : Int32) (v_extraBits : Int32) (v_out_open : Int32) (v_out_openCount : Int32) (res : Unit × Int32 × (Nat → Int32)) (hm : Packer_copyTo F n_p1_data v_out_length c_out_data v_p1_length c_p1_data = some res) : Met l y_Packer_copyTo (Cond.code y_Packer_copyTo b_Packer_copyTo 2 none :: x_tb) Packer_copyTo_rm (va_Pc [.ref a_this, .ref a_p1] (xPre E (Packer_copyTo_w E a_this a_out a_out_data a_p1 a_p1_data n_p1_data x_row x_matches x_lists x_header x_tokens x_symbolCounts x_distanceCounts x_fixedSymbols x_fixedDistances x_madeSymbols x_madeDistances v_out_length c_out_data v_p1_length c_p1_data v_tokenCount v_extraBits v_out_open v_out_openCount) sz)) (xQv E (fun (u : Int32 × (Nat → Int32)) => u = res.2) (fun (u : Int32 × (Nat → Int32)) => (Packer_copyTo_w E a_this a_out a_out_data a_p1 a_p1_data n_p1_data x_row x_matches x_lists x_header x_tokens x_symbolCounts x_distanceCounts x_fixedSymbols x_fixedDistances x_madeSymbols x_madeDistances v_out_length c_out_data u.1 u.2 v_tokenCount v_extraBits v_out_open v_out_openCount)) (va_A (Packer_copyTo_w E a_this a_out a_out_data a_p1 a_p1_data n_p1_data x_row x_matches x_lists x_header x_tokens x_symbolCounts x_distanceCounts x_fixedSymbols x_fixedDistances x_madeSymbols x_madeDistances v_out_length c_out_data v_p1_length c_p1_data v_tokenCount v_extraBits v_out_open v_out_openCount) sz)) 0 0 (va_A (Packer_copyTo_w E a_this a_out a_out_data a_p1 a_p1_data n_p1_data x_row x_matches x_lists x_header x_tokens x_symbolCounts x_distanceCounts x_fixedSymbols x_fixedDistances x_madeSymbols x_madeDistances v_out_length c_out_data v_p1_length c_p1_data v_tokenCount v_extraBits v_out_open v_out_openCount) sz) := by
  refine xEnV (by decide) (Nat.le_of_ble_eq_true rfl) ?_
  intro p e s m args below meth c A ls Q hx hb hnm hts hown hml hK hA hI hN hret hP hD hS hl
  replace hown : s.vm.findClass R_Packer = some m.cls := hown
  replace hl : lv_has ls 2 [(0, .ref a_this), (1, .ref a_p1)] := hl
  obtain ⟨H, eH⟩ : ∃ z, z = s.heap := ⟨_, rfl⟩
  obtain ⟨locs, eL⟩ : ∃ z : List Loc, z = [] := ⟨_, rfl⟩
  rw [show W p l e Packer_copyTo_rm s m args below meth c s.heap [] 0 0 Q (F0 m 0 ls []) = W p l e Packer_copyTo_rm s m args below meth c H locs 0 0 Q (F0 m 0 ls []) by rw [eH, eL]]
  replace hP : va_P E.1 vwCl (Packer_copyTo_w E a_this a_out a_out_data a_p1 a_p1_data n_p1_data x_row x_matches x_lists x_header x_tokens x_symbolCounts x_distanceCounts x_fixedSymbols x_fixedDistances x_madeSymbols x_madeDistances v_out_length c_out_data v_p1_length c_p1_data v_tokenCount v_extraBits v_out_open v_out_openCount) H := by rw [eH]; exact hP
  replace hS : va_S A s.heap H locs := by rw [eH, eL]; exact hS
  clear eH eL
  rw [Packer_copyTo] at hm
  refine lv_aload_n hx hb d_Packer_copyTo_0 rfl (lv_at hl 0 rfl) ?_
  refine va_get (D := E.1) (ci := 7) (v := .ref a_out) (C := R_Packer) (T := F_Packer) (N := 14) hx hb hts i_Packer hown hK hP 0 rfl rfl 1 (by decide) (hts _ tw_250) (fun _ h9 => h9) rfl d_Packer_copyTo_1 ?_
  refine lv_aload_n hx hb d_Packer_copyTo_4 rfl (lv_at hl 1 rfl) ?_
  obtain ⟨r_3, v_p1_length_1, c_p1_data_2, hc5, hm⟩ := mR2_e hm
  refine xmv (wc := (BitWriter_copyTo_w E a_out a_out_data a_p1 a_p1_data n_p1_data v_out_length c_out_data v_p1_length c_p1_data v_out_open v_out_openCount)) [false, true, true, true, true] [0, 1, 2, 3] [0, 1, 2, 3] hP hD hS hA rfl (by decide) (by decide) 4 (by decide) (fun _ => rfl) (fun hPc hDc hFc => va_runV (As := [.ref a_p1]) (rest := []) ⟨hx, hb, hml, hown, hts⟩ (c_BitWriter_copyTo l E F H.size a_out a_out_data a_p1 a_p1_data n_p1_data v_out_length c_out_data v_p1_length c_p1_data v_out_open v_out_openCount (r_3, v_p1_length_1, c_p1_data_2) hc5) (cwV 1 hts (x_gV tw_626 tw_627 tw_628 tw_70 tw_629) rfl rfl rfl (by decide +kernel) ⟨Nat.le_of_ble_eq_true rfl, Nat.le_of_ble_eq_true rfl⟩) (xPV 1 0 rfl rfl hPc hDc hFc hK hI hN hS) rfl rfl hl.1 rfl (lv_room (Nat.le_of_ble_eq_true rfl)) d_Packer_copyTo_5 ⟨Nat.le_of_ble_eq_true rfl, Nat.le_of_ble_eq_true rfl⟩) (fun u9 H locs hw hP hD hS => ?_)
  have hw2 : (v_p1_length_1, c_p1_data_2) = u9 := hw.symm
  subst hw2
  replace hP : va_P E.1 vwCl (Packer_copyTo_w E a_this a_out a_out_data a_p1 a_p1_data n_p1_data x_row x_matches x_lists x_header x_tokens x_symbolCounts x_distanceCounts x_fixedSymbols x_fixedDistances x_madeSymbols x_madeDistances v_out_length c_out_data v_p1_length_1 c_p1_data_2 v_tokenCount v_extraBits v_out_open v_out_openCount) H := hP
  replace hD : va_D A (Packer_copyTo_w E a_this a_out a_out_data a_p1 a_p1_data n_p1_data x_row x_matches x_lists x_header x_tokens x_symbolCounts x_distanceCounts x_fixedSymbols x_fixedDistances x_madeSymbols x_madeDistances v_out_length c_out_data v_p1_length_1 c_p1_data_2 v_tokenCount v_extraBits v_out_open v_out_openCount) := hD
  replace hm := Option.some.inj hm
  subst hm
  exact hret d_Packer_copyTo_8 (u := (v_p1_length_1, c_p1_data_2)) rfl hP hD hS
theorem d_Packer_addToken_0 : decode b_Packer_addToken 0 = .ok (.aload_n 0, 1) := by decide +kernel
theorem d_Packer_addToken_1 : decode b_Packer_addToken 1 = .ok (.getfield 155, 3) := by decide +kernel
theorem d_Packer_addToken_4 : decode b_Packer_addToken 4 = .ok (.aload_n 0, 1) := by decide +kernel
theorem d_Packer_addToken_5 : decode b_Packer_addToken 5 = .ok (.getfield 47, 3) := by decide +kernel
theorem d_Packer_addToken_8 : decode b_Packer_addToken 8 = .ok (.arraylength, 1) := by decide +kernel
theorem d_Packer_addToken_9 : decode b_Packer_addToken 9 = .ok (.if_icmp .ge 23, 3) := by decide +kernel
theorem d_Packer_addToken_12 : decode b_Packer_addToken 12 = .ok (.aload_n 0, 1) := by decide +kernel
theorem d_Packer_addToken_13 : decode b_Packer_addToken 13 = .ok (.getfield 47, 3) := by decide +kernel
theorem d_Packer_addToken_16 : decode b_Packer_addToken 16 = .ok (.aload_n 0, 1) := by decide +kernel
theorem d_Packer_addToken_17 : decode b_Packer_addToken 17 = .ok (.getfield 155, 3) := by decide +kernel
theorem d_Packer_addToken_20 : decode b_Packer_addToken 20 = .ok (.iload_n 1, 1) := by decide +kernel
theorem d_Packer_addToken_21 : decode b_Packer_addToken 21 = .ok (.iastore, 1) := by decide +kernel
theorem d_Packer_addToken_22 : decode b_Packer_addToken 22 = .ok (.aload_n 0, 1) := by decide +kernel
theorem d_Packer_addToken_23 : decode b_Packer_addToken 23 = .ok (.dup, 1) := by decide +kernel
theorem d_Packer_addToken_24 : decode b_Packer_addToken 24 = .ok (.getfield 155, 3) := by decide +kernel
theorem d_Packer_addToken_27 : decode b_Packer_addToken 27 = .ok (.iconst 1, 1) := by decide +kernel
theorem d_Packer_addToken_28 : decode b_Packer_addToken 28 = .ok (.iadd, 1) := by decide +kernel
theorem d_Packer_addToken_29 : decode b_Packer_addToken 29 = .ok (.putfield 155, 3) := by decide +kernel
theorem d_Packer_addToken_32 : decode b_Packer_addToken 32 = .ok (.iload_n 1, 1) := by decide +kernel
theorem d_Packer_addToken_33 : decode b_Packer_addToken 33 = .ok (.ldc 174, 2) := by decide +kernel
theorem d_Packer_addToken_35 : decode b_Packer_addToken 35 = .ok (.if_icmp .ge 7, 3) := by decide +kernel
theorem d_Packer_addToken_38 : decode b_Packer_addToken 38 = .ok (.iconst 1, 1) := by decide +kernel
theorem d_Packer_addToken_39 : decode b_Packer_addToken 39 = .ok (.goto 4, 3) := by decide +kernel
theorem d_Packer_addToken_42 : decode b_Packer_addToken 42 = .ok (.iconst 0, 1) := by decide +kernel
theorem d_Packer_addToken_43 : decode b_Packer_addToken 43 = .ok (.istore_n 2, 1) := by decide +kernel
theorem d_Packer_addToken_44 : decode b_Packer_addToken 44 = .ok (.iload_n 2, 1) := by decide +kernel
theorem d_Packer_addToken_45 : decode b_Packer_addToken 45 = .ok (.ifCond .eq 7, 3) := by decide +kernel
theorem d_Packer_addToken_48 : decode b_Packer_addToken 48 = .ok (.iload_n 1, 1) := by decide +kernel
theorem d_Packer_addToken_49 : decode b_Packer_addToken 49 = .ok (.goto 10, 3) := by decide +kernel
theorem d_Packer_addToken_52 : decode b_Packer_addToken 52 = .ok (.iload_n 1, 1) := by decide +kernel
theorem d_Packer_addToken_53 : decode b_Packer_addToken 53 = .ok (.bipush 16, 2) := by decide +kernel
theorem d_Packer_addToken_55 : decode b_Packer_addToken 55 = .ok (.ishr, 1) := by decide +kernel
theorem d_Packer_addToken_56 : decode b_Packer_addToken 56 = .ok (.invokestatic 175, 3) := by decide +kernel
theorem d_Packer_addToken_59 : decode b_Packer_addToken 59 = .ok (.istore_n 3, 1) := by decide +kernel
theorem d_Packer_addToken_60 : decode b_Packer_addToken 60 = .ok (.iload_n 3, 1) := by decide +kernel
theorem d_Packer_addToken_61 : decode b_Packer_addToken 61 = .ok (.ifCond .lt 22, 3) := by decide +kernel
theorem d_Packer_addToken_64 : decode b_Packer_addToken 64 = .ok (.iload_n 3, 1) := by decide +kernel
theorem d_Packer_addToken_65 : decode b_Packer_addToken 65 = .ok (.aload_n 0, 1) := by decide +kernel
theorem d_Packer_addToken_66 : decode b_Packer_addToken 66 = .ok (.getfield 51, 3) := by decide +kernel
theorem d_Packer_addToken_69 : decode b_Packer_addToken 69 = .ok (.arraylength, 1) := by decide +kernel
theorem d_Packer_addToken_70 : decode b_Packer_addToken 70 = .ok (.if_icmp .ge 13, 3) := by decide +kernel
theorem d_Packer_addToken_73 : decode b_Packer_addToken 73 = .ok (.aload_n 0, 1) := by decide +kernel
theorem d_Packer_addToken_74 : decode b_Packer_addToken 74 = .ok (.getfield 51, 3) := by decide +kernel
theorem d_Packer_addToken_77 : decode b_Packer_addToken 77 = .ok (.iload_n 3, 1) := by decide +kernel
theorem d_Packer_addToken_78 : decode b_Packer_addToken 78 = .ok (.dup2, 1) := by decide +kernel
theorem d_Packer_addToken_79 : decode b_Packer_addToken 79 = .ok (.iaload, 1) := by decide +kernel
theorem d_Packer_addToken_80 : decode b_Packer_addToken 80 = .ok (.iconst 1, 1) := by decide +kernel
theorem d_Packer_addToken_81 : decode b_Packer_addToken 81 = .ok (.iadd, 1) := by decide +kernel
theorem d_Packer_addToken_82 : decode b_Packer_addToken 82 = .ok (.iastore, 1) := by decide +kernel
theorem d_Packer_addToken_83 : decode b_Packer_addToken 83 = .ok (.iload_n 2, 1) := by decide +kernel
theorem d_Packer_addToken_84 : decode b_Packer_addToken 84 = .ok (.ifCond .eq 4, 3) := by decide +kernel
theorem d_Packer_addToken_87 : decode b_Packer_addToken 87 = .ok (.return_, 1) := by decide +kernel
theorem d_Packer_addToken_88 : decode b_Packer_addToken 88 = .ok (.iload_n 1, 1) := by decide +kernel
theorem d_Packer_addToken_89 : decode b_Packer_addToken 89 = .ok (.ldc 178, 2) := by decide +kernel
theorem d_Packer_addToken_91 : decode b_Packer_addToken 91 = .ok (.iand, 1) := by decide +kernel
theorem d_Packer_addToken_92 : decode b_Packer_addToken 92 = .ok (.invokestatic 179, 3) := by decide +kernel
theorem d_Packer_addToken_95 : decode b_Packer_addToken 95 = .ok (.istore 4, 2) := by decide +kernel
theorem d_Packer_addToken_97 : decode b_Packer_addToken 97 = .ok (.iload 4, 2) := by decide +kernel
theorem d_Packer_addToken_99 : decode b_Packer_addToken 99 = .ok (.ifCond .lt 24, 3) := by decide +kernel
theorem d_Packer_addToken_102 : decode b_Packer_addToken 102 = .ok (.iload 4, 2) := by decide +kernel
theorem d_Packer_addToken_104 : decode b_Packer_addToken 104 = .ok (.aload_n 0, 1) := by decide +kernel
theorem d_Packer_addToken_105 : decode b_Packer_addToken 105 = .ok (.getfield 54, 3) := by decide +kernel
theorem d_Packer_addToken_108 : decode b_Packer_addToken 108 = .ok (.arraylength, 1) := by decide +kernel
theorem d_Packer_addToken_109 : decode b_Packer_addToken 109 = .ok (.if_icmp .ge 14, 3) := by decide +kernel
theorem d_Packer_addToken_112 : decode b_Packer_addToken 112 = .ok (.aload_n 0, 1) := by decide +kernel
theorem d_Packer_addToken_113 : decode b_Packer_addToken 113 = .ok (.getfield 54, 3) := by decide +kernel
theorem d_Packer_addToken_116 : decode b_Packer_addToken 116 = .ok (.iload 4, 2) := by decide +kernel
theorem d_Packer_addToken_118 : decode b_Packer_addToken 118 = .ok (.dup2, 1) := by decide +kernel
theorem d_Packer_addToken_119 : decode b_Packer_addToken 119 = .ok (.iaload, 1) := by decide +kernel
theorem d_Packer_addToken_120 : decode b_Packer_addToken 120 = .ok (.iconst 1, 1) := by decide +kernel
theorem d_Packer_addToken_121 : decode b_Packer_addToken 121 = .ok (.iadd, 1) := by decide +kernel
theorem d_Packer_addToken_122 : decode b_Packer_addToken 122 = .ok (.iastore, 1) := by decide +kernel
theorem d_Packer_addToken_123 : decode b_Packer_addToken 123 = .ok (.aload_n 0, 1) := by decide +kernel
theorem d_Packer_addToken_124 : decode b_Packer_addToken 124 = .ok (.dup, 1) := by decide +kernel
theorem d_Packer_addToken_125 : decode b_Packer_addToken 125 = .ok (.getfield 159, 3) := by decide +kernel
theorem d_Packer_addToken_128 : decode b_Packer_addToken 128 = .ok (.iload_n 3, 1) := by decide +kernel
theorem d_Packer_addToken_129 : decode b_Packer_addToken 129 = .ok (.invokestatic 182, 3) := by decide +kernel
theorem d_Packer_addToken_132 : decode b_Packer_addToken 132 = .ok (.iload 4, 2) := by decide +kernel
theorem d_Packer_addToken_134 : decode b_Packer_addToken 134 = .ok (.invokestatic 185, 3) := by decide +kernel
theorem d_Packer_addToken_137 : decode b_Packer_addToken 137 = .ok (.iadd, 1) := by decide +kernel
theorem d_Packer_addToken_138 : decode b_Packer_addToken 138 = .ok (.iadd, 1) := by decide +kernel
theorem d_Packer_addToken_139 : decode b_Packer_addToken 139 = .ok (.putfield 159, 3) := by decide +kernel
theorem d_Packer_addToken_142 : decode b_Packer_addToken 142 = .ok (.return_, 1) := by decide +kernel
def Packer_addToken_123 (F : Nat) (v_tokenCount : Int32) (v_extraBits : Int32) (c_tokens : Nat → Int32) (c_symbolCounts : Nat → Int32) (c_distanceCounts : Nat → Int32) (x3 : Int32) (x4 : Int32) : Option (Unit × Int32 × Int32 × (Nat → Int32) × (Nat → Int32) × (Nat → Int32)) :=
  mR0 (P_lengthExtra F x3) fun r_1 => mR0 (P_distanceExtra F x4) fun r_2 => mL (v_extraBits + (r_1 + r_2)) fun v_3 => some ((), v_tokenCount, v_3, c_tokens, c_symbolCounts, c_distanceCounts)
def Packer_addToken_83 (F : Nat) (x1 : Int32) (v_tokenCount : Int32) (v_extraBits : Int32) (c_tokens : Nat → Int32) (c_symbolCounts : Nat → Int32) (c_distanceCounts : Nat → Int32) (x2 : Int32) (x3 : Int32) : Option (Unit × Int32 × Int32 × (Nat → Int32) × (Nat → Int32) × (Nat → Int32)) :=
  mC (x2 = 0) (mL (x1 &&& 65535) fun t_4 => mR0 (P_distanceSymbol F t_4) fun r_5 => mC (r_5 < 0) ((Packer_addToken_123 F) v_tokenCount v_extraBits c_tokens c_symbolCounts c_distanceCounts x3 r_5) (mC (30 ≤ r_5) ((Packer_addToken_123 F) v_tokenCount v_extraBits c_tokens c_symbolCounts c_distanceCounts x3 r_5) (mG r_5 30 (mL ((c_distanceCounts r_5.toNatClampNeg) + 1) fun v_6 => mG r_5 30 (mL (upd c_distanceCounts r_5.toNatClampNeg v_6) fun c_7 => (Packer_addToken_123 F) v_tokenCount v_extraBits c_tokens c_symbolCounts c_7 x3 r_5))))) (some ((), v_tokenCount, v_extraBits, c_tokens, c_symbolCounts, c_distanceCounts))
def Packer_addToken_59 (F : Nat) (x1 : Int32) (v_tokenCount : Int32) (v_extraBits : Int32) (c_tokens : Nat → Int32) (c_symbolCounts : Nat → Int32) (c_distanceCounts : Nat → Int32) (x2 : Int32) (s0 : Int32) : Option (Unit × Int32 × Int32 × (Nat → Int32) × (Nat → Int32) × (Nat → Int32)) :=
  mC (s0 < 0) ((Packer_addToken_83 F x1) v_tokenCount v_extraBits c_tokens c_symbolCounts c_distanceCounts x2 s0) (mC (286 ≤ s0) ((Packer_addToken_83 F x1) v_tokenCount v_extraBits c_tokens c_symbolCounts c_distanceCounts x2 s0) (mG s0 286 (mL ((c_symbolCounts s0.toNatClampNeg) + 1) fun v_8 => mG s0 286 (mL (upd c_symbolCounts s0.toNatClampNeg v_8) fun c_9 => (Packer_addToken_83 F x1) v_tokenCount v_extraBits c_tokens c_9 c_distanceCounts x2 s0))))
def Packer_addToken_43 (F : Nat) (x1 : Int32) (v_tokenCount : Int32) (v_extraBits : Int32) (c_tokens : Nat → Int32) (c_symbolCounts : Nat → Int32) (c_distanceCounts : Nat → Int32) (s0 : Int32) : Option (Unit × Int32 × Int32 × (Nat → Int32) × (Nat → Int32) × (Nat → Int32)) :=
  mC (s0 = 0) (mL (x1 >>> ((16 : Int32) &&& 31)) fun t_10 => mR0 (P_lengthSymbol F t_10) fun r_11 => (Packer_addToken_59 F x1) v_tokenCount v_extraBits c_tokens c_symbolCounts c_distanceCounts s0 r_11) ((Packer_addToken_59 F x1) v_tokenCount v_extraBits c_tokens c_symbolCounts c_distanceCounts s0 x1)
def Packer_addToken_32 (F : Nat) (x1 : Int32) (v_tokenCount : Int32) (v_extraBits : Int32) (c_tokens : Nat → Int32) (c_symbolCounts : Nat → Int32) (c_distanceCounts : Nat → Int32) : Option (Unit × Int32 × Int32 × (Nat → Int32) × (Nat → Int32) × (Nat → Int32)) :=
  mC (65536 ≤ x1) ((Packer_addToken_43 F x1) v_tokenCount v_extraBits c_tokens c_symbolCounts c_distanceCounts 0) ((Packer_addToken_43 F x1) v_tokenCount v_extraBits c_tokens c_symbolCounts c_distanceCounts 1)
abbrev Packer_addToken_w (E : xE) (a_this : Nat) (a_tokens : Nat) (a_symbolCounts : Nat) (a_distanceCounts : Nat) (x_row : Value) (x_out : Value) (x_matches : Value) (x_lists : Value) (x_header : Value) (x_fixedSymbols : Value) (x_fixedDistances : Value) (x_madeSymbols : Value) (x_madeDistances : Value) (v_tokenCount : Int32) (v_extraBits : Int32) (c_tokens : Nat → Int32) (c_symbolCounts : Nat → Int32) (c_distanceCounts : Nat → Int32) : va_W := [(a_this, .inr (7, [x_row, x_out, x_matches, x_lists, x_header, .ref a_tokens, .ref a_symbolCounts, .ref a_distanceCounts, x_fixedSymbols, x_fixedDistances, x_madeSymbols, x_madeDistances, .int v_tokenCount, .int v_extraBits])), (a_tokens, .inl (E.2.1, 4096, .inl c_tokens)), (a_symbolCounts, .inl (E.2.1, 286, .inl c_symbolCounts)), (a_distanceCounts, .inl (E.2.1, 30, .inl c_distanceCounts))]
def Packer_addToken (F : Nat) (v_tokenCount : Int32) (v_extraBits : Int32) (c_tokens : Nat → Int32) (c_symbolCounts : Nat → Int32) (c_distanceCounts : Nat → Int32) (x1 : Int32) : Option (Unit × Int32 × Int32 × (Nat → Int32) × (Nat → Int32) × (Nat → Int32)) :=
  mC (4096 ≤ v_tokenCount) ((Packer_addToken_32 F x1) v_tokenCount v_extraBits c_tokens c_symbolCounts c_distanceCounts) (mG v_tokenCount 4096 (mL (upd c_tokens v_tokenCount.toNatClampNeg x1) fun c_12 => mL (v_tokenCount + 1) fun v_13 => (Packer_addToken_32 F x1) v_13 v_extraBits c_12 c_symbolCounts c_distanceCounts))
abbrev Packer_addToken_rm : Room := { frames := 1, cells := 0, slots := 0, locals := 22 }
set_option maxHeartbeats 4000000 in
set_option maxRecDepth 100000 in
theorem c_Packer_addToken (l : Launch) (E : xE) (F sz : Nat) (a_this : Nat) (a_tokens : Nat) (a_symbolCounts : Nat) (a_distanceCounts : Nat) (x_row : Value) (x_out : Value) (x_matches : Value) (x_lists : Value) (x_header : Value) (x_fixedSymbols : Value) (x_fixedDistances : Value) (x_madeSymbols : Value) (x_madeDistances : Value) (v_tokenCount : Int32) (v_extraBits : Int32) (c_tokens : Nat → Int32) (c_symbolCounts : Nat → Int32) (c_distanceCounts : Nat → Int32) (x1 : Int32) (res : Unit × Int32 × Int32 × (Nat → Int32) × (Nat → Int32) × (Nat → Int32)) (hm : Packer_addToken F v_tokenCount v_extraBits c_tokens c_symbolCounts c_distanceCounts x1 = some res) : Met l y_Packer_addToken (Cond.code y_Packer_addToken b_Packer_addToken 5 none :: x_tb) Packer_addToken_rm (va_Pc [.ref a_this, .int x1] (xPre E (Packer_addToken_w E a_this a_tokens a_symbolCounts a_distanceCounts x_row x_out x_matches x_lists x_header x_fixedSymbols x_fixedDistances x_madeSymbols x_madeDistances v_tokenCount v_extraBits c_tokens c_symbolCounts c_distanceCounts) sz)) (xQv E (fun (u : Int32 × Int32 × (Nat → Int32) × (Nat → Int32) × (Nat → Int32)) => u = res.2) (fun (u : Int32 × Int32 × (Nat → Int32) × (Nat → Int32) × (Nat → Int32)) => (Packer_addToken_w E a_this a_tokens a_symbolCounts a_distanceCounts x_row x_out x_matches x_lists x_header x_fixedSymbols x_fixedDistances x_madeSymbols x_madeDistances u.1 u.2.1 u.2.2.1 u.2.2.2.1 u.2.2.2.2)) (va_A (Packer_addToken_w E a_this a_tokens a_symbolCounts a_distanceCounts x_row x_out x_matches x_lists x_header x_fixedSymbols x_fixedDistances x_madeSymbols x_madeDistances v_tokenCount v_extraBits c_tokens c_symbolCounts c_distanceCounts) sz)) 0 0 (va_A (Packer_addToken_w E a_this a_tokens a_symbolCounts a_distanceCounts x_row x_out x_matches x_lists x_header x_fixedSymbols x_fixedDistances x_madeSymbols x_madeDistances v_tokenCount v_extraBits c_tokens c_symbolCounts c_distanceCounts) sz) := by
  refine xEnV (by decide) (Nat.le_of_ble_eq_true rfl) ?_
  intro p e s m args below meth c A ls Q hx hb hnm hts hown hml hK hA hI hN hret hP hD hS hl
  replace hown : s.vm.findClass R_Packer = some m.cls := hown
  replace hl : lv_has ls 5 [(0, .ref a_this), (1, .int x1)] := hl
  obtain ⟨H, eH⟩ : ∃ z, z = s.heap := ⟨_, rfl⟩
  obtain ⟨locs, eL⟩ : ∃ z : List Loc, z = [] := ⟨_, rfl⟩
  rw [show W p l e Packer_addToken_rm s m args below meth c s.heap [] 0 0 Q (F0 m 0 ls []) = W p l e Packer_addToken_rm s m args below meth c H locs 0 0 Q (F0 m 0 ls []) by rw [eH, eL]]
  replace hP : va_P E.1 vwCl (Packer_addToken_w E a_this a_tokens a_symbolCounts a_distanceCounts x_row x_out x_matches x_lists x_header x_fixedSymbols x_fixedDistances x_madeSymbols x_madeDistances v_tokenCount v_extraBits c_tokens c_symbolCounts c_distanceCounts) H := by rw [eH]; exact hP
  replace hS : va_S A s.heap H locs := by rw [eH, eL]; exact hS
  clear eH eL
  rw [Packer_addToken] at hm
  have h_32 : ∀ (v_tokenCount : Int32) (v_extraBits : Int32) (c_tokens : Nat → Int32) (c_symbolCounts : Nat → Int32) (c_distanceCounts : Nat → Int32) (H : Heap) (locs : List Loc) (ls : Array Slot), (Packer_addToken_32 F x1) v_tokenCount v_extraBits c_tokens c_symbolCounts c_distanceCounts = some res → va_P E.1 vwCl (Packer_addToken_w E a_this a_tokens a_symbolCounts a_distanceCounts x_row x_out x_matches x_lists x_header x_fixedSymbols x_fixedDistances x_madeSymbols x_madeDistances v_tokenCount v_extraBits c_tokens c_symbolCounts c_distanceCounts) H → va_D A (Packer_addToken_w E a_this a_tokens a_symbolCounts a_distanceCounts x_row x_out x_matches x_lists x_header x_fixedSymbols x_fixedDistances x_madeSymbols x_madeDistances v_tokenCount v_extraBits c_tokens c_symbolCounts c_distanceCounts) → va_S A s.heap H locs → lv_has ls 5 [(0, .ref a_this), (1, .int x1)] → W p l e Packer_addToken_rm s m args below meth c H locs 0 0 Q (F0 m 32 ls []) := by
    intro v_tokenCount v_extraBits c_tokens c_symbolCounts c_distanceCounts H locs ls hm hP hD hS hl
    rw [Packer_addToken_32] at hm
    have h_43 : ∀ (v_tokenCount : Int32) (v_extraBits : Int32) (c_tokens : Nat → Int32) (c_symbolCounts : Nat → Int32) (c_distanceCounts : Nat → Int32) (s0 : Int32) (H : Heap) (locs : List Loc) (ls : Array Slot), (Packer_addToken_43 F x1) v_tokenCount v_extraBits c_tokens c_symbolCounts c_distanceCounts s0 = some res → va_P E.1 vwCl (Packer_addToken_w E a_this a_tokens a_symbolCounts a_distanceCounts x_row x_out x_matches x_lists x_header x_fixedSymbols x_fixedDistances x_madeSymbols x_madeDistances v_tokenCount v_extraBits c_tokens c_symbolCounts c_distanceCounts) H → va_D A (Packer_addToken_w E a_this a_tokens a_symbolCounts a_distanceCounts x_row x_out x_matches x_lists x_header x_fixedSymbols x_fixedDistances x_madeSymbols x_madeDistances v_tokenCount v_extraBits c_tokens c_symbolCounts c_distanceCounts) → va_S A s.heap H locs → lv_has ls 5 [(0, .ref a_this), (1, .int x1)] → W p l e Packer_addToken_rm s m args below meth c H locs 0 0 Q (F0 m 43 ls [.int s0]) := by
      intro v_tokenCount v_extraBits c_tokens c_symbolCounts c_distanceCounts s0 H locs ls hm hP hD hS hl
      rw [Packer_addToken_43] at hm
      have h_59 : ∀ (v_tokenCount : Int32) (v_extraBits : Int32) (c_tokens : Nat → Int32) (c_symbolCounts : Nat → Int32) (c_distanceCounts : Nat → Int32) (x2 : Int32) (s0 : Int32) (H : Heap) (locs : List Loc) (ls : Array Slot), (Packer_addToken_59 F x1) v_tokenCount v_extraBits c_tokens c_symbolCounts c_distanceCounts x2 s0 = some res → va_P E.1 vwCl (Packer_addToken_w E a_this a_tokens a_symbolCounts a_distanceCounts x_row x_out x_matches x_lists x_header x_fixedSymbols x_fixedDistances x_madeSymbols x_madeDistances v_tokenCount v_extraBits c_tokens c_symbolCounts c_distanceCounts) H → va_D A (Packer_addToken_w E a_this a_tokens a_symbolCounts a_distanceCounts x_row x_out x_matches x_lists x_header x_fixedSymbols x_fixedDistances x_madeSymbols x_madeDistances v_tokenCount v_extraBits c_tokens c_symbolCounts c_distanceCounts) → va_S A s.heap H locs → lv_has ls 5 [(0, .ref a_this), (1, .int x1), (2, .int x2)] → W p l e Packer_addToken_rm s m args below meth c H locs 0 0 Q (F0 m 59 ls [.int s0]) := by
        intro v_tokenCount v_extraBits c_tokens c_symbolCounts c_distanceCounts x2 s0 H locs ls hm hP hD hS hl
        rw [Packer_addToken_59] at hm
        have h_83 : ∀ (v_tokenCount : Int32) (v_extraBits : Int32) (c_tokens : Nat → Int32) (c_symbolCounts : Nat → Int32) (c_distanceCounts : Nat → Int32) (x2 : Int32) (x3 : Int32) (H : Heap) (locs : List Loc) (ls : Array Slot), (Packer_addToken_83 F x1) v_tokenCount v_extraBits c_tokens c_symbolCounts c_distanceCounts x2 x3 = some res → va_P E.1 vwCl (Packer_addToken_w E a_this a_tokens a_symbolCounts a_distanceCounts x_row x_out x_matches x_lists x_header x_fixedSymbols x_fixedDistances x_madeSymbols x_madeDistances v_tokenCount v_extraBits c_tokens c_symbolCounts c_distanceCounts) H → va_D A (Packer_addToken_w E a_this a_tokens a_symbolCounts a_distanceCounts x_row x_out x_matches x_lists x_header x_fixedSymbols x_fixedDistances x_madeSymbols x_madeDistances v_tokenCount v_extraBits c_tokens c_symbolCounts c_distanceCounts) → va_S A s.heap H locs → lv_has ls 5 [(0, .ref a_this), (1, .int x1), (2, .int x2), (3, .int x3)] → W p l e Packer_addToken_rm s m args below meth c H locs 0 0 Q (F0 m 83 ls []) := by
          intro v_tokenCount v_extraBits c_tokens c_symbolCounts c_distanceCounts x2 x3 H locs ls hm hP hD hS hl
          rw [Packer_addToken_83] at hm
          refine lv_iload_n hx hb d_Packer_addToken_83 rfl (lv_at hl 2 rfl) ?_
          refine lv_if_eq (tgt := 88) hx hb d_Packer_addToken_84 (by decide) (fun c84 => ?_) (fun c84 => ?_)
          · replace hm := mC_t hm c84
            have h_123 : ∀ (v_tokenCount : Int32) (v_extraBits : Int32) (c_tokens : Nat → Int32) (c_symbolCounts : Nat → Int32) (c_distanceCounts : Nat → Int32) (x3 : Int32) (x4 : Int32) (H : Heap) (locs : List Loc) (ls : Array Slot), (Packer_addToken_123 F) v_tokenCount v_extraBits c_tokens c_symbolCounts c_distanceCounts x3 x4 = some res → va_P E.1 vwCl (Packer_addToken_w E a_this a_tokens a_symbolCounts a_distanceCounts x_row x_out x_matches x_lists x_header x_fixedSymbols x_fixedDistances x_madeSymbols x_madeDistances v_tokenCount v_extraBits c_tokens c_symbolCounts c_distanceCounts) H → va_D A (Packer_addToken_w E a_this a_tokens a_symbolCounts a_distanceCounts x_row x_out x_matches x_lists x_header x_fixedSymbols x_fixedDistances x_madeSymbols x_madeDistances v_tokenCount v_extraBits c_tokens c_symbolCounts c_distanceCounts) → va_S A s.heap H locs → lv_has ls 5 [(0, .ref a_this), (3, .int x3), (4, .int x4)] → W p l e Packer_addToken_rm s m args below meth c H locs 0 0 Q (F0 m 123 ls []) := by
              intro v_tokenCount v_extraBits c_tokens c_symbolCounts c_distanceCounts x3 x4 H locs ls hm hP hD hS hl
              rw [Packer_addToken_123] at hm
              refine lv_aload_n hx hb d_Packer_addToken_123 rfl (lv_at hl 0 rfl) ?_
              refine lv_dup hx hb d_Packer_addToken_124 rfl ?_
              refine va_get (D := E.1) (ci := 7) (v := .int v_extraBits) (C := R_Packer) (T := F_Packer) (N := 14) hx hb hts i_Packer hown hK hP 0 rfl rfl 13 (by decide) (hts _ tw_262) (fun _ h9 => h9) rfl d_Packer_addToken_125 ?_
              refine lv_iload_n hx hb d_Packer_addToken_128 rfl (lv_at hl 1 rfl) ?_
              obtain ⟨r_1, hc129, hm⟩ := mR0_e hm
              refine xmi (wc := (P_lengthExtra_w E)) [false, false, false, false] [] [] hP hD hS hA rfl (by decide) (by decide) 0 (by decide) (fun _ => rfl) (fun hPc hDc hFc => va_runSN (As := [.int x3]) (rest := [.int v_extraBits, .ref a_this]) ⟨hx, hb, hml, hown, hts⟩ (c_P_lengthExtra l E F H.size x3 (r_1, ()) hc129) ⟨(va_cnB 1 hts (x_g tw_492) rfl rfl rfl (nM_4 hN) (hts _ tw_66) (by decide +kernel) ⟨Nat.le_of_ble_eq_true rfl, Nat.le_of_ble_eq_true rfl⟩), (hts _ tw_491), trivial⟩ (xPS hPc hDc hFc hK hI hN hS) rfl rfl hl.1 rfl (lv_room (Nat.le_of_ble_eq_true rfl)) d_Packer_addToken_129 ⟨Nat.le_of_ble_eq_true rfl, Nat.le_of_ble_eq_true rfl⟩) (fun r9 u9 H locs hw hP hD hS => ?_)
              have hw1 : r_1 = r9 := hw.1.symm
              subst hw1
              replace hP : va_P E.1 vwCl (Packer_addToken_w E a_this a_tokens a_symbolCounts a_distanceCounts x_row x_out x_matches x_lists x_header x_fixedSymbols x_fixedDistances x_madeSymbols x_madeDistances v_tokenCount v_extraBits c_tokens c_symbolCounts c_distanceCounts) H := hP
              replace hD : va_D A (Packer_addToken_w E a_this a_tokens a_symbolCounts a_distanceCounts x_row x_out x_matches x_lists x_header x_fixedSymbols x_fixedDistances x_madeSymbols x_madeDistances v_tokenCount v_extraBits c_tokens c_symbolCounts c_distanceCounts) := hD
              refine lv_iload hx hb d_Packer_addToken_132 (lv_at hl 2 rfl) ?_
              obtain ⟨r_2, hc134, hm⟩ := mR0_e hm
              refine xmi (wc := (P_distanceExtra_w E)) [false, false, false, false] [] [] hP hD hS hA rfl (by decide) (by decide) 0 (by decide) (fun _ => rfl) (fun hPc hDc hFc => va_runSN (As := [.int x4]) (rest := [.int r_1, .int v_extraBits, .ref a_this]) ⟨hx, hb, hml, hown, hts⟩ (c_P_distanceExtra l E F H.size x4 (r_2, ()) hc134) ⟨(va_cnB 1 hts (x_g tw_495) rfl rfl rfl (nM_5 hN) (hts _ tw_66) (by decide +kernel) ⟨Nat.le_of_ble_eq_true rfl, Nat.le_of_ble_eq_true rfl⟩), (hts _ tw_494), trivial⟩ (xPS hPc hDc hFc hK hI hN hS) rfl rfl hl.1 rfl (lv_room (Nat.le_of_ble_eq_true rfl)) d_Packer_addToken_134 ⟨Nat.le_of_ble_eq_true rfl, Nat.le_of_ble_eq_true rfl⟩) (fun r9 u9 H locs hw hP hD hS => ?_)
              have hw1 : r_2 = r9 := hw.1.symm
              subst hw1
              replace hP : va_P E.1 vwCl (Packer_addToken_w E a_this a_tokens a_symbolCounts a_distanceCounts x_row x_out x_matches x_lists x_header x_fixedSymbols x_fixedDistances x_madeSymbols x_madeDistances v_tokenCount v_extraBits c_tokens c_symbolCounts c_distanceCounts) H := hP
              replace hD : va_D A (Packer_addToken_w E a_this a_tokens a_symbolCounts a_distanceCounts x_row x_out x_matches x_lists x_header x_fixedSymbols x_fixedDistances x_madeSymbols x_madeDistances v_tokenCount v_extraBits c_tokens c_symbolCounts c_distanceCounts) := hD
              refine lv_iadd hx hb d_Packer_addToken_137 ?_
              refine lv_iadd hx hb d_Packer_addToken_138 ?_
              refine lv_topi (fun v_3 ev_3 => ?_)
              replace hm := mL_e hm v_3 ev_3
              refine va_put (D := E.1) (ci := 7) (v := .int v_3) (ty := .int) (C := R_Packer) (T := F_Packer) (N := 14) hx hb hts i_Packer t_Packer t_Packer_ok n_Packer hown hK hP hD hS 0 rfl rfl 13 (by decide) (hts _ tw_262) (fun _ h9 => h9) rfl (by decide +kernel) rfl rfl (Nat.le_of_ble_eq_true rfl) d_Packer_addToken_139 (fun H locs hP hD hS => ?_)
              replace hP : va_P E.1 vwCl (Packer_addToken_w E a_this a_tokens a_symbolCounts a_distanceCounts x_row x_out x_matches x_lists x_header x_fixedSymbols x_fixedDistances x_madeSymbols x_madeDistances v_tokenCount v_3 c_tokens c_symbolCounts c_distanceCounts) H := hP
              replace hD : va_D A (Packer_addToken_w E a_this a_tokens a_symbolCounts a_distanceCounts x_row x_out x_matches x_lists x_header x_fixedSymbols x_fixedDistances x_madeSymbols x_madeDistances v_tokenCount v_3 c_tokens c_symbolCounts c_distanceCounts) := hD
              replace hm := Option.some.inj hm
              subst hm
              exact hret d_Packer_addToken_142 (u := (v_tokenCount, v_3, c_tokens, c_symbolCounts, c_distanceCounts)) rfl hP hD hS
            refine lv_iload_n hx hb d_Packer_addToken_88 rfl (lv_at hl 1 rfl) ?_
            refine lv_ldc (v := 65535) hx hb hown (hts _ tw_486) d_Packer_addToken_89 ?_
            refine lv_iand hx hb d_Packer_addToken_91 ?_
            obtain ⟨t_4, et_4⟩ : ∃ z : Int32, z = x1 &&& 65535 := ⟨_, rfl⟩
            rw [← et_4]
            replace hm := mL_e hm t_4 et_4
            obtain ⟨r_5, hc92, hm⟩ := mR0_e hm
            refine xmi (wc := (P_distanceSymbol_w E)) [false, false, false, false] [] [] hP hD hS hA rfl (by decide) (by decide) 0 (by decide) (fun _ => rfl) (fun hPc hDc hFc => va_runSN (As := [.int t_4]) (rest := []) ⟨hx, hb, hml, hown, hts⟩ (c_P_distanceSymbol l E F H.size t_4 (r_5, ()) hc92) ⟨(va_cnB 1 hts (x_g tw_489) rfl rfl rfl (nM_3 hN) (hts _ tw_66) (by decide +kernel) ⟨Nat.le_of_ble_eq_true rfl, Nat.le_of_ble_eq_true rfl⟩), (hts _ tw_488), trivial⟩ (xPS hPc hDc hFc hK hI hN hS) rfl rfl hl.1 rfl (lv_room (Nat.le_of_ble_eq_true rfl)) d_Packer_addToken_92 ⟨Nat.le_of_ble_eq_true rfl, Nat.le_of_ble_eq_true rfl⟩) (fun r9 u9 H locs hw hP hD hS => ?_)
            have hw1 : r_5 = r9 := hw.1.symm
            subst hw1
            replace hP : va_P E.1 vwCl (Packer_addToken_w E a_this a_tokens a_symbolCounts a_distanceCounts x_row x_out x_matches x_lists x_header x_fixedSymbols x_fixedDistances x_madeSymbols x_madeDistances v_tokenCount v_extraBits c_tokens c_symbolCounts c_distanceCounts) H := hP
            replace hD : va_D A (Packer_addToken_w E a_this a_tokens a_symbolCounts a_distanceCounts x_row x_out x_matches x_lists x_header x_fixedSymbols x_fixedDistances x_madeSymbols x_madeDistances v_tokenCount v_extraBits c_tokens c_symbolCounts c_distanceCounts) := hD
            refine lv_istore (lv' := [(4, .int r_5), (0, .ref a_this), (1, .int x1), (2, .int x2), (3, .int x3)]) hx hb d_Packer_addToken_95 hl (by decide) rfl (fun ls hl => ?_)
            refine lv_iload hx hb d_Packer_addToken_97 (lv_at hl 0 rfl) ?_
            refine lv_if_lt (tgt := 123) hx hb d_Packer_addToken_99 (by decide) (fun c99 => ?_) (fun c99 => ?_)
            · replace hm := mC_t hm c99
              exact h_123 _ _ _ _ _ _ _ H locs ls hm hP hD hS (lv_sub hl [1, 4, 0] rfl)
            · replace hm := mC_f hm c99
              refine lv_iload hx hb d_Packer_addToken_102 (lv_at hl 0 rfl) ?_
              refine lv_aload_n hx hb d_Packer_addToken_104 rfl (lv_at hl 1 rfl) ?_
              refine va_get (D := E.1) (ci := 7) (v := .ref a_distanceCounts) (C := R_Packer) (T := F_Packer) (N := 14) hx hb hts i_Packer hown hK hP 0 rfl rfl 7 (by decide) (hts _ tw_256) (fun _ h9 => h9) rfl d_Packer_addToken_105 ?_
              refine va_alen (v := 30) hx hb hK hP 3 0 rfl rfl rfl d_Packer_addToken_108 ?_
              refine lv_icmp_ge (tgt := 123) hx hb d_Packer_addToken_109 (by decide) (fun c109 => ?_) (fun c109 => ?_)
              · replace hm := mC_t hm c109
                exact h_123 _ _ _ _ _ _ _ H locs ls hm hP hD hS (lv_sub hl [1, 4, 0] rfl)
              · replace hm := mC_f hm c109
                refine lv_aload_n hx hb d_Packer_addToken_112 rfl (lv_at hl 1 rfl) ?_
                refine va_get (D := E.1) (ci := 7) (v := .ref a_distanceCounts) (C := R_Packer) (T := F_Packer) (N := 14) hx hb hts i_Packer hown hK hP 0 rfl rfl 7 (by decide) (hts _ tw_256) (fun _ h9 => h9) rfl d_Packer_addToken_113 ?_
                refine lv_iload hx hb d_Packer_addToken_116 (lv_at hl 0 rfl) ?_
                refine lv_dup2_11 hx hb d_Packer_addToken_118 rfl rfl ?_
                obtain ⟨hi119, hm⟩ := mG_e hm
                refine va_iald hx hb hK hP 3 0 rfl rfl hi119 d_Packer_addToken_119 ?_
                refine lv_iconst (v := 1) hx hb d_Packer_addToken_120 (by decide) ?_
                refine lv_iadd hx hb d_Packer_addToken_121 ?_
                refine lv_topi (fun v_6 ev_6 => ?_)
                replace hm := mL_e hm v_6 ev_6
                obtain ⟨hi122, hm⟩ := mG_e hm
                obtain ⟨c_7, ec_7⟩ : ∃ z : Nat → Int32, z = upd c_distanceCounts r_5.toNatClampNeg v_6 := ⟨_, rfl⟩
                replace hm := mL_e hm c_7 ec_7
                refine va_iast hx hb hK hP hD hS 3 0 rfl rfl hi122 d_Packer_addToken_122 (fun H locs hP hD hS => ?_)
                rw [← ec_7] at hP hD
                replace hP : va_P E.1 vwCl (Packer_addToken_w E a_this a_tokens a_symbolCounts a_distanceCounts x_row x_out x_matches x_lists x_header x_fixedSymbols x_fixedDistances x_madeSymbols x_madeDistances v_tokenCount v_extraBits c_tokens c_symbolCounts c_7) H := hP
                replace hD : va_D A (Packer_addToken_w E a_this a_tokens a_symbolCounts a_distanceCounts x_row x_out x_matches x_lists x_header x_fixedSymbols x_fixedDistances x_madeSymbols x_madeDistances v_tokenCount v_extraBits c_tokens c_symbolCounts c_7) := hD
                exact h_123 _ _ _ _ _ _ _ H locs ls hm hP hD hS (lv_sub hl [1, 4, 0] rfl)
          · replace hm := mC_f hm c84
            replace hm := Option.some.inj hm
            subst hm
            exact hret d_Packer_addToken_87 (u := (v_tokenCount, v_extraBits, c_tokens, c_symbolCounts, c_distanceCounts)) rfl hP hD hS
        refine lv_istore_n (lv' := [(3, .int s0), (0, .ref a_this), (1, .int x1), (2, .int x2)]) hx hb d_Packer_addToken_59 rfl hl (by decide) rfl (fun ls hl => ?_)
        refine lv_iload_n hx hb d_Packer_addToken_60 rfl (lv_at hl 0 rfl) ?_
        refine lv_if_lt (tgt := 83) hx hb d_Packer_addToken_61 (by decide) (fun c61 => ?_) (fun c61 => ?_)
        · replace hm := mC_t hm c61
          exact h_83 _ _ _ _ _ _ _ H locs ls hm hP hD hS (lv_sub hl [1, 2, 3, 0] rfl)
        · replace hm := mC_f hm c61
          refine lv_iload_n hx hb d_Packer_addToken_64 rfl (lv_at hl 0 rfl) ?_
          refine lv_aload_n hx hb d_Packer_addToken_65 rfl (lv_at hl 1 rfl) ?_
          refine va_get (D := E.1) (ci := 7) (v := .ref a_symbolCounts) (C := R_Packer) (T := F_Packer) (N := 14) hx hb hts i_Packer hown hK hP 0 rfl rfl 6 (by decide) (hts _ tw_255) (fun _ h9 => h9) rfl d_Packer_addToken_66 ?_
          refine va_alen (v := 286) hx hb hK hP 2 0 rfl rfl rfl d_Packer_addToken_69 ?_
          refine lv_icmp_ge (tgt := 83) hx hb d_Packer_addToken_70 (by decide) (fun c70 => ?_) (fun c70 => ?_)
          · replace hm := mC_t hm c70
            exact h_83 _ _ _ _ _ _ _ H locs ls hm hP hD hS (lv_sub hl [1, 2, 3, 0] rfl)
          · replace hm := mC_f hm c70
            refine lv_aload_n hx hb d_Packer_addToken_73 rfl (lv_at hl 1 rfl) ?_
            refine va_get (D := E.1) (ci := 7) (v := .ref a_symbolCounts) (C := R_Packer) (T := F_Packer) (N := 14) hx hb hts i_Packer hown hK hP 0 rfl rfl 6 (by decide) (hts _ tw_255) (fun _ h9 => h9) rfl d_Packer_addToken_74 ?_
            refine lv_iload_n hx hb d_Packer_addToken_77 rfl (lv_at hl 0 rfl) ?_
            refine lv_dup2_11 hx hb d_Packer_addToken_78 rfl rfl ?_
            obtain ⟨hi79, hm⟩ := mG_e hm
            refine va_iald hx hb hK hP 2 0 rfl rfl hi79 d_Packer_addToken_79 ?_
            refine lv_iconst (v := 1) hx hb d_Packer_addToken_80 (by decide) ?_
            refine lv_iadd hx hb d_Packer_addToken_81 ?_
            refine lv_topi (fun v_8 ev_8 => ?_)
            replace hm := mL_e hm v_8 ev_8
            obtain ⟨hi82, hm⟩ := mG_e hm
            obtain ⟨c_9, ec_9⟩ : ∃ z : Nat → Int32, z = upd c_symbolCounts s0.toNatClampNeg v_8 := ⟨_, rfl⟩
            replace hm := mL_e hm c_9 ec_9
            refine va_iast hx hb hK hP hD hS 2 0 rfl rfl hi82 d_Packer_addToken_82 (fun H locs hP hD hS => ?_)
            rw [← ec_9] at hP hD
            replace hP : va_P E.1 vwCl (Packer_addToken_w E a_this a_tokens a_symbolCounts a_distanceCounts x_row x_out x_matches x_lists x_header x_fixedSymbols x_fixedDistances x_madeSymbols x_madeDistances v_tokenCount v_extraBits c_tokens c_9 c_distanceCounts) H := hP
            replace hD : va_D A (Packer_addToken_w E a_this a_tokens a_symbolCounts a_distanceCounts x_row x_out x_matches x_lists x_header x_fixedSymbols x_fixedDistances x_madeSymbols x_madeDistances v_tokenCount v_extraBits c_tokens c_9 c_distanceCounts) := hD
            exact h_83 _ _ _ _ _ _ _ H locs ls hm hP hD hS (lv_sub hl [1, 2, 3, 0] rfl)
      refine lv_istore_n (lv' := [(2, .int s0), (0, .ref a_this), (1, .int x1)]) hx hb d_Packer_addToken_43 rfl hl (by decide) rfl (fun ls hl => ?_)
      refine lv_iload_n hx hb d_Packer_addToken_44 rfl (lv_at hl 0 rfl) ?_
      refine lv_if_eq (tgt := 52) hx hb d_Packer_addToken_45 (by decide) (fun c45 => ?_) (fun c45 => ?_)
      · replace hm := mC_t hm c45
        refine lv_iload_n hx hb d_Packer_addToken_52 rfl (lv_at hl 2 rfl) ?_
        refine lv_bipush (v := 16) hx hb d_Packer_addToken_53 (by decide) ?_
        refine lv_ishr hx hb d_Packer_addToken_55 ?_
        obtain ⟨t_10, et_10⟩ : ∃ z : Int32, z = x1 >>> ((16 : Int32) &&& 31) := ⟨_, rfl⟩
        rw [← et_10]
        replace hm := mL_e hm t_10 et_10
        obtain ⟨r_11, hc56, hm⟩ := mR0_e hm
        refine xmi (wc := (P_lengthSymbol_w E)) [false, false, false, false] [] [] hP hD hS hA rfl (by decide) (by decide) 0 (by decide) (fun _ => rfl) (fun hPc hDc hFc => va_runSN (As := [.int t_10]) (rest := []) ⟨hx, hb, hml, hown, hts⟩ (c_P_lengthSymbol l E F H.size t_10 (r_11, ()) hc56) ⟨(va_cnB 1 hts (x_g tw_485) rfl rfl rfl (nM_2 hN) (hts _ tw_66) (by decide +kernel) ⟨Nat.le_of_ble_eq_true rfl, Nat.le_of_ble_eq_true rfl⟩), (hts _ tw_484), trivial⟩ (xPS hPc hDc hFc hK hI hN hS) rfl rfl hl.1 rfl (lv_room (Nat.le_of_ble_eq_true rfl)) d_Packer_addToken_56 ⟨Nat.le_of_ble_eq_true rfl, Nat.le_of_ble_eq_true rfl⟩) (fun r9 u9 H locs hw hP hD hS => ?_)
        have hw1 : r_11 = r9 := hw.1.symm
        subst hw1
        replace hP : va_P E.1 vwCl (Packer_addToken_w E a_this a_tokens a_symbolCounts a_distanceCounts x_row x_out x_matches x_lists x_header x_fixedSymbols x_fixedDistances x_madeSymbols x_madeDistances v_tokenCount v_extraBits c_tokens c_symbolCounts c_distanceCounts) H := hP
        replace hD : va_D A (Packer_addToken_w E a_this a_tokens a_symbolCounts a_distanceCounts x_row x_out x_matches x_lists x_header x_fixedSymbols x_fixedDistances x_madeSymbols x_madeDistances v_tokenCount v_extraBits c_tokens c_symbolCounts c_distanceCounts) := hD
        exact h_59 _ _ _ _ _ _ _ H locs ls hm hP hD hS (lv_sub hl [1, 2, 0] rfl)
      · replace hm := mC_f hm c45
        refine lv_iload_n hx hb d_Packer_addToken_48 rfl (lv_at hl 2 rfl) ?_
        refine lv_goto (tgt := 59) hx hb d_Packer_addToken_49 (by decide) ?_
        exact h_59 _ _ _ _ _ _ _ H locs ls hm hP hD hS (lv_sub hl [1, 2, 0] rfl)
    refine lv_iload_n hx hb d_Packer_addToken_32 rfl (lv_at hl 1 rfl) ?_
    refine lv_ldc (v := 65536) hx hb hown (hts _ tw_482) d_Packer_addToken_33 ?_
    refine lv_icmp_ge (tgt := 42) hx hb d_Packer_addToken_35 (by decide) (fun c35 => ?_) (fun c35 => ?_)
    · replace hm := mC_t hm c35
      refine lv_iconst (v := 0) hx hb d_Packer_addToken_42 (by decide) ?_
      exact h_43 _ _ _ _ _ _ H locs ls hm hP hD hS hl
    · replace hm := mC_f hm c35
      refine lv_iconst (v := 1) hx hb d_Packer_addToken_38 (by decide) ?_
      refine lv_goto (tgt := 43) hx hb d_Packer_addToken_39 (by decide) ?_
      exact h_43 _ _ _ _ _ _ H locs ls hm hP hD hS hl
  refine lv_aload_n hx hb d_Packer_addToken_0 rfl (lv_at hl 0 rfl) ?_
  refine va_get (D := E.1) (ci := 7) (v := .int v_tokenCount) (C := R_Packer) (T := F_Packer) (N := 14) hx hb hts i_Packer hown hK hP 0 rfl rfl 12 (by decide) (hts _ tw_261) (fun _ h9 => h9) rfl d_Packer_addToken_1 ?_
  refine lv_aload_n hx hb d_Packer_addToken_4 rfl (lv_at hl 0 rfl) ?_
  refine va_get (D := E.1) (ci := 7) (v := .ref a_tokens) (C := R_Packer) (T := F_Packer) (N := 14) hx hb hts i_Packer hown hK hP 0 rfl rfl 5 (by decide) (hts _ tw_254) (fun _ h9 => h9) rfl d_Packer_addToken_5 ?_
  refine va_alen (v := 4096) hx hb hK hP 1 0 rfl rfl rfl d_Packer_addToken_8 ?_
  refine lv_icmp_ge (tgt := 32) hx hb d_Packer_addToken_9 (by decide) (fun c9 => ?_) (fun c9 => ?_)
  · replace hm := mC_t hm c9
    exact h_32 _ _ _ _ _ H locs ls hm hP hD hS hl
  · replace hm := mC_f hm c9
    refine lv_aload_n hx hb d_Packer_addToken_12 rfl (lv_at hl 0 rfl) ?_
    refine va_get (D := E.1) (ci := 7) (v := .ref a_tokens) (C := R_Packer) (T := F_Packer) (N := 14) hx hb hts i_Packer hown hK hP 0 rfl rfl 5 (by decide) (hts _ tw_254) (fun _ h9 => h9) rfl d_Packer_addToken_13 ?_
    refine lv_aload_n hx hb d_Packer_addToken_16 rfl (lv_at hl 0 rfl) ?_
    refine va_get (D := E.1) (ci := 7) (v := .int v_tokenCount) (C := R_Packer) (T := F_Packer) (N := 14) hx hb hts i_Packer hown hK hP 0 rfl rfl 12 (by decide) (hts _ tw_261) (fun _ h9 => h9) rfl d_Packer_addToken_17 ?_
    refine lv_iload_n hx hb d_Packer_addToken_20 rfl (lv_at hl 1 rfl) ?_
    obtain ⟨hi21, hm⟩ := mG_e hm
    obtain ⟨c_12, ec_12⟩ : ∃ z : Nat → Int32, z = upd c_tokens v_tokenCount.toNatClampNeg x1 := ⟨_, rfl⟩
    replace hm := mL_e hm c_12 ec_12
    refine va_iast hx hb hK hP hD hS 1 0 rfl rfl hi21 d_Packer_addToken_21 (fun H locs hP hD hS => ?_)
    rw [← ec_12] at hP hD
    replace hP : va_P E.1 vwCl (Packer_addToken_w E a_this a_tokens a_symbolCounts a_distanceCounts x_row x_out x_matches x_lists x_header x_fixedSymbols x_fixedDistances x_madeSymbols x_madeDistances v_tokenCount v_extraBits c_12 c_symbolCounts c_distanceCounts) H := hP
    replace hD : va_D A (Packer_addToken_w E a_this a_tokens a_symbolCounts a_distanceCounts x_row x_out x_matches x_lists x_header x_fixedSymbols x_fixedDistances x_madeSymbols x_madeDistances v_tokenCount v_extraBits c_12 c_symbolCounts c_distanceCounts) := hD
    refine lv_aload_n hx hb d_Packer_addToken_22 rfl (lv_at hl 0 rfl) ?_
    refine lv_dup hx hb d_Packer_addToken_23 rfl ?_
    refine va_get (D := E.1) (ci := 7) (v := .int v_tokenCount) (C := R_Packer) (T := F_Packer) (N := 14) hx hb hts i_Packer hown hK hP 0 rfl rfl 12 (by decide) (hts _ tw_261) (fun _ h9 => h9) rfl d_Packer_addToken_24 ?_
    refine lv_iconst (v := 1) hx hb d_Packer_addToken_27 (by decide) ?_
    refine lv_iadd hx hb d_Packer_addToken_28 ?_
    refine lv_topi (fun v_13 ev_13 => ?_)
    replace hm := mL_e hm v_13 ev_13
    refine va_put (D := E.1) (ci := 7) (v := .int v_13) (ty := .int) (C := R_Packer) (T := F_Packer) (N := 14) hx hb hts i_Packer t_Packer t_Packer_ok n_Packer hown hK hP hD hS 0 rfl rfl 12 (by decide) (hts _ tw_261) (fun _ h9 => h9) rfl (by decide +kernel) rfl rfl (Nat.le_of_ble_eq_true rfl) d_Packer_addToken_29 (fun H locs hP hD hS => ?_)
    replace hP : va_P E.1 vwCl (Packer_addToken_w E a_this a_tokens a_symbolCounts a_distanceCounts x_row x_out x_matches x_lists x_header x_fixedSymbols x_fixedDistances x_madeSymbols x_madeDistances v_13 v_extraBits c_12 c_symbolCounts c_distanceCounts) H := hP
    replace hD : va_D A (Packer_addToken_w E a_this a_tokens a_symbolCounts a_distanceCounts x_row x_out x_matches x_lists x_header x_fixedSymbols x_fixedDistances x_madeSymbols x_madeDistances v_13 v_extraBits c_12 c_symbolCounts c_distanceCounts) := hD
    exact h_32 _ _ _ _ _ H locs ls hm hP hD hS hl
theorem d_Packer_collectTokens_0 : decode b_Packer_collectTokens 0 = .ok (.aload_n 0, 1) := by decide +kernel
theorem d_Packer_collectTokens_1 : decode b_Packer_collectTokens 1 = .ok (.getfield 51, 3) := by decide +kernel
theorem d_Packer_collectTokens_4 : decode b_Packer_collectTokens 4 = .ok (.iconst 0, 1) := by decide +kernel
theorem d_Packer_collectTokens_5 : decode b_Packer_collectTokens 5 = .ok (.invokestatic 82, 3) := by decide +kernel
theorem d_Packer_collectTokens_8 : decode b_Packer_collectTokens 8 = .ok (.aload_n 0, 1) := by decide +kernel
theorem d_Packer_collectTokens_9 : decode b_Packer_collectTokens 9 = .ok (.getfield 54, 3) := by decide +kernel
theorem d_Packer_collectTokens_12 : decode b_Packer_collectTokens 12 = .ok (.iconst 0, 1) := by decide +kernel
theorem d_Packer_collectTokens_13 : decode b_Packer_collectTokens 13 = .ok (.invokestatic 82, 3) := by decide +kernel
theorem d_Packer_collectTokens_16 : decode b_Packer_collectTokens 16 = .ok (.aload_n 0, 1) := by decide +kernel
theorem d_Packer_collectTokens_17 : decode b_Packer_collectTokens 17 = .ok (.iconst 0, 1) := by decide +kernel
theorem d_Packer_collectTokens_18 : decode b_Packer_collectTokens 18 = .ok (.putfield 155, 3) := by decide +kernel
theorem d_Packer_collectTokens_21 : decode b_Packer_collectTokens 21 = .ok (.aload_n 0, 1) := by decide +kernel
theorem d_Packer_collectTokens_22 : decode b_Packer_collectTokens 22 = .ok (.iconst 0, 1) := by decide +kernel
theorem d_Packer_collectTokens_23 : decode b_Packer_collectTokens 23 = .ok (.putfield 159, 3) := by decide +kernel
theorem d_Packer_collectTokens_26 : decode b_Packer_collectTokens 26 = .ok (.iload_n 1, 1) := by decide +kernel
theorem d_Packer_collectTokens_27 : decode b_Packer_collectTokens 27 = .ok (.istore_n 3, 1) := by decide +kernel
theorem d_Packer_collectTokens_28 : decode b_Packer_collectTokens 28 = .ok (.iload_n 3, 1) := by decide +kernel
theorem d_Packer_collectTokens_29 : decode b_Packer_collectTokens 29 = .ok (.iload_n 2, 1) := by decide +kernel
theorem d_Packer_collectTokens_30 : decode b_Packer_collectTokens 30 = .ok (.if_icmp .ge 51, 3) := by decide +kernel
theorem d_Packer_collectTokens_33 : decode b_Packer_collectTokens 33 = .ok (.aload_n 0, 1) := by decide +kernel
theorem d_Packer_collectTokens_34 : decode b_Packer_collectTokens 34 = .ok (.getfield 27, 3) := by decide +kernel
theorem d_Packer_collectTokens_37 : decode b_Packer_collectTokens 37 = .ok (.iload_n 3, 1) := by decide +kernel
theorem d_Packer_collectTokens_38 : decode b_Packer_collectTokens 38 = .ok (.iload_n 2, 1) := by decide +kernel
theorem d_Packer_collectTokens_39 : decode b_Packer_collectTokens 39 = .ok (.invokevirtual 162, 3) := by decide +kernel
theorem d_Packer_collectTokens_42 : decode b_Packer_collectTokens 42 = .ok (.istore 4, 2) := by decide +kernel
theorem d_Packer_collectTokens_44 : decode b_Packer_collectTokens 44 = .ok (.aload_n 0, 1) := by decide +kernel
theorem d_Packer_collectTokens_45 : decode b_Packer_collectTokens 45 = .ok (.iload 4, 2) := by decide +kernel
theorem d_Packer_collectTokens_47 : decode b_Packer_collectTokens 47 = .ok (.ifCond .le 8, 3) := by decide +kernel
theorem d_Packer_collectTokens_50 : decode b_Packer_collectTokens 50 = .ok (.iload 4, 2) := by decide +kernel
theorem d_Packer_collectTokens_52 : decode b_Packer_collectTokens 52 = .ok (.goto 11, 3) := by decide +kernel
theorem d_Packer_collectTokens_55 : decode b_Packer_collectTokens 55 = .ok (.aload_n 0, 1) := by decide +kernel
theorem d_Packer_collectTokens_56 : decode b_Packer_collectTokens 56 = .ok (.getfield 9, 3) := by decide +kernel
theorem d_Packer_collectTokens_59 : decode b_Packer_collectTokens 59 = .ok (.iload_n 3, 1) := by decide +kernel
theorem d_Packer_collectTokens_60 : decode b_Packer_collectTokens 60 = .ok (.invokevirtual 165, 3) := by decide +kernel
theorem d_Packer_collectTokens_63 : decode b_Packer_collectTokens 63 = .ok (.invokevirtual 168, 3) := by decide +kernel
theorem d_Packer_collectTokens_66 : decode b_Packer_collectTokens 66 = .ok (.iload_n 3, 1) := by decide +kernel
theorem d_Packer_collectTokens_67 : decode b_Packer_collectTokens 67 = .ok (.iconst 1, 1) := by decide +kernel
theorem d_Packer_collectTokens_68 : decode b_Packer_collectTokens 68 = .ok (.iload 4, 2) := by decide +kernel
theorem d_Packer_collectTokens_70 : decode b_Packer_collectTokens 70 = .ok (.bipush 16, 2) := by decide +kernel
theorem d_Packer_collectTokens_72 : decode b_Packer_collectTokens 72 = .ok (.ishr, 1) := by decide +kernel
theorem d_Packer_collectTokens_73 : decode b_Packer_collectTokens 73 = .ok (.invokestatic 171, 3) := by decide +kernel
theorem d_Packer_collectTokens_76 : decode b_Packer_collectTokens 76 = .ok (.iadd, 1) := by decide +kernel
theorem d_Packer_collectTokens_77 : decode b_Packer_collectTokens 77 = .ok (.istore_n 3, 1) := by decide +kernel
theorem d_Packer_collectTokens_78 : decode b_Packer_collectTokens 78 = .ok (.goto (-50), 3) := by decide +kernel
theorem d_Packer_collectTokens_81 : decode b_Packer_collectTokens 81 = .ok (.aload_n 0, 1) := by decide +kernel
theorem d_Packer_collectTokens_82 : decode b_Packer_collectTokens 82 = .ok (.getfield 51, 3) := by decide +kernel
theorem d_Packer_collectTokens_85 : decode b_Packer_collectTokens 85 = .ok (.sipush 256, 3) := by decide +kernel
theorem d_Packer_collectTokens_88 : decode b_Packer_collectTokens 88 = .ok (.iconst 1, 1) := by decide +kernel
theorem d_Packer_collectTokens_89 : decode b_Packer_collectTokens 89 = .ok (.iastore, 1) := by decide +kernel
theorem d_Packer_collectTokens_90 : decode b_Packer_collectTokens 90 = .ok (.return_, 1) := by decide +kernel
def Packer_collectTokens_81 (F : Nat) (v_tokenCount : Int32) (v_extraBits : Int32) (c_symbolCounts : Nat → Int32) (c_distanceCounts : Nat → Int32) (c_tokens : Nat → Int32) : Option (Unit × Int32 × Int32 × (Nat → Int32) × (Nat → Int32) × (Nat → Int32)) :=
  mG 256 286 (mL (upd c_symbolCounts (256 : Int32).toNatClampNeg 1) fun c_1 => some ((), v_tokenCount, v_extraBits, c_1, c_distanceCounts, c_tokens))
def Packer_collectTokens_63 (F : Nat) (k_28 : Int32 → Int32 → (Nat → Int32) → (Nat → Int32) → (Nat → Int32) → Int32 → Option (Unit × Int32 × Int32 × (Nat → Int32) × (Nat → Int32) × (Nat → Int32))) (v_tokenCount : Int32) (v_extraBits : Int32) (c_symbolCounts : Nat → Int32) (c_distanceCounts : Nat → Int32) (c_tokens : Nat → Int32) (x3 : Int32) (x4 : Int32) (s1 : Int32) : Option (Unit × Int32 × Int32 × (Nat → Int32) × (Nat → Int32) × (Nat → Int32)) :=
  mR5 (Packer_addToken F v_tokenCount v_extraBits c_tokens c_symbolCounts c_distanceCounts s1) fun _ v_tokenCount_2 v_extraBits_3 c_tokens_4 c_symbolCounts_5 c_distanceCounts_6 => mL (x4 >>> ((16 : Int32) &&& 31)) fun t_8 => mL (x3 + (if 1 < t_8 then t_8 else 1)) fun y3_9 => k_28 v_tokenCount_2 v_extraBits_3 c_symbolCounts_5 c_distanceCounts_6 c_tokens_4 y3_9
def Packer_collectTokens_28 (F : Nat) (n_row_data : Nat) (c_matches_before : Nat → Int32) (v_row_length : Int32) (c_row_data : Nat → Int32) (x2 : Int32) (k_81 : Int32 → Int32 → (Nat → Int32) → (Nat → Int32) → (Nat → Int32) → Option (Unit × Int32 × Int32 × (Nat → Int32) × (Nat → Int32) × (Nat → Int32))) (k_28 : Int32 → Int32 → (Nat → Int32) → (Nat → Int32) → (Nat → Int32) → Int32 → Option (Unit × Int32 × Int32 × (Nat → Int32) × (Nat → Int32) × (Nat → Int32))) (v_tokenCount : Int32) (v_extraBits : Int32) (c_symbolCounts : Nat → Int32) (c_distanceCounts : Nat → Int32) (c_tokens : Nat → Int32) (x3 : Int32) : Option (Unit × Int32 × Int32 × (Nat → Int32) × (Nat → Int32) × (Nat → Int32)) :=
  mC (x2 ≤ x3) (k_81 v_tokenCount v_extraBits c_symbolCounts c_distanceCounts c_tokens) (mR0 (Matches_best F n_row_data c_matches_before v_row_length c_row_data x3 x2) fun r_10 => mC (r_10 ≤ 0) (mR0 (Bytes_at F n_row_data v_row_length c_row_data x3) fun r_11 => (Packer_collectTokens_63 F k_28) v_tokenCount v_extraBits c_symbolCounts c_distanceCounts c_tokens x3 r_10 r_11) ((Packer_collectTokens_63 F k_28) v_tokenCount v_extraBits c_symbolCounts c_distanceCounts c_tokens x3 r_10 r_10))
abbrev Packer_collectTokens_w (E : xE) (a_this : Nat) (a_symbolCounts : Nat) (a_distanceCounts : Nat) (a_matches : Nat) (a_matches_before : Nat) (a_row : Nat) (a_row_data : Nat) (a_tokens : Nat) (n_row_data : Nat) (x_out : Value) (x_lists : Value) (x_header : Value) (x_fixedSymbols : Value) (x_fixedDistances : Value) (x_madeSymbols : Value) (x_madeDistances : Value) (x_matches_latest : Value) (c_matches_before : Nat → Int32) (v_row_length : Int32) (c_row_data : Nat → Int32) (v_tokenCount : Int32) (v_extraBits : Int32) (c_symbolCounts : Nat → Int32) (c_distanceCounts : Nat → Int32) (c_tokens : Nat → Int32) : va_W := [(a_this, .inr (7, [.ref a_row, x_out, .ref a_matches, x_lists, x_header, .ref a_tokens, .ref a_symbolCounts, .ref a_distanceCounts, x_fixedSymbols, x_fixedDistances, x_madeSymbols, x_madeDistances, .int v_tokenCount, .int v_extraBits])), (a_symbolCounts, .inl (E.2.1, 286, .inl c_symbolCounts)), (a_distanceCounts, .inl (E.2.1, 30, .inl c_distanceCounts)), (a_matches, .inr (6, [.ref a_row, x_matches_latest, .ref a_matches_before])), (a_matches_before, .inl (E.2.1, 8192, .inl c_matches_before)), (a_row, .inr (2, [.ref a_row_data, .int v_row_length])), (a_row_data, .inl (E.2.2.1, n_row_data, .inl c_row_data)), (a_tokens, .inl (E.2.1, 4096, .inl c_tokens))]
def Packer_collectTokens (F : Nat) (n_row_data : Nat) (c_matches_before : Nat → Int32) (v_row_length : Int32) (c_row_data : Nat → Int32) (v_tokenCount : Int32) (v_extraBits : Int32) (c_symbolCounts : Nat → Int32) (c_distanceCounts : Nat → Int32) (c_tokens : Nat → Int32) (x1 : Int32) (x2 : Int32) : Option (Unit × Int32 × Int32 × (Nat → Int32) × (Nat → Int32) × (Nat → Int32)) :=
  mR1 (Arr_fill F 286 c_symbolCounts 0) fun _ c_p0_12 => mR1 (Arr_fill F 30 c_distanceCounts 0) fun _ c_p0_14 => (mW6 (Packer_collectTokens_28 F n_row_data c_matches_before v_row_length c_row_data x2 (Packer_collectTokens_81 F)) F) 0 0 c_p0_12 c_p0_14 c_tokens x1
abbrev Packer_collectTokens_rm : Room := { frames := 3, cells := 0, slots := 0, locals := 73 }
set_option maxHeartbeats 4000000 in
set_option maxRecDepth 100000 in
theorem c_Packer_collectTokens (l : Launch) (E : xE) (F sz : Nat) (a_this : Nat) (a_symbolCounts : Nat) (a_distanceCounts : Nat) (a_matches : Nat) (a_matches_before : Nat) (a_row : Nat) (a_row_data : Nat) (a_tokens : Nat) (n_row_data : Nat) (x_out : Value) (x_lists : Value) (x_header : Value) (x_fixedSymbols : Value) (x_fixedDistances : Value) (x_madeSymbols : Value) (x_madeDistances : Value) (x_matches_latest : Value) (c_matches_before : Nat → Int32) (v_row_length : Int32) (c_row_data : Nat → Int32) (v_tokenCount : Int32) (v_extraBits : Int32) (c_symbolCounts : Nat → Int32) (c_distanceCounts : Nat → Int32) (c_tokens : Nat → Int32) (x1 : Int32) (x2 : Int32) (res : Unit × Int32 × Int32 × (Nat → Int32) × (Nat → Int32) × (Nat → Int32)) (hm : Packer_collectTokens F n_row_data c_matches_before v_row_length c_row_data v_tokenCount v_extraBits c_symbolCounts c_distanceCounts c_tokens x1 x2 = some res) : Met l y_Packer_collectTokens (Cond.code y_Packer_collectTokens b_Packer_collectTokens 5 none :: x_tb) Packer_collectTokens_rm (va_Pc [.ref a_this, .int x1, .int x2] (xPre E (Packer_collectTokens_w E a_this a_symbolCounts a_distanceCounts a_matches a_matches_before a_row a_row_data a_tokens n_row_data x_out x_lists x_header x_fixedSymbols x_fixedDistances x_madeSymbols x_madeDistances x_matches_latest c_matches_before v_row_length c_row_data v_tokenCount v_extraBits c_symbolCounts c_distanceCounts c_tokens) sz)) (xQv E (fun (u : Int32 × Int32 × (Nat → Int32) × (Nat → Int32) × (Nat → Int32)) => u = res.2) (fun (u : Int32 × Int32 × (Nat → Int32) × (Nat → Int32) × (Nat → Int32)) => (Packer_collectTokens_w E a_this a_symbolCounts a_distanceCounts a_matches a_matches_before a_row a_row_data a_tokens n_row_data x_out x_lists x_header x_fixedSymbols x_fixedDistances x_madeSymbols x_madeDistances x_matches_latest c_matches_before v_row_length c_row_data u.1 u.2.1 u.2.2.1 u.2.2.2.1 u.2.2.2.2)) (va_A (Packer_collectTokens_w E a_this a_symbolCounts a_distanceCounts a_matches a_matches_before a_row a_row_data a_tokens n_row_data x_out x_lists x_header x_fixedSymbols x_fixedDistances x_madeSymbols x_madeDistances x_matches_latest c_matches_before v_row_length c_row_data v_tokenCount v_extraBits c_symbolCounts c_distanceCounts c_tokens) sz)) 0 0 (va_A (Packer_collectTokens_w E a_this a_symbolCounts a_distanceCounts a_matches a_matches_before a_row a_row_data a_tokens n_row_data x_out x_lists x_header x_fixedSymbols x_fixedDistances x_madeSymbols x_madeDistances x_matches_latest c_matches_before v_row_length c_row_data v_tokenCount v_extraBits c_symbolCounts c_distanceCounts c_tokens) sz) := by
  refine xEnV (by decide) (Nat.le_of_ble_eq_true rfl) ?_
  intro p e s m args below meth c A ls Q hx hb hnm hts hown hml hK hA hI hN hret hP hD hS hl
  replace hown : s.vm.findClass R_Packer = some m.cls := hown
  replace hl : lv_has ls 5 [(0, .ref a_this), (1, .int x1), (2, .int x2)] := hl
  obtain ⟨H, eH⟩ : ∃ z, z = s.heap := ⟨_, rfl⟩
  obtain ⟨locs, eL⟩ : ∃ z : List Loc, z = [] := ⟨_, rfl⟩
  rw [show W p l e Packer_collectTokens_rm s m args below meth c s.heap [] 0 0 Q (F0 m 0 ls []) = W p l e Packer_collectTokens_rm s m args below meth c H locs 0 0 Q (F0 m 0 ls []) by rw [eH, eL]]
  replace hP : va_P E.1 vwCl (Packer_collectTokens_w E a_this a_symbolCounts a_distanceCounts a_matches a_matches_before a_row a_row_data a_tokens n_row_data x_out x_lists x_header x_fixedSymbols x_fixedDistances x_madeSymbols x_madeDistances x_matches_latest c_matches_before v_row_length c_row_data v_tokenCount v_extraBits c_symbolCounts c_distanceCounts c_tokens) H := by rw [eH]; exact hP
  replace hS : va_S A s.heap H locs := by rw [eH, eL]; exact hS
  clear eH eL
  rw [Packer_collectTokens] at hm
  have h_81 : ∀ (v_tokenCount : Int32) (v_extraBits : Int32) (c_symbolCounts : Nat → Int32) (c_distanceCounts : Nat → Int32) (c_tokens : Nat → Int32) (H : Heap) (locs : List Loc) (ls : Array Slot), (Packer_collectTokens_81 F) v_tokenCount v_extraBits c_symbolCounts c_distanceCounts c_tokens = some res → va_P E.1 vwCl (Packer_collectTokens_w E a_this a_symbolCounts a_distanceCounts a_matches a_matches_before a_row a_row_data a_tokens n_row_data x_out x_lists x_header x_fixedSymbols x_fixedDistances x_madeSymbols x_madeDistances x_matches_latest c_matches_before v_row_length c_row_data v_tokenCount v_extraBits c_symbolCounts c_distanceCounts c_tokens) H → va_D A (Packer_collectTokens_w E a_this a_symbolCounts a_distanceCounts a_matches a_matches_before a_row a_row_data a_tokens n_row_data x_out x_lists x_header x_fixedSymbols x_fixedDistances x_madeSymbols x_madeDistances x_matches_latest c_matches_before v_row_length c_row_data v_tokenCount v_extraBits c_symbolCounts c_distanceCounts c_tokens) → va_S A s.heap H locs → lv_has ls 5 [(0, .ref a_this)] → W p l e Packer_collectTokens_rm s m args below meth c H locs 0 0 Q (F0 m 81 ls []) := by
    intro v_tokenCount v_extraBits c_symbolCounts c_distanceCounts c_tokens H locs ls hm hP hD hS hl
    rw [Packer_collectTokens_81] at hm
    refine lv_aload_n hx hb d_Packer_collectTokens_81 rfl (lv_at hl 0 rfl) ?_
    refine va_get (D := E.1) (ci := 7) (v := .ref a_symbolCounts) (C := R_Packer) (T := F_Packer) (N := 14) hx hb hts i_Packer hown hK hP 0 rfl rfl 6 (by decide) (hts _ tw_255) (fun _ h9 => h9) rfl d_Packer_collectTokens_82 ?_
    refine lv_sipush (v := 256) hx hb d_Packer_collectTokens_85 (by decide) ?_
    refine lv_iconst (v := 1) hx hb d_Packer_collectTokens_88 (by decide) ?_
    obtain ⟨hi89, hm⟩ := mG_e hm
    obtain ⟨c_1, ec_1⟩ : ∃ z : Nat → Int32, z = upd c_symbolCounts (256 : Int32).toNatClampNeg 1 := ⟨_, rfl⟩
    replace hm := mL_e hm c_1 ec_1
    refine va_iast hx hb hK hP hD hS 1 0 rfl rfl hi89 d_Packer_collectTokens_89 (fun H locs hP hD hS => ?_)
    rw [← ec_1] at hP hD
    replace hP : va_P E.1 vwCl (Packer_collectTokens_w E a_this a_symbolCounts a_distanceCounts a_matches a_matches_before a_row a_row_data a_tokens n_row_data x_out x_lists x_header x_fixedSymbols x_fixedDistances x_madeSymbols x_madeDistances x_matches_latest c_matches_before v_row_length c_row_data v_tokenCount v_extraBits c_1 c_distanceCounts c_tokens) H := hP
    replace hD : va_D A (Packer_collectTokens_w E a_this a_symbolCounts a_distanceCounts a_matches a_matches_before a_row a_row_data a_tokens n_row_data x_out x_lists x_header x_fixedSymbols x_fixedDistances x_madeSymbols x_madeDistances x_matches_latest c_matches_before v_row_length c_row_data v_tokenCount v_extraBits c_1 c_distanceCounts c_tokens) := hD
    replace hm := Option.some.inj hm
    subst hm
    exact hret d_Packer_collectTokens_90 (u := (v_tokenCount, v_extraBits, c_1, c_distanceCounts, c_tokens)) rfl hP hD hS
  have h_28 : ∀ (n_28 : Nat) (v_tokenCount : Int32) (v_extraBits : Int32) (c_symbolCounts : Nat → Int32) (c_distanceCounts : Nat → Int32) (c_tokens : Nat → Int32) (x3 : Int32) (H : Heap) (locs : List Loc) (ls : Array Slot), (mW6 (Packer_collectTokens_28 F n_row_data c_matches_before v_row_length c_row_data x2 (Packer_collectTokens_81 F)) n_28) v_tokenCount v_extraBits c_symbolCounts c_distanceCounts c_tokens x3 = some res → va_P E.1 vwCl (Packer_collectTokens_w E a_this a_symbolCounts a_distanceCounts a_matches a_matches_before a_row a_row_data a_tokens n_row_data x_out x_lists x_header x_fixedSymbols x_fixedDistances x_madeSymbols x_madeDistances x_matches_latest c_matches_before v_row_length c_row_data v_tokenCount v_extraBits c_symbolCounts c_distanceCounts c_tokens) H → va_D A (Packer_collectTokens_w E a_this a_symbolCounts a_distanceCounts a_matches a_matches_before a_row a_row_data a_tokens n_row_data x_out x_lists x_header x_fixedSymbols x_fixedDistances x_madeSymbols x_madeDistances x_matches_latest c_matches_before v_row_length c_row_data v_tokenCount v_extraBits c_symbolCounts c_distanceCounts c_tokens) → va_S A s.heap H locs → lv_has ls 5 [(0, .ref a_this), (2, .int x2), (3, .int x3)] → W p l e Packer_collectTokens_rm s m args below meth c H locs 0 0 Q (F0 m 28 ls []) := by
    intro n_28
    induction n_28 with
    | zero => exact fun _ _ _ _ _ _ _ _ _ hm _ _ _ _ => (mW6_z hm).elim
    | succ n_28 ih_28 =>
      intro v_tokenCount v_extraBits c_symbolCounts c_distanceCounts c_tokens x3 H locs ls hm hP hD hS hl
      replace hm := mW6_s hm
      rw [Packer_collectTokens_28] at hm
      refine lv_iload_n hx hb d_Packer_collectTokens_28 rfl (lv_at hl 2 rfl) ?_
      refine lv_iload_n hx hb d_Packer_collectTokens_29 rfl (lv_at hl 1 rfl) ?_
      refine lv_icmp_ge (tgt := 81) hx hb d_Packer_collectTokens_30 (by decide) (fun c30 => ?_) (fun c30 => ?_)
      · replace hm := mC_t hm c30
        exact h_81 _ _ _ _ _ H locs ls hm hP hD hS (lv_sub hl [0] rfl)
      · replace hm := mC_f hm c30
        have h_63 : ∀ (v_tokenCount : Int32) (v_extraBits : Int32) (c_symbolCounts : Nat → Int32) (c_distanceCounts : Nat → Int32) (c_tokens : Nat → Int32) (x3 : Int32) (x4 : Int32) (s1 : Int32) (H : Heap) (locs : List Loc) (ls : Array Slot), (Packer_collectTokens_63 F (mW6 (Packer_collectTokens_28 F n_row_data c_matches_before v_row_length c_row_data x2 (Packer_collectTokens_81 F)) n_28)) v_tokenCount v_extraBits c_symbolCounts c_distanceCounts c_tokens x3 x4 s1 = some res → va_P E.1 vwCl (Packer_collectTokens_w E a_this a_symbolCounts a_distanceCounts a_matches a_matches_before a_row a_row_data a_tokens n_row_data x_out x_lists x_header x_fixedSymbols x_fixedDistances x_madeSymbols x_madeDistances x_matches_latest c_matches_before v_row_length c_row_data v_tokenCount v_extraBits c_symbolCounts c_distanceCounts c_tokens) H → va_D A (Packer_collectTokens_w E a_this a_symbolCounts a_distanceCounts a_matches a_matches_before a_row a_row_data a_tokens n_row_data x_out x_lists x_header x_fixedSymbols x_fixedDistances x_madeSymbols x_madeDistances x_matches_latest c_matches_before v_row_length c_row_data v_tokenCount v_extraBits c_symbolCounts c_distanceCounts c_tokens) → va_S A s.heap H locs → lv_has ls 5 [(0, .ref a_this), (2, .int x2), (3, .int x3), (4, .int x4)] → W p l e Packer_collectTokens_rm s m args below meth c H locs 0 0 Q (F0 m 63 ls [.int s1, .ref a_this]) := by
          intro v_tokenCount v_extraBits c_symbolCounts c_distanceCounts c_tokens x3 x4 s1 H locs ls hm hP hD hS hl
          rw [Packer_collectTokens_63] at hm
          obtain ⟨r_7, v_tokenCount_2, v_extraBits_3, c_tokens_4, c_symbolCounts_5, c_distanceCounts_6, hc63, hm⟩ := mR5_e hm
          refine xmv (wc := (Packer_addToken_w E a_this a_tokens a_symbolCounts a_distanceCounts (.ref a_row) x_out (.ref a_matches) x_lists x_header x_fixedSymbols x_fixedDistances x_madeSymbols x_madeDistances v_tokenCount v_extraBits c_tokens c_symbolCounts c_distanceCounts)) [true, true, true, false, false, false, false, true] [0, 3, 1, 2] [0, 2, 3, 1] hP hD hS hA rfl (by decide) (by decide) 4 (by decide) (fun _ => rfl) (fun hPc hDc hFc => va_runV (As := [.int s1]) (rest := []) ⟨hx, hb, hml, hown, hts⟩ (c_Packer_addToken l E F H.size a_this a_tokens a_symbolCounts a_distanceCounts (.ref a_row) x_out (.ref a_matches) x_lists x_header x_fixedSymbols x_fixedDistances x_madeSymbols x_madeDistances v_tokenCount v_extraBits c_tokens c_symbolCounts c_distanceCounts s1 (r_7, v_tokenCount_2, v_extraBits_3, c_tokens_4, c_symbolCounts_5, c_distanceCounts_6) hc63) (cwV 1 hts (x_gV tw_478 tw_480 tw_6 tw_69 tw_481) rfl rfl rfl (by decide +kernel) ⟨Nat.le_of_ble_eq_true rfl, Nat.le_of_ble_eq_true rfl⟩) (xPV 7 0 rfl rfl hPc hDc hFc hK hI hN hS) rfl rfl hl.1 rfl (lv_room (Nat.le_of_ble_eq_true rfl)) d_Packer_collectTokens_63 ⟨Nat.le_of_ble_eq_true rfl, Nat.le_of_ble_eq_true rfl⟩) (fun u9 H locs hw hP hD hS => ?_)
          have hw2 : (v_tokenCount_2, v_extraBits_3, c_tokens_4, c_symbolCounts_5, c_distanceCounts_6) = u9 := hw.symm
          subst hw2
          replace hP : va_P E.1 vwCl (Packer_collectTokens_w E a_this a_symbolCounts a_distanceCounts a_matches a_matches_before a_row a_row_data a_tokens n_row_data x_out x_lists x_header x_fixedSymbols x_fixedDistances x_madeSymbols x_madeDistances x_matches_latest c_matches_before v_row_length c_row_data v_tokenCount_2 v_extraBits_3 c_symbolCounts_5 c_distanceCounts_6 c_tokens_4) H := hP
          replace hD : va_D A (Packer_collectTokens_w E a_this a_symbolCounts a_distanceCounts a_matches a_matches_before a_row a_row_data a_tokens n_row_data x_out x_lists x_header x_fixedSymbols x_fixedDistances x_madeSymbols x_madeDistances x_matches_latest c_matches_before v_row_length c_row_data v_tokenCount_2 v_extraBits_3 c_symbolCounts_5 c_distanceCounts_6 c_tokens_4) := hD
          refine lv_iload_n hx hb d_Packer_collectTokens_66 rfl (lv_at hl 2 rfl) ?_
          refine lv_iconst (v := 1) hx hb d_Packer_collectTokens_67 (by decide) ?_
          refine lv_iload hx hb d_Packer_collectTokens_68 (lv_at hl 3 rfl) ?_
          refine lv_bipush (v := 16) hx hb d_Packer_collectTokens_70 (by decide) ?_
          refine lv_ishr hx hb d_Packer_collectTokens_72 ?_
          refine lv_topi (fun t_8 et_8 => ?_)
          replace hm := mL_e hm t_8 et_8
          refine va_mmax hx hb (hml.trans hl.1.symm) hown (hts _ tw_496) (hts _ tw_97) (hts _ tw_68) (hts _ tw_98) (Nat.le_of_ble_eq_true rfl) (Nat.le_of_ble_eq_true rfl) (Nat.le_of_ble_eq_true rfl) (Nat.le_of_ble_eq_true rfl) d_Packer_collectTokens_73 ?_
          refine lv_iadd hx hb d_Packer_collectTokens_76 ?_
          refine lv_topi (fun y3_9 ey3_9 => ?_)
          replace hm := mL_e hm y3_9 ey3_9
          refine lv_istore_n (lv' := [(3, .int y3_9), (0, .ref a_this), (2, .int x2), (4, .int x4)]) hx hb d_Packer_collectTokens_77 rfl hl (by decide) rfl (fun ls hl => ?_)
          refine lv_goto (tgt := 28) hx hb d_Packer_collectTokens_78 (by decide) ?_
          exact ih_28 _ _ _ _ _ _ H locs ls hm hP hD hS (lv_sub hl [1, 2, 0] rfl)
        refine lv_aload_n hx hb d_Packer_collectTokens_33 rfl (lv_at hl 0 rfl) ?_
        refine va_get (D := E.1) (ci := 7) (v := .ref a_matches) (C := R_Packer) (T := F_Packer) (N := 14) hx hb hts i_Packer hown hK hP 0 rfl rfl 2 (by decide) (hts _ tw_251) (fun _ h9 => h9) rfl d_Packer_collectTokens_34 ?_
        refine lv_iload_n hx hb d_Packer_collectTokens_37 rfl (lv_at hl 2 rfl) ?_
        refine lv_iload_n hx hb d_Packer_collectTokens_38 rfl (lv_at hl 1 rfl) ?_
        obtain ⟨r_10, hc39, hm⟩ := mR0_e hm
        refine xmi (wc := (Matches_best_w E a_matches a_matches_before a_row a_row_data n_row_data x_matches_latest c_matches_before v_row_length c_row_data)) [false, false, false, true, true, true, true, false] [0, 1, 2, 3] [0, 1, 2, 3] hP hD hS hA rfl (by decide) (by decide) 4 (by decide) (fun _ => rfl) (fun hPc hDc hFc => va_runV (As := [.int x3, .int x2]) (rest := []) ⟨hx, hb, hml, hown, hts⟩ (c_Matches_best l E F H.size a_matches a_matches_before a_row a_row_data n_row_data x_matches_latest c_matches_before v_row_length c_row_data x3 x2 (r_10, ()) hc39) (cwV 2 hts (x_gV tw_468 tw_469 tw_470 tw_71 tw_471) rfl rfl rfl (by decide +kernel) ⟨Nat.le_of_ble_eq_true rfl, Nat.le_of_ble_eq_true rfl⟩) (xPV 6 0 rfl rfl hPc hDc hFc hK hI hN hS) rfl rfl hl.1 rfl (lv_room (Nat.le_of_ble_eq_true rfl)) d_Packer_collectTokens_39 ⟨Nat.le_of_ble_eq_true rfl, Nat.le_of_ble_eq_true rfl⟩) (fun r9 u9 H locs hw hP hD hS => ?_)
        have hw1 : r_10 = r9 := hw.1.symm
        subst hw1
        replace hP : va_P E.1 vwCl (Packer_collectTokens_w E a_this a_symbolCounts a_distanceCounts a_matches a_matches_before a_row a_row_data a_tokens n_row_data x_out x_lists x_header x_fixedSymbols x_fixedDistances x_madeSymbols x_madeDistances x_matches_latest c_matches_before v_row_length c_row_data v_tokenCount v_extraBits c_symbolCounts c_distanceCounts c_tokens) H := hP
        replace hD : va_D A (Packer_collectTokens_w E a_this a_symbolCounts a_distanceCounts a_matches a_matches_before a_row a_row_data a_tokens n_row_data x_out x_lists x_header x_fixedSymbols x_fixedDistances x_madeSymbols x_madeDistances x_matches_latest c_matches_before v_row_length c_row_data v_tokenCount v_extraBits c_symbolCounts c_distanceCounts c_tokens) := hD
        refine lv_istore (lv' := [(4, .int r_10), (0, .ref a_this), (2, .int x2), (3, .int x3)]) hx hb d_Packer_collectTokens_42 hl (by decide) rfl (fun ls hl => ?_)
        refine lv_aload_n hx hb d_Packer_collectTokens_44 rfl (lv_at hl 1 rfl) ?_
        refine lv_iload hx hb d_Packer_collectTokens_45 (lv_at hl 0 rfl) ?_
        refine lv_if_le (tgt := 55) hx hb d_Packer_collectTokens_47 (by decide) (fun c47 => ?_) (fun c47 => ?_)
        · replace hm := mC_t hm c47
          refine lv_aload_n hx hb d_Packer_collectTokens_55 rfl (lv_at hl 1 rfl) ?_
          refine va_get (D := E.1) (ci := 7) (v := .ref a_row) (C := R_Packer) (T := F_Packer) (N := 14) hx hb hts i_Packer hown hK hP 0 rfl rfl 0 (by decide) (hts _ tw_249) (fun _ h9 => h9) rfl d_Packer_collectTokens_56 ?_
          refine lv_iload_n hx hb d_Packer_collectTokens_59 rfl (lv_at hl 3 rfl) ?_
          obtain ⟨r_11, hc60, hm⟩ := mR0_e hm
          refine xmi (wc := (Bytes_at_w E a_row a_row_data n_row_data v_row_length c_row_data)) [false, false, false, false, false, true, true, false] [0, 1] [0, 1] hP hD hS hA rfl (by decide) (by decide) 2 (by decide) (fun _ => rfl) (fun hPc hDc hFc => va_runV (As := [.int x3]) (rest := [.ref a_this]) ⟨hx, hb, hml, hown, hts⟩ (c_Bytes_at l E F H.size a_row a_row_data n_row_data v_row_length c_row_data x3 (r_11, ()) hc60) (cwV 1 hts (x_gV tw_477 tw_448 tw_449 tw_67 tw_450) rfl rfl rfl (by decide +kernel) ⟨Nat.le_of_ble_eq_true rfl, Nat.le_of_ble_eq_true rfl⟩) (xPV 2 0 rfl rfl hPc hDc hFc hK hI hN hS) rfl rfl hl.1 rfl (lv_room (Nat.le_of_ble_eq_true rfl)) d_Packer_collectTokens_60 ⟨Nat.le_of_ble_eq_true rfl, Nat.le_of_ble_eq_true rfl⟩) (fun r9 u9 H locs hw hP hD hS => ?_)
          have hw1 : r_11 = r9 := hw.1.symm
          subst hw1
          replace hP : va_P E.1 vwCl (Packer_collectTokens_w E a_this a_symbolCounts a_distanceCounts a_matches a_matches_before a_row a_row_data a_tokens n_row_data x_out x_lists x_header x_fixedSymbols x_fixedDistances x_madeSymbols x_madeDistances x_matches_latest c_matches_before v_row_length c_row_data v_tokenCount v_extraBits c_symbolCounts c_distanceCounts c_tokens) H := hP
          replace hD : va_D A (Packer_collectTokens_w E a_this a_symbolCounts a_distanceCounts a_matches a_matches_before a_row a_row_data a_tokens n_row_data x_out x_lists x_header x_fixedSymbols x_fixedDistances x_madeSymbols x_madeDistances x_matches_latest c_matches_before v_row_length c_row_data v_tokenCount v_extraBits c_symbolCounts c_distanceCounts c_tokens) := hD
          exact h_63 _ _ _ _ _ _ _ _ H locs ls hm hP hD hS (lv_sub hl [1, 2, 3, 0] rfl)
        · replace hm := mC_f hm c47
          refine lv_iload hx hb d_Packer_collectTokens_50 (lv_at hl 0 rfl) ?_
          refine lv_goto (tgt := 63) hx hb d_Packer_collectTokens_52 (by decide) ?_
          exact h_63 _ _ _ _ _ _ _ _ H locs ls hm hP hD hS (lv_sub hl [1, 2, 3, 0] rfl)
  refine lv_aload_n hx hb d_Packer_collectTokens_0 rfl (lv_at hl 0 rfl) ?_
  refine va_get (D := E.1) (ci := 7) (v := .ref a_symbolCounts) (C := R_Packer) (T := F_Packer) (N := 14) hx hb hts i_Packer hown hK hP 0 rfl rfl 6 (by decide) (hts _ tw_255) (fun _ h9 => h9) rfl d_Packer_collectTokens_1 ?_
  refine lv_iconst (v := 0) hx hb d_Packer_collectTokens_4 (by decide) ?_
  obtain ⟨r_13, c_p0_12, hc5, hm⟩ := mR1_e hm
  refine xmv (wc := (Arr_fill_w E a_symbolCounts 286 c_symbolCounts)) [false, true, false, false, false, false, false, false] [0] [0] hP hD hS hA rfl (by decide) (by decide) 1 (by decide) (fun _ => rfl) (fun hPc hDc hFc => va_runS (As := [.ref a_symbolCounts, .int 0]) (rest := []) ⟨hx, hb, hml, hown, hts⟩ (c_Arr_fill l E F H.size a_symbolCounts 286 c_symbolCounts 0 (r_13, c_p0_12) hc5) (va_cwS 2 hts (x_gS tw_238 tw_239 tw_75 tw_240) rfl rfl rfl (by decide +kernel) ⟨Nat.le_of_ble_eq_true rfl, Nat.le_of_ble_eq_true rfl⟩) (xPS hPc hDc hFc hK hI hN hS) rfl rfl hl.1 rfl (lv_room (Nat.le_of_ble_eq_true rfl)) d_Packer_collectTokens_5 ⟨Nat.le_of_ble_eq_true rfl, Nat.le_of_ble_eq_true rfl⟩) (fun u9 H locs hw hP hD hS => ?_)
  have hw2 : c_p0_12 = u9 := hw.symm
  subst hw2
  replace hP : va_P E.1 vwCl (Packer_collectTokens_w E a_this a_symbolCounts a_distanceCounts a_matches a_matches_before a_row a_row_data a_tokens n_row_data x_out x_lists x_header x_fixedSymbols x_fixedDistances x_madeSymbols x_madeDistances x_matches_latest c_matches_before v_row_length c_row_data v_tokenCount v_extraBits c_p0_12 c_distanceCounts c_tokens) H := hP
  replace hD : va_D A (Packer_collectTokens_w E a_this a_symbolCounts a_distanceCounts a_matches a_matches_before a_row a_row_data a_tokens n_row_data x_out x_lists x_header x_fixedSymbols x_fixedDistances x_madeSymbols x_madeDistances x_matches_latest c_matches_before v_row_length c_row_data v_tokenCount v_extraBits c_p0_12 c_distanceCounts c_tokens) := hD
  refine lv_aload_n hx hb d_Packer_collectTokens_8 rfl (lv_at hl 0 rfl) ?_
  refine va_get (D := E.1) (ci := 7) (v := .ref a_distanceCounts) (C := R_Packer) (T := F_Packer) (N := 14) hx hb hts i_Packer hown hK hP 0 rfl rfl 7 (by decide) (hts _ tw_256) (fun _ h9 => h9) rfl d_Packer_collectTokens_9 ?_
  refine lv_iconst (v := 0) hx hb d_Packer_collectTokens_12 (by decide) ?_
  obtain ⟨r_15, c_p0_14, hc13, hm⟩ := mR1_e hm
  refine xmv (wc := (Arr_fill_w E a_distanceCounts 30 c_distanceCounts)) [false, false, true, false, false, false, false, false] [0] [0] hP hD hS hA rfl (by decide) (by decide) 1 (by decide) (fun _ => rfl) (fun hPc hDc hFc => va_runS (As := [.ref a_distanceCounts, .int 0]) (rest := []) ⟨hx, hb, hml, hown, hts⟩ (c_Arr_fill l E F H.size a_distanceCounts 30 c_distanceCounts 0 (r_15, c_p0_14) hc13) (va_cwS 2 hts (x_gS tw_238 tw_239 tw_75 tw_240) rfl rfl rfl (by decide +kernel) ⟨Nat.le_of_ble_eq_true rfl, Nat.le_of_ble_eq_true rfl⟩) (xPS hPc hDc hFc hK hI hN hS) rfl rfl hl.1 rfl (lv_room (Nat.le_of_ble_eq_true rfl)) d_Packer_collectTokens_13 ⟨Nat.le_of_ble_eq_true rfl, Nat.le_of_ble_eq_true rfl⟩) (fun u9 H locs hw hP hD hS => ?_)
  have hw2 : c_p0_14 = u9 := hw.symm
  subst hw2
  replace hP : va_P E.1 vwCl (Packer_collectTokens_w E a_this a_symbolCounts a_distanceCounts a_matches a_matches_before a_row a_row_data a_tokens n_row_data x_out x_lists x_header x_fixedSymbols x_fixedDistances x_madeSymbols x_madeDistances x_matches_latest c_matches_before v_row_length c_row_data v_tokenCount v_extraBits c_p0_12 c_p0_14 c_tokens) H := hP
  replace hD : va_D A (Packer_collectTokens_w E a_this a_symbolCounts a_distanceCounts a_matches a_matches_before a_row a_row_data a_tokens n_row_data x_out x_lists x_header x_fixedSymbols x_fixedDistances x_madeSymbols x_madeDistances x_matches_latest c_matches_before v_row_length c_row_data v_tokenCount v_extraBits c_p0_12 c_p0_14 c_tokens) := hD
  refine lv_aload_n hx hb d_Packer_collectTokens_16 rfl (lv_at hl 0 rfl) ?_
  refine lv_iconst (v := 0) hx hb d_Packer_collectTokens_17 (by decide) ?_
  refine va_put (D := E.1) (ci := 7) (v := .int 0) (ty := .int) (C := R_Packer) (T := F_Packer) (N := 14) hx hb hts i_Packer t_Packer t_Packer_ok n_Packer hown hK hP hD hS 0 rfl rfl 12 (by decide) (hts _ tw_261) (fun _ h9 => h9) rfl (by decide +kernel) rfl rfl (Nat.le_of_ble_eq_true rfl) d_Packer_collectTokens_18 (fun H locs hP hD hS => ?_)
  replace hP : va_P E.1 vwCl (Packer_collectTokens_w E a_this a_symbolCounts a_distanceCounts a_matches a_matches_before a_row a_row_data a_tokens n_row_data x_out x_lists x_header x_fixedSymbols x_fixedDistances x_madeSymbols x_madeDistances x_matches_latest c_matches_before v_row_length c_row_data 0 v_extraBits c_p0_12 c_p0_14 c_tokens) H := hP
  replace hD : va_D A (Packer_collectTokens_w E a_this a_symbolCounts a_distanceCounts a_matches a_matches_before a_row a_row_data a_tokens n_row_data x_out x_lists x_header x_fixedSymbols x_fixedDistances x_madeSymbols x_madeDistances x_matches_latest c_matches_before v_row_length c_row_data 0 v_extraBits c_p0_12 c_p0_14 c_tokens) := hD
  refine lv_aload_n hx hb d_Packer_collectTokens_21 rfl (lv_at hl 0 rfl) ?_
  refine lv_iconst (v := 0) hx hb d_Packer_collectTokens_22 (by decide) ?_
  refine va_put (D := E.1) (ci := 7) (v := .int 0) (ty := .int) (C := R_Packer) (T := F_Packer) (N := 14) hx hb hts i_Packer t_Packer t_Packer_ok n_Packer hown hK hP hD hS 0 rfl rfl 13 (by decide) (hts _ tw_262) (fun _ h9 => h9) rfl (by decide +kernel) rfl rfl (Nat.le_of_ble_eq_true rfl) d_Packer_collectTokens_23 (fun H locs hP hD hS => ?_)
  replace hP : va_P E.1 vwCl (Packer_collectTokens_w E a_this a_symbolCounts a_distanceCounts a_matches a_matches_before a_row a_row_data a_tokens n_row_data x_out x_lists x_header x_fixedSymbols x_fixedDistances x_madeSymbols x_madeDistances x_matches_latest c_matches_before v_row_length c_row_data 0 0 c_p0_12 c_p0_14 c_tokens) H := hP
  replace hD : va_D A (Packer_collectTokens_w E a_this a_symbolCounts a_distanceCounts a_matches a_matches_before a_row a_row_data a_tokens n_row_data x_out x_lists x_header x_fixedSymbols x_fixedDistances x_madeSymbols x_madeDistances x_matches_latest c_matches_before v_row_length c_row_data 0 0 c_p0_12 c_p0_14 c_tokens) := hD
  refine lv_iload_n hx hb d_Packer_collectTokens_26 rfl (lv_at hl 1 rfl) ?_
  refine lv_istore_n (lv' := [(3, .int x1), (0, .ref a_this), (1, .int x1), (2, .int x2)]) hx hb d_Packer_collectTokens_27 rfl hl (by decide) rfl (fun ls hl => ?_)
  exact h_28 F _ _ _ _ _ _ H locs ls hm hP hD hS (lv_sub hl [1, 3, 0] rfl)
theorem d_Packer_bitsWith_0 : decode b_Packer_bitsWith 0 = .ok (.aload_n 1, 1) := by decide +kernel
theorem d_Packer_bitsWith_1 : decode b_Packer_bitsWith 1 = .ok (.aload_n 0, 1) := by decide +kernel
theorem d_Packer_bitsWith_2 : decode b_Packer_bitsWith 2 = .ok (.getfield 51, 3) := by decide +kernel
theorem d_Packer_bitsWith_5 : decode b_Packer_bitsWith 5 = .ok (.invokevirtual 188, 3) := by decide +kernel
theorem d_Packer_bitsWith_8 : decode b_Packer_bitsWith 8 = .ok (.aload_n 2, 1) := by decide +kernel
theorem d_Packer_bitsWith_9 : decode b_Packer_bitsWith 9 = .ok (.aload_n 0, 1) := by decide +kernel
theorem d_Packer_bitsWith_10 : decode b_Packer_bitsWith 10 = .ok (.getfield 54, 3) := by decide +kernel
theorem d_Packer_bitsWith_13 : decode b_Packer_bitsWith 13 = .ok (.invokevirtual 188, 3) := by decide +kernel
theorem d_Packer_bitsWith_16 : decode b_Packer_bitsWith 16 = .ok (.iadd, 1) := by decide +kernel
theorem d_Packer_bitsWith_17 : decode b_Packer_bitsWith 17 = .ok (.aload_n 0, 1) := by decide +kernel
theorem d_Packer_bitsWith_18 : decode b_Packer_bitsWith 18 = .ok (.getfield 159, 3) := by decide +kernel
theorem d_Packer_bitsWith_21 : decode b_Packer_bitsWith 21 = .ok (.iadd, 1) := by decide +kernel
theorem d_Packer_bitsWith_22 : decode b_Packer_bitsWith 22 = .ok (.ireturn, 1) := by decide +kernel
abbrev Packer_bitsWith_w (E : xE) (a_this : Nat) (a_p1 : Nat) (a_p1_lengths : Nat) (a_symbolCounts : Nat) (a_p2 : Nat) (a_p2_lengths : Nat) (a_distanceCounts : Nat) (n_p1_lengths : Nat) (n_p2_lengths : Nat) (x_row : Value) (x_out : Value) (x_matches : Value) (x_lists : Value) (x_header : Value) (x_tokens : Value) (x_fixedSymbols : Value) (x_fixedDistances : Value) (x_madeSymbols : Value) (x_madeDistances : Value) (x_p1_codes : Value) (x_p1_next : Value) (x_p2_codes : Value) (x_p2_next : Value) (v_extraBits : Int32) (c_p1_lengths : Nat → Int32) (c_symbolCounts : Nat → Int32) (c_p2_lengths : Nat → Int32) (c_distanceCounts : Nat → Int32) (v_tokenCount : Int32) : va_W := [(a_this, .inr (7, [x_row, x_out, x_matches, x_lists, x_header, x_tokens, .ref a_symbolCounts, .ref a_distanceCounts, x_fixedSymbols, x_fixedDistances, x_madeSymbols, x_madeDistances, .int v_tokenCount, .int v_extraBits])), (a_p1, .inr (3, [.ref a_p1_lengths, x_p1_codes, x_p1_next])), (a_p1_lengths, .inl (E.2.1, n_p1_lengths, .inl c_p1_lengths)), (a_symbolCounts, .inl (E.2.1, 286, .inl c_symbolCounts)), (a_p2, .inr (3, [.ref a_p2_lengths, x_p2_codes, x_p2_next])), (a_p2_lengths, .inl (E.2.1, n_p2_lengths, .inl c_p2_lengths)), (a_distanceCounts, .inl (E.2.1, 30, .inl c_distanceCounts))]
def Packer_bitsWith (F : Nat) (n_p1_lengths : Nat) (n_p2_lengths : Nat) (v_extraBits : Int32) (c_p1_lengths : Nat → Int32) (c_symbolCounts : Nat → Int32) (c_p2_lengths : Nat → Int32) (c_distanceCounts : Nat → Int32) : Option (Int32 × Unit) :=
  mR0 (Code_bitsFor F n_p1_lengths 286 c_p1_lengths c_symbolCounts) fun r_1 => mR0 (Code_bitsFor F n_p2_lengths 30 c_p2_lengths c_distanceCounts) fun r_2 => some ((r_1 + r_2) + v_extraBits, ())
abbrev Packer_bitsWith_rm : Room := { frames := 1, cells := 0, slots := 0, locals := 23 }
set_option maxHeartbeats 4000000 in
set_option maxRecDepth 100000 in
theorem c_Packer_bitsWith (l : Launch) (E : xE) (F sz : Nat) (a_this : Nat) (a_p1 : Nat) (a_p1_lengths : Nat) (a_symbolCounts : Nat) (a_p2 : Nat) (a_p2_lengths : Nat) (a_distanceCounts : Nat) (n_p1_lengths : Nat) (n_p2_lengths : Nat) (x_row : Value) (x_out : Value) (x_matches : Value) (x_lists : Value) (x_header : Value) (x_tokens : Value) (x_fixedSymbols : Value) (x_fixedDistances : Value) (x_madeSymbols : Value) (x_madeDistances : Value) (x_p1_codes : Value) (x_p1_next : Value) (x_p2_codes : Value) (x_p2_next : Value) (v_extraBits : Int32) (c_p1_lengths : Nat → Int32) (c_symbolCounts : Nat → Int32) (c_p2_lengths : Nat → Int32) (c_distanceCounts : Nat → Int32) (v_tokenCount : Int32) (res : Int32 × Unit) (hm : Packer_bitsWith F n_p1_lengths n_p2_lengths v_extraBits c_p1_lengths c_symbolCounts c_p2_lengths c_distanceCounts = some res) : Met l y_Packer_bitsWith (Cond.code y_Packer_bitsWith b_Packer_bitsWith 3 (some .int) :: x_tb) Packer_bitsWith_rm (va_Pc [.ref a_this, .ref a_p1, .ref a_p2] (xPre E (Packer_bitsWith_w E a_this a_p1 a_p1_lengths a_symbolCounts a_p2 a_p2_lengths a_distanceCounts n_p1_lengths n_p2_lengths x_row x_out x_matches x_lists x_header x_tokens x_fixedSymbols x_fixedDistances x_madeSymbols x_madeDistances x_p1_codes x_p1_next x_p2_codes x_p2_next v_extraBits c_p1_lengths c_symbolCounts c_p2_lengths c_distanceCounts v_tokenCount) sz)) (xQi E (fun (r : Int32) (u : Unit) => r = res.1 ∧ u = res.2) (fun (u : Unit) => (Packer_bitsWith_w E a_this a_p1 a_p1_lengths a_symbolCounts a_p2 a_p2_lengths a_distanceCounts n_p1_lengths n_p2_lengths x_row x_out x_matches x_lists x_header x_tokens x_fixedSymbols x_fixedDistances x_madeSymbols x_madeDistances x_p1_codes x_p1_next x_p2_codes x_p2_next v_extraBits c_p1_lengths c_symbolCounts c_p2_lengths c_distanceCounts v_tokenCount)) (va_A (Packer_bitsWith_w E a_this a_p1 a_p1_lengths a_symbolCounts a_p2 a_p2_lengths a_distanceCounts n_p1_lengths n_p2_lengths x_row x_out x_matches x_lists x_header x_tokens x_fixedSymbols x_fixedDistances x_madeSymbols x_madeDistances x_p1_codes x_p1_next x_p2_codes x_p2_next v_extraBits c_p1_lengths c_symbolCounts c_p2_lengths c_distanceCounts v_tokenCount) sz)) 0 0 (va_A (Packer_bitsWith_w E a_this a_p1 a_p1_lengths a_symbolCounts a_p2 a_p2_lengths a_distanceCounts n_p1_lengths n_p2_lengths x_row x_out x_matches x_lists x_header x_tokens x_fixedSymbols x_fixedDistances x_madeSymbols x_madeDistances x_p1_codes x_p1_next x_p2_codes x_p2_next v_extraBits c_p1_lengths c_symbolCounts c_p2_lengths c_distanceCounts v_tokenCount) sz) := by
  refine xEnI (by decide) (Nat.le_of_ble_eq_true rfl) ?_
  intro p e s m args below meth c A ls Q hx hb hnm hts hown hml hK hA hI hN hret hP hD hS hl
  replace hown : s.vm.findClass R_Packer = some m.cls := hown
  replace hl : lv_has ls 3 [(0, .ref a_this), (1, .ref a_p1), (2, .ref a_p2)] := hl
  obtain ⟨H, eH⟩ : ∃ z, z = s.heap := ⟨_, rfl⟩
  obtain ⟨locs, eL⟩ : ∃ z : List Loc, z = [] := ⟨_, rfl⟩
  rw [show W p l e Packer_bitsWith_rm s m args below meth c s.heap [] 0 0 Q (F0 m 0 ls []) = W p l e Packer_bitsWith_rm s m args below meth c H locs 0 0 Q (F0 m 0 ls []) by rw [eH, eL]]
  replace hP : va_P E.1 vwCl (Packer_bitsWith_w E a_this a_p1 a_p1_lengths a_symbolCounts a_p2 a_p2_lengths a_distanceCounts n_p1_lengths n_p2_lengths x_row x_out x_matches x_lists x_header x_tokens x_fixedSymbols x_fixedDistances x_madeSymbols x_madeDistances x_p1_codes x_p1_next x_p2_codes x_p2_next v_extraBits c_p1_lengths c_symbolCounts c_p2_lengths c_distanceCounts v_tokenCount) H := by rw [eH]; exact hP
  replace hS : va_S A s.heap H locs := by rw [eH, eL]; exact hS
  clear eH eL
  rw [Packer_bitsWith] at hm
  refine lv_aload_n hx hb d_Packer_bitsWith_0 rfl (lv_at hl 1 rfl) ?_
  refine lv_aload_n hx hb d_Packer_bitsWith_1 rfl (lv_at hl 0 rfl) ?_
  refine va_get (D := E.1) (ci := 7) (v := .ref a_symbolCounts) (C := R_Packer) (T := F_Packer) (N := 14) hx hb hts i_Packer hown hK hP 0 rfl rfl 6 (by decide) (hts _ tw_255) (fun _ h9 => h9) rfl d_Packer_bitsWith_2 ?_
  obtain ⟨r_1, hc5, hm⟩ := mR0_e hm
  refine xmi (wc := (Code_bitsFor_w E a_p1 a_p1_lengths a_symbolCounts n_p1_lengths 286 x_p1_codes x_p1_next c_p1_lengths c_symbolCounts)) [false, true, true, true, false, false, false] [0, 1, 2] [0, 1, 2] hP hD hS hA rfl (by decide) (by decide) 3 (by decide) (fun _ => rfl) (fun hPc hDc hFc => va_runV (As := [.ref a_symbolCounts]) (rest := []) ⟨hx, hb, hml, hown, hts⟩ (c_Code_bitsFor l E F H.size a_p1 a_p1_lengths a_symbolCounts n_p1_lengths 286 x_p1_codes x_p1_next c_p1_lengths c_symbolCounts (r_1, ()) hc5) (cwV 1 hts (x_gV tw_530 tw_531 tw_532 tw_74 tw_533) rfl rfl rfl (by decide +kernel) ⟨Nat.le_of_ble_eq_true rfl, Nat.le_of_ble_eq_true rfl⟩) (xPV 3 0 rfl rfl hPc hDc hFc hK hI hN hS) rfl rfl hl.1 rfl (lv_room (Nat.le_of_ble_eq_true rfl)) d_Packer_bitsWith_5 ⟨Nat.le_of_ble_eq_true rfl, Nat.le_of_ble_eq_true rfl⟩) (fun r9 u9 H locs hw hP hD hS => ?_)
  have hw1 : r_1 = r9 := hw.1.symm
  subst hw1
  replace hP : va_P E.1 vwCl (Packer_bitsWith_w E a_this a_p1 a_p1_lengths a_symbolCounts a_p2 a_p2_lengths a_distanceCounts n_p1_lengths n_p2_lengths x_row x_out x_matches x_lists x_header x_tokens x_fixedSymbols x_fixedDistances x_madeSymbols x_madeDistances x_p1_codes x_p1_next x_p2_codes x_p2_next v_extraBits c_p1_lengths c_symbolCounts c_p2_lengths c_distanceCounts v_tokenCount) H := hP
  replace hD : va_D A (Packer_bitsWith_w E a_this a_p1 a_p1_lengths a_symbolCounts a_p2 a_p2_lengths a_distanceCounts n_p1_lengths n_p2_lengths x_row x_out x_matches x_lists x_header x_tokens x_fixedSymbols x_fixedDistances x_madeSymbols x_madeDistances x_p1_codes x_p1_next x_p2_codes x_p2_next v_extraBits c_p1_lengths c_symbolCounts c_p2_lengths c_distanceCounts v_tokenCount) := hD
  refine lv_aload_n hx hb d_Packer_bitsWith_8 rfl (lv_at hl 2 rfl) ?_
  refine lv_aload_n hx hb d_Packer_bitsWith_9 rfl (lv_at hl 0 rfl) ?_
  refine va_get (D := E.1) (ci := 7) (v := .ref a_distanceCounts) (C := R_Packer) (T := F_Packer) (N := 14) hx hb hts i_Packer hown hK hP 0 rfl rfl 7 (by decide) (hts _ tw_256) (fun _ h9 => h9) rfl d_Packer_bitsWith_10 ?_
  obtain ⟨r_2, hc13, hm⟩ := mR0_e hm
  refine xmi (wc := (Code_bitsFor_w E a_p2 a_p2_lengths a_distanceCounts n_p2_lengths 30 x_p2_codes x_p2_next c_p2_lengths c_distanceCounts)) [false, false, false, false, true, true, true] [0, 1, 2] [0, 1, 2] hP hD hS hA rfl (by decide) (by decide) 3 (by decide) (fun _ => rfl) (fun hPc hDc hFc => va_runV (As := [.ref a_distanceCounts]) (rest := [.int r_1]) ⟨hx, hb, hml, hown, hts⟩ (c_Code_bitsFor l E F H.size a_p2 a_p2_lengths a_distanceCounts n_p2_lengths 30 x_p2_codes x_p2_next c_p2_lengths c_distanceCounts (r_2, ()) hc13) (cwV 1 hts (x_gV tw_530 tw_531 tw_532 tw_74 tw_533) rfl rfl rfl (by decide +kernel) ⟨Nat.le_of_ble_eq_true rfl, Nat.le_of_ble_eq_true rfl⟩) (xPV 3 0 rfl rfl hPc hDc hFc hK hI hN hS) rfl rfl hl.1 rfl (lv_room (Nat.le_of_ble_eq_true rfl)) d_Packer_bitsWith_13 ⟨Nat.le_of_ble_eq_true rfl, Nat.le_of_ble_eq_true rfl⟩) (fun r9 u9 H locs hw hP hD hS => ?_)
  have hw1 : r_2 = r9 := hw.1.symm
  subst hw1
  replace hP : va_P E.1 vwCl (Packer_bitsWith_w E a_this a_p1 a_p1_lengths a_symbolCounts a_p2 a_p2_lengths a_distanceCounts n_p1_lengths n_p2_lengths x_row x_out x_matches x_lists x_header x_tokens x_fixedSymbols x_fixedDistances x_madeSymbols x_madeDistances x_p1_codes x_p1_next x_p2_codes x_p2_next v_extraBits c_p1_lengths c_symbolCounts c_p2_lengths c_distanceCounts v_tokenCount) H := hP
  replace hD : va_D A (Packer_bitsWith_w E a_this a_p1 a_p1_lengths a_symbolCounts a_p2 a_p2_lengths a_distanceCounts n_p1_lengths n_p2_lengths x_row x_out x_matches x_lists x_header x_tokens x_fixedSymbols x_fixedDistances x_madeSymbols x_madeDistances x_p1_codes x_p1_next x_p2_codes x_p2_next v_extraBits c_p1_lengths c_symbolCounts c_p2_lengths c_distanceCounts v_tokenCount) := hD
  refine lv_iadd hx hb d_Packer_bitsWith_16 ?_
  refine lv_aload_n hx hb d_Packer_bitsWith_17 rfl (lv_at hl 0 rfl) ?_
  refine va_get (D := E.1) (ci := 7) (v := .int v_extraBits) (C := R_Packer) (T := F_Packer) (N := 14) hx hb hts i_Packer hown hK hP 0 rfl rfl 13 (by decide) (hts _ tw_262) (fun _ h9 => h9) rfl d_Packer_bitsWith_18 ?_
  refine lv_iadd hx hb d_Packer_bitsWith_21 ?_
  replace hm := Option.some.inj hm
  subst hm
  exact hret d_Packer_bitsWith_22 (u := ()) ⟨rfl, rfl⟩ hP hD hS
theorem d_Packer_writeStored_0 : decode b_Packer_writeStored 0 = .ok (.iload_n 2, 1) := by decide +kernel
theorem d_Packer_writeStored_1 : decode b_Packer_writeStored 1 = .ok (.iload_n 1, 1) := by decide +kernel
theorem d_Packer_writeStored_2 : decode b_Packer_writeStored 2 = .ok (.isub, 1) := by decide +kernel
theorem d_Packer_writeStored_3 : decode b_Packer_writeStored 3 = .ok (.istore_n 3, 1) := by decide +kernel
theorem d_Packer_writeStored_4 : decode b_Packer_writeStored 4 = .ok (.aload_n 0, 1) := by decide +kernel
theorem d_Packer_writeStored_5 : decode b_Packer_writeStored 5 = .ok (.getfield 18, 3) := by decide +kernel
theorem d_Packer_writeStored_8 : decode b_Packer_writeStored 8 = .ok (.invokevirtual 116, 3) := by decide +kernel
theorem d_Packer_writeStored_11 : decode b_Packer_writeStored 11 = .ok (.aload_n 0, 1) := by decide +kernel
theorem d_Packer_writeStored_12 : decode b_Packer_writeStored 12 = .ok (.getfield 18, 3) := by decide +kernel
theorem d_Packer_writeStored_15 : decode b_Packer_writeStored 15 = .ok (.iload_n 3, 1) := by decide +kernel
theorem d_Packer_writeStored_16 : decode b_Packer_writeStored 16 = .ok (.bipush 16, 2) := by decide +kernel
theorem d_Packer_writeStored_18 : decode b_Packer_writeStored 18 = .ok (.invokevirtual 97, 3) := by decide +kernel
theorem d_Packer_writeStored_21 : decode b_Packer_writeStored 21 = .ok (.aload_n 0, 1) := by decide +kernel
theorem d_Packer_writeStored_22 : decode b_Packer_writeStored 22 = .ok (.getfield 18, 3) := by decide +kernel
theorem d_Packer_writeStored_25 : decode b_Packer_writeStored 25 = .ok (.ldc 178, 2) := by decide +kernel
theorem d_Packer_writeStored_27 : decode b_Packer_writeStored 27 = .ok (.iload_n 3, 1) := by decide +kernel
theorem d_Packer_writeStored_28 : decode b_Packer_writeStored 28 = .ok (.isub, 1) := by decide +kernel
theorem d_Packer_writeStored_29 : decode b_Packer_writeStored 29 = .ok (.bipush 16, 2) := by decide +kernel
theorem d_Packer_writeStored_31 : decode b_Packer_writeStored 31 = .ok (.invokevirtual 97, 3) := by decide +kernel
theorem d_Packer_writeStored_34 : decode b_Packer_writeStored 34 = .ok (.iload_n 1, 1) := by decide +kernel
theorem d_Packer_writeStored_35 : decode b_Packer_writeStored 35 = .ok (.istore 4, 2) := by decide +kernel
theorem d_Packer_writeStored_37 : decode b_Packer_writeStored 37 = .ok (.iload 4, 2) := by decide +kernel
theorem d_Packer_writeStored_39 : decode b_Packer_writeStored 39 = .ok (.iload_n 2, 1) := by decide +kernel
theorem d_Packer_writeStored_40 : decode b_Packer_writeStored 40 = .ok (.if_icmp .ge 27, 3) := by decide +kernel
theorem d_Packer_writeStored_43 : decode b_Packer_writeStored 43 = .ok (.aload_n 0, 1) := by decide +kernel
theorem d_Packer_writeStored_44 : decode b_Packer_writeStored 44 = .ok (.getfield 18, 3) := by decide +kernel
theorem d_Packer_writeStored_47 : decode b_Packer_writeStored 47 = .ok (.aload_n 0, 1) := by decide +kernel
theorem d_Packer_writeStored_48 : decode b_Packer_writeStored 48 = .ok (.getfield 9, 3) := by decide +kernel
theorem d_Packer_writeStored_51 : decode b_Packer_writeStored 51 = .ok (.iload 4, 2) := by decide +kernel
theorem d_Packer_writeStored_53 : decode b_Packer_writeStored 53 = .ok (.invokevirtual 165, 3) := by decide +kernel
theorem d_Packer_writeStored_56 : decode b_Packer_writeStored 56 = .ok (.bipush 8, 2) := by decide +kernel
theorem d_Packer_writeStored_58 : decode b_Packer_writeStored 58 = .ok (.invokevirtual 97, 3) := by decide +kernel
theorem d_Packer_writeStored_61 : decode b_Packer_writeStored 61 = .ok (.iinc 4 1, 3) := by decide +kernel
theorem d_Packer_writeStored_64 : decode b_Packer_writeStored 64 = .ok (.goto (-27), 3) := by decide +kernel
theorem d_Packer_writeStored_67 : decode b_Packer_writeStored 67 = .ok (.return_, 1) := by decide +kernel
def Packer_writeStored_37 (F : Nat) (n_row_data : Nat) (v_row_length : Int32) (c_row_data : Nat → Int32) (x2 : Int32) (k_37 : Int32 → Int32 → Int32 → (Nat → Int32) → Int32 → Option (Unit × Int32 × Int32 × Int32 × (Nat → Int32))) (v_out_length : Int32) (v_out_open : Int32) (v_out_openCount : Int32) (c_out_data : Nat → Int32) (x4 : Int32) : Option (Unit × Int32 × Int32 × Int32 × (Nat → Int32)) :=
  mC (x2 ≤ x4) (some ((), v_out_length, v_out_open, v_out_openCount, c_out_data)) (mR0 (Bytes_at F n_row_data v_row_length c_row_data x4) fun r_1 => mR4 (BitWriter_number F v_out_length v_out_open v_out_openCount c_out_data r_1 8) fun _ v_length_2 v_open_3 v_openCount_4 c_data_5 => mL (x4 + 1) fun y4_7 => k_37 v_length_2 v_open_3 v_openCount_4 c_data_5 y4_7)
abbrev Packer_writeStored_w (E : xE) (a_this : Nat) (a_out : Nat) (a_out_data : Nat) (a_row : Nat) (a_row_data : Nat) (n_row_data : Nat) (x_matches : Value) (x_lists : Value) (x_header : Value) (x_tokens : Value) (x_symbolCounts : Value) (x_distanceCounts : Value) (x_fixedSymbols : Value) (x_fixedDistances : Value) (x_madeSymbols : Value) (x_madeDistances : Value) (v_row_length : Int32) (c_row_data : Nat → Int32) (v_out_length : Int32) (v_out_open : Int32) (v_out_openCount : Int32) (c_out_data : Nat → Int32) (v_tokenCount : Int32) (v_extraBits : Int32) : va_W := [(a_this, .inr (7, [.ref a_row, .ref a_out, x_matches, x_lists, x_header, x_tokens, x_symbolCounts, x_distanceCounts, x_fixedSymbols, x_fixedDistances, x_madeSymbols, x_madeDistances, .int v_tokenCount, .int v_extraBits])), (a_out, .inr (1, [.ref a_out_data, .int v_out_length, .int v_out_open, .int v_out_openCount])), (a_out_data, .inl (E.2.2.1, 8256, .inl c_out_data)), (a_row, .inr (2, [.ref a_row_data, .int v_row_length])), (a_row_data, .inl (E.2.2.1, n_row_data, .inl c_row_data))]
def Packer_writeStored (F : Nat) (n_row_data : Nat) (v_row_length : Int32) (c_row_data : Nat → Int32) (v_out_length : Int32) (v_out_open : Int32) (v_out_openCount : Int32) (c_out_data : Nat → Int32) (x1 : Int32) (x2 : Int32) : Option (Unit × Int32 × Int32 × Int32 × (Nat → Int32)) :=
  mL (x2 - x1) fun y3_8 => mR4 (BitWriter_align F v_out_length v_out_open v_out_openCount c_out_data) fun _ v_length_9 v_open_10 v_openCount_11 c_data_12 => mR4 (BitWriter_number F v_length_9 v_open_10 v_openCount_11 c_data_12 y3_8 16) fun _ v_length_14 v_open_15 v_openCount_16 c_data_17 => mL (65535 - y3_8) fun t_19 => mR4 (BitWriter_number F v_length_14 v_open_15 v_openCount_16 c_data_17 t_19 16) fun _ v_length_20 v_open_21 v_openCount_22 c_data_23 => (mW5 (Packer_writeStored_37 F n_row_data v_row_length c_row_data x2) F) v_length_20 v_open_21 v_openCount_22 c_data_23 x1
abbrev Packer_writeStored_rm : Room := { frames := 2, cells := 0, slots := 0, locals := 42 }
set_option maxHeartbeats 4000000 in
set_option maxRecDepth 100000 in
theorem c_Packer_writeStored (l : Launch) (E : xE) (F sz : Nat) (a_this : Nat) (a_out : Nat) (a_out_data : Nat) (a_row : Nat) (a_row_data : Nat) (n_row_data : Nat) (x_matches : Value) (x_lists : Value) (x_header : Value) (x_tokens : Value) (x_symbolCounts : Value) (x_distanceCounts : Value) (x_fixedSymbols : Value) (x_fixedDistances : Value) (x_madeSymbols : Value) (x_madeDistances : Value) (v_row_length : Int32) (c_row_data : Nat → Int32) (v_out_length : Int32) (v_out_open : Int32) (v_out_openCount : Int32) (c_out_data : Nat → Int32) (v_tokenCount : Int32) (v_extraBits : Int32) (x1 : Int32) (x2 : Int32) (res : Unit × Int32 × Int32 × Int32 × (Nat → Int32)) (hm : Packer_writeStored F n_row_data v_row_length c_row_data v_out_length v_out_open v_out_openCount c_out_data x1 x2 = some res) : Met l y_Packer_writeStored (Cond.code y_Packer_writeStored b_Packer_writeStored 5 none :: x_tb) Packer_writeStored_rm (va_Pc [.ref a_this, .int x1, .int x2] (xPre E (Packer_writeStored_w E a_this a_out a_out_data a_row a_row_data n_row_data x_matches x_lists x_header x_tokens x_symbolCounts x_distanceCounts x_fixedSymbols x_fixedDistances x_madeSymbols x_madeDistances v_row_length c_row_data v_out_length v_out_open v_out_openCount c_out_data v_tokenCount v_extraBits) sz)) (xQv E (fun (u : Int32 × Int32 × Int32 × (Nat → Int32)) => u = res.2) (fun (u : Int32 × Int32 × Int32 × (Nat → Int32)) => (Packer_writeStored_w E a_this a_out a_out_data a_row a_row_data n_row_data x_matches x_lists x_header x_tokens x_symbolCounts x_distanceCounts x_fixedSymbols x_fixedDistances x_madeSymbols x_madeDistances v_row_length c_row_data u.1 u.2.1 u.2.2.1 u.2.2.2 v_tokenCount v_extraBits)) (va_A (Packer_writeStored_w E a_this a_out a_out_data a_row a_row_data n_row_data x_matches x_lists x_header x_tokens x_symbolCounts x_distanceCounts x_fixedSymbols x_fixedDistances x_madeSymbols x_madeDistances v_row_length c_row_data v_out_length v_out_open v_out_openCount c_out_data v_tokenCount v_extraBits) sz)) 0 0 (va_A (Packer_writeStored_w E a_this a_out a_out_data a_row a_row_data n_row_data x_matches x_lists x_header x_tokens x_symbolCounts x_distanceCounts x_fixedSymbols x_fixedDistances x_madeSymbols x_madeDistances v_row_length c_row_data v_out_length v_out_open v_out_openCount c_out_data v_tokenCount v_extraBits) sz) := by
  refine xEnV (by decide) (Nat.le_of_ble_eq_true rfl) ?_
  intro p e s m args below meth c A ls Q hx hb hnm hts hown hml hK hA hI hN hret hP hD hS hl
  replace hown : s.vm.findClass R_Packer = some m.cls := hown
  replace hl : lv_has ls 5 [(0, .ref a_this), (1, .int x1), (2, .int x2)] := hl
  obtain ⟨H, eH⟩ : ∃ z, z = s.heap := ⟨_, rfl⟩
  obtain ⟨locs, eL⟩ : ∃ z : List Loc, z = [] := ⟨_, rfl⟩
  rw [show W p l e Packer_writeStored_rm s m args below meth c s.heap [] 0 0 Q (F0 m 0 ls []) = W p l e Packer_writeStored_rm s m args below meth c H locs 0 0 Q (F0 m 0 ls []) by rw [eH, eL]]
  replace hP : va_P E.1 vwCl (Packer_writeStored_w E a_this a_out a_out_data a_row a_row_data n_row_data x_matches x_lists x_header x_tokens x_symbolCounts x_distanceCounts x_fixedSymbols x_fixedDistances x_madeSymbols x_madeDistances v_row_length c_row_data v_out_length v_out_open v_out_openCount c_out_data v_tokenCount v_extraBits) H := by rw [eH]; exact hP
  replace hS : va_S A s.heap H locs := by rw [eH, eL]; exact hS
  clear eH eL
  rw [Packer_writeStored] at hm
  have h_37 : ∀ (n_37 : Nat) (v_out_length : Int32) (v_out_open : Int32) (v_out_openCount : Int32) (c_out_data : Nat → Int32) (x4 : Int32) (H : Heap) (locs : List Loc) (ls : Array Slot), (mW5 (Packer_writeStored_37 F n_row_data v_row_length c_row_data x2) n_37) v_out_length v_out_open v_out_openCount c_out_data x4 = some res → va_P E.1 vwCl (Packer_writeStored_w E a_this a_out a_out_data a_row a_row_data n_row_data x_matches x_lists x_header x_tokens x_symbolCounts x_distanceCounts x_fixedSymbols x_fixedDistances x_madeSymbols x_madeDistances v_row_length c_row_data v_out_length v_out_open v_out_openCount c_out_data v_tokenCount v_extraBits) H → va_D A (Packer_writeStored_w E a_this a_out a_out_data a_row a_row_data n_row_data x_matches x_lists x_header x_tokens x_symbolCounts x_distanceCounts x_fixedSymbols x_fixedDistances x_madeSymbols x_madeDistances v_row_length c_row_data v_out_length v_out_open v_out_openCount c_out_data v_tokenCount v_extraBits) → va_S A s.heap H locs → lv_has ls 5 [(0, .ref a_this), (2, .int x2), (4, .int x4)] → W p l e Packer_writeStored_rm s m args below meth c H locs 0 0 Q (F0 m 37 ls []) := by
    intro n_37
    induction n_37 with
    | zero => exact fun _ _ _ _ _ _ _ _ hm _ _ _ _ => (mW5_z hm).elim
    | succ n_37 ih_37 =>
      intro v_out_length v_out_open v_out_openCount c_out_data x4 H locs ls hm hP hD hS hl
      replace hm := mW5_s hm
      rw [Packer_writeStored_37] at hm
      refine lv_iload hx hb d_Packer_writeStored_37 (lv_at hl 2 rfl) ?_
      refine lv_iload_n hx hb d_Packer_writeStored_39 rfl (lv_at hl 1 rfl) ?_
      refine lv_icmp_ge (tgt := 67) hx hb d_Packer_writeStored_40 (by decide) (fun c40 => ?_) (fun c40 => ?_)
      · replace hm := mC_t hm c40
        replace hm := Option.some.inj hm
        subst hm
        exact hret d_Packer_writeStored_67 (u := (v_out_length, v_out_open, v_out_openCount, c_out_data)) rfl hP hD hS
      · replace hm := mC_f hm c40
        refine lv_aload_n hx hb d_Packer_writeStored_43 rfl (lv_at hl 0 rfl) ?_
        refine va_get (D := E.1) (ci := 7) (v := .ref a_out) (C := R_Packer) (T := F_Packer) (N := 14) hx hb hts i_Packer hown hK hP 0 rfl rfl 1 (by decide) (hts _ tw_250) (fun _ h9 => h9) rfl d_Packer_writeStored_44 ?_
        refine lv_aload_n hx hb d_Packer_writeStored_47 rfl (lv_at hl 0 rfl) ?_
        refine va_get (D := E.1) (ci := 7) (v := .ref a_row) (C := R_Packer) (T := F_Packer) (N := 14) hx hb hts i_Packer hown hK hP 0 rfl rfl 0 (by decide) (hts _ tw_249) (fun _ h9 => h9) rfl d_Packer_writeStored_48 ?_
        refine lv_iload hx hb d_Packer_writeStored_51 (lv_at hl 2 rfl) ?_
        obtain ⟨r_1, hc53, hm⟩ := mR0_e hm
        refine xmi (wc := (Bytes_at_w E a_row a_row_data n_row_data v_row_length c_row_data)) [false, false, false, true, true] [0, 1] [0, 1] hP hD hS hA rfl (by decide) (by decide) 2 (by decide) (fun _ => rfl) (fun hPc hDc hFc => va_runV (As := [.int x4]) (rest := [.ref a_out]) ⟨hx, hb, hml, hown, hts⟩ (c_Bytes_at l E F H.size a_row a_row_data n_row_data v_row_length c_row_data x4 (r_1, ()) hc53) (cwV 1 hts (x_gV tw_477 tw_448 tw_449 tw_67 tw_450) rfl rfl rfl (by decide +kernel) ⟨Nat.le_of_ble_eq_true rfl, Nat.le_of_ble_eq_true rfl⟩) (xPV 2 0 rfl rfl hPc hDc hFc hK hI hN hS) rfl rfl hl.1 rfl (lv_room (Nat.le_of_ble_eq_true rfl)) d_Packer_writeStored_53 ⟨Nat.le_of_ble_eq_true rfl, Nat.le_of_ble_eq_true rfl⟩) (fun r9 u9 H locs hw hP hD hS => ?_)
        have hw1 : r_1 = r9 := hw.1.symm
        subst hw1
        replace hP : va_P E.1 vwCl (Packer_writeStored_w E a_this a_out a_out_data a_row a_row_data n_row_data x_matches x_lists x_header x_tokens x_symbolCounts x_distanceCounts x_fixedSymbols x_fixedDistances x_madeSymbols x_madeDistances v_row_length c_row_data v_out_length v_out_open v_out_openCount c_out_data v_tokenCount v_extraBits) H := hP
        replace hD : va_D A (Packer_writeStored_w E a_this a_out a_out_data a_row a_row_data n_row_data x_matches x_lists x_header x_tokens x_symbolCounts x_distanceCounts x_fixedSymbols x_fixedDistances x_madeSymbols x_madeDistances v_row_length c_row_data v_out_length v_out_open v_out_openCount c_out_data v_tokenCount v_extraBits) := hD
        refine lv_bipush (v := 8) hx hb d_Packer_writeStored_56 (by decide) ?_
        obtain ⟨r_6, v_length_2, v_open_3, v_openCount_4, c_data_5, hc58, hm⟩ := mR4_e hm
        refine xmv (wc := (BitWriter_number_w E a_out a_out_data v_out_length v_out_open v_out_openCount c_out_data)) [false, true, true, false, false] [0, 1] [0, 1] hP hD hS hA rfl (by decide) (by decide) 2 (by decide) (fun _ => rfl) (fun hPc hDc hFc => va_runV (As := [.int r_1, .int 8]) (rest := []) ⟨hx, hb, hml, hown, hts⟩ (c_BitWriter_number l E F H.size a_out a_out_data v_out_length v_out_open v_out_openCount c_out_data r_1 8 (r_6, v_length_2, v_open_3, v_openCount_4, c_data_5) hc58) (cwV 2 hts (x_gV tw_452 tw_453 tw_454 tw_70 tw_455) rfl rfl rfl (by decide +kernel) ⟨Nat.le_of_ble_eq_true rfl, Nat.le_of_ble_eq_true rfl⟩) (xPV 1 0 rfl rfl hPc hDc hFc hK hI hN hS) rfl rfl hl.1 rfl (lv_room (Nat.le_of_ble_eq_true rfl)) d_Packer_writeStored_58 ⟨Nat.le_of_ble_eq_true rfl, Nat.le_of_ble_eq_true rfl⟩) (fun u9 H locs hw hP hD hS => ?_)
        have hw2 : (v_length_2, v_open_3, v_openCount_4, c_data_5) = u9 := hw.symm
        subst hw2
        replace hP : va_P E.1 vwCl (Packer_writeStored_w E a_this a_out a_out_data a_row a_row_data n_row_data x_matches x_lists x_header x_tokens x_symbolCounts x_distanceCounts x_fixedSymbols x_fixedDistances x_madeSymbols x_madeDistances v_row_length c_row_data v_length_2 v_open_3 v_openCount_4 c_data_5 v_tokenCount v_extraBits) H := hP
        replace hD : va_D A (Packer_writeStored_w E a_this a_out a_out_data a_row a_row_data n_row_data x_matches x_lists x_header x_tokens x_symbolCounts x_distanceCounts x_fixedSymbols x_fixedDistances x_madeSymbols x_madeDistances v_row_length c_row_data v_length_2 v_open_3 v_openCount_4 c_data_5 v_tokenCount v_extraBits) := hD
        obtain ⟨y4_7, ey4_7⟩ : ∃ y : Int32, y = x4 + 1 := ⟨_, rfl⟩
        replace hm := mL_e hm y4_7 ey4_7
        refine lv_iinc (v := y4_7) (lv' := [(4, .int y4_7), (0, .ref a_this), (2, .int x2)]) hx hb d_Packer_writeStored_61 hl (k := 2) rfl (by rw [ey4_7]; rfl) (by decide) rfl (fun ls hl => ?_)
        refine lv_goto (tgt := 37) hx hb d_Packer_writeStored_64 (by decide) ?_
        exact ih_37 _ _ _ _ _ H locs ls hm hP hD hS (lv_sub hl [1, 2, 0] rfl)
  refine lv_iload_n hx hb d_Packer_writeStored_0 rfl (lv_at hl 2 rfl) ?_
  refine lv_iload_n hx hb d_Packer_writeStored_1 rfl (lv_at hl 1 rfl) ?_
  refine lv_isub hx hb d_Packer_writeStored_2 ?_
  refine lv_topi (fun y3_8 ey3_8 => ?_)
  replace hm := mL_e hm y3_8 ey3_8
  refine lv_istore_n (lv' := [(3, .int y3_8), (0, .ref a_this), (1, .int x1), (2, .int x2)]) hx hb d_Packer_writeStored_3 rfl hl (by decide) rfl (fun ls hl => ?_)
  refine lv_aload_n hx hb d_Packer_writeStored_4 rfl (lv_at hl 1 rfl) ?_
  refine va_get (D := E.1) (ci := 7) (v := .ref a_out) (C := R_Packer) (T := F_Packer) (N := 14) hx hb hts i_Packer hown hK hP 0 rfl rfl 1 (by decide) (hts _ tw_250) (fun _ h9 => h9) rfl d_Packer_writeStored_5 ?_
  obtain ⟨r_13, v_length_9, v_open_10, v_openCount_11, c_data_12, hc8, hm⟩ := mR4_e hm
  refine xmv (wc := (BitWriter_align_w E a_out a_out_data v_out_length v_out_open v_out_openCount c_out_data)) [false, true, true, false, false] [0, 1] [0, 1] hP hD hS hA rfl (by decide) (by decide) 2 (by decide) (fun _ => rfl) (fun hPc hDc hFc => va_runV (As := []) (rest := []) ⟨hx, hb, hml, hown, hts⟩ (c_BitWriter_align l E F H.size a_out a_out_data v_out_length v_out_open v_out_openCount c_out_data (r_13, v_length_9, v_open_10, v_openCount_11, c_data_12) hc8) (cwV 0 hts (x_gV tw_580 tw_581 tw_582 tw_70 tw_583) rfl rfl rfl (by decide +kernel) ⟨Nat.le_of_ble_eq_true rfl, Nat.le_of_ble_eq_true rfl⟩) (xPV 1 0 rfl rfl hPc hDc hFc hK hI hN hS) rfl rfl hl.1 rfl (lv_room (Nat.le_of_ble_eq_true rfl)) d_Packer_writeStored_8 ⟨Nat.le_of_ble_eq_true rfl, Nat.le_of_ble_eq_true rfl⟩) (fun u9 H locs hw hP hD hS => ?_)
  have hw2 : (v_length_9, v_open_10, v_openCount_11, c_data_12) = u9 := hw.symm
  subst hw2
  replace hP : va_P E.1 vwCl (Packer_writeStored_w E a_this a_out a_out_data a_row a_row_data n_row_data x_matches x_lists x_header x_tokens x_symbolCounts x_distanceCounts x_fixedSymbols x_fixedDistances x_madeSymbols x_madeDistances v_row_length c_row_data v_length_9 v_open_10 v_openCount_11 c_data_12 v_tokenCount v_extraBits) H := hP
  replace hD : va_D A (Packer_writeStored_w E a_this a_out a_out_data a_row a_row_data n_row_data x_matches x_lists x_header x_tokens x_symbolCounts x_distanceCounts x_fixedSymbols x_fixedDistances x_madeSymbols x_madeDistances v_row_length c_row_data v_length_9 v_open_10 v_openCount_11 c_data_12 v_tokenCount v_extraBits) := hD
  refine lv_aload_n hx hb d_Packer_writeStored_11 rfl (lv_at hl 1 rfl) ?_
  refine va_get (D := E.1) (ci := 7) (v := .ref a_out) (C := R_Packer) (T := F_Packer) (N := 14) hx hb hts i_Packer hown hK hP 0 rfl rfl 1 (by decide) (hts _ tw_250) (fun _ h9 => h9) rfl d_Packer_writeStored_12 ?_
  refine lv_iload_n hx hb d_Packer_writeStored_15 rfl (lv_at hl 0 rfl) ?_
  refine lv_bipush (v := 16) hx hb d_Packer_writeStored_16 (by decide) ?_
  obtain ⟨r_18, v_length_14, v_open_15, v_openCount_16, c_data_17, hc18, hm⟩ := mR4_e hm
  refine xmv (wc := (BitWriter_number_w E a_out a_out_data v_length_9 v_open_10 v_openCount_11 c_data_12)) [false, true, true, false, false] [0, 1] [0, 1] hP hD hS hA rfl (by decide) (by decide) 2 (by decide) (fun _ => rfl) (fun hPc hDc hFc => va_runV (As := [.int y3_8, .int 16]) (rest := []) ⟨hx, hb, hml, hown, hts⟩ (c_BitWriter_number l E F H.size a_out a_out_data v_length_9 v_open_10 v_openCount_11 c_data_12 y3_8 16 (r_18, v_length_14, v_open_15, v_openCount_16, c_data_17) hc18) (cwV 2 hts (x_gV tw_452 tw_453 tw_454 tw_70 tw_455) rfl rfl rfl (by decide +kernel) ⟨Nat.le_of_ble_eq_true rfl, Nat.le_of_ble_eq_true rfl⟩) (xPV 1 0 rfl rfl hPc hDc hFc hK hI hN hS) rfl rfl hl.1 rfl (lv_room (Nat.le_of_ble_eq_true rfl)) d_Packer_writeStored_18 ⟨Nat.le_of_ble_eq_true rfl, Nat.le_of_ble_eq_true rfl⟩) (fun u9 H locs hw hP hD hS => ?_)
  have hw2 : (v_length_14, v_open_15, v_openCount_16, c_data_17) = u9 := hw.symm
  subst hw2
  replace hP : va_P E.1 vwCl (Packer_writeStored_w E a_this a_out a_out_data a_row a_row_data n_row_data x_matches x_lists x_header x_tokens x_symbolCounts x_distanceCounts x_fixedSymbols x_fixedDistances x_madeSymbols x_madeDistances v_row_length c_row_data v_length_14 v_open_15 v_openCount_16 c_data_17 v_tokenCount v_extraBits) H := hP
  replace hD : va_D A (Packer_writeStored_w E a_this a_out a_out_data a_row a_row_data n_row_data x_matches x_lists x_header x_tokens x_symbolCounts x_distanceCounts x_fixedSymbols x_fixedDistances x_madeSymbols x_madeDistances v_row_length c_row_data v_length_14 v_open_15 v_openCount_16 c_data_17 v_tokenCount v_extraBits) := hD
  refine lv_aload_n hx hb d_Packer_writeStored_21 rfl (lv_at hl 1 rfl) ?_
  refine va_get (D := E.1) (ci := 7) (v := .ref a_out) (C := R_Packer) (T := F_Packer) (N := 14) hx hb hts i_Packer hown hK hP 0 rfl rfl 1 (by decide) (hts _ tw_250) (fun _ h9 => h9) rfl d_Packer_writeStored_22 ?_
  refine lv_ldc (v := 65535) hx hb hown (hts _ tw_486) d_Packer_writeStored_25 ?_
  refine lv_iload_n hx hb d_Packer_writeStored_27 rfl (lv_at hl 0 rfl) ?_
  refine lv_isub hx hb d_Packer_writeStored_28 ?_
  refine lv_bipush (v := 16) hx hb d_Packer_writeStored_29 (by decide) ?_
  obtain ⟨t_19, et_19⟩ : ∃ z : Int32, z = 65535 - y3_8 := ⟨_, rfl⟩
  rw [← et_19]
  replace hm := mL_e hm t_19 et_19
  obtain ⟨r_24, v_length_20, v_open_21, v_openCount_22, c_data_23, hc31, hm⟩ := mR4_e hm
  refine xmv (wc := (BitWriter_number_w E a_out a_out_data v_length_14 v_open_15 v_openCount_16 c_data_17)) [false, true, true, false, false] [0, 1] [0, 1] hP hD hS hA rfl (by decide) (by decide) 2 (by decide) (fun _ => rfl) (fun hPc hDc hFc => va_runV (As := [.int t_19, .int 16]) (rest := []) ⟨hx, hb, hml, hown, hts⟩ (c_BitWriter_number l E F H.size a_out a_out_data v_length_14 v_open_15 v_openCount_16 c_data_17 t_19 16 (r_24, v_length_20, v_open_21, v_openCount_22, c_data_23) hc31) (cwV 2 hts (x_gV tw_452 tw_453 tw_454 tw_70 tw_455) rfl rfl rfl (by decide +kernel) ⟨Nat.le_of_ble_eq_true rfl, Nat.le_of_ble_eq_true rfl⟩) (xPV 1 0 rfl rfl hPc hDc hFc hK hI hN hS) rfl rfl hl.1 rfl (lv_room (Nat.le_of_ble_eq_true rfl)) d_Packer_writeStored_31 ⟨Nat.le_of_ble_eq_true rfl, Nat.le_of_ble_eq_true rfl⟩) (fun u9 H locs hw hP hD hS => ?_)
  have hw2 : (v_length_20, v_open_21, v_openCount_22, c_data_23) = u9 := hw.symm
  subst hw2
  replace hP : va_P E.1 vwCl (Packer_writeStored_w E a_this a_out a_out_data a_row a_row_data n_row_data x_matches x_lists x_header x_tokens x_symbolCounts x_distanceCounts x_fixedSymbols x_fixedDistances x_madeSymbols x_madeDistances v_row_length c_row_data v_length_20 v_open_21 v_openCount_22 c_data_23 v_tokenCount v_extraBits) H := hP
  replace hD : va_D A (Packer_writeStored_w E a_this a_out a_out_data a_row a_row_data n_row_data x_matches x_lists x_header x_tokens x_symbolCounts x_distanceCounts x_fixedSymbols x_fixedDistances x_madeSymbols x_madeDistances v_row_length c_row_data v_length_20 v_open_21 v_openCount_22 c_data_23 v_tokenCount v_extraBits) := hD
  refine lv_iload_n hx hb d_Packer_writeStored_34 rfl (lv_at hl 2 rfl) ?_
  refine lv_istore (lv' := [(4, .int x1), (3, .int y3_8), (0, .ref a_this), (1, .int x1), (2, .int x2)]) hx hb d_Packer_writeStored_35 hl (by decide) rfl (fun ls hl => ?_)
  exact h_37 F _ _ _ _ _ H locs ls hm hP hD hS (lv_sub hl [2, 4, 0] rfl)
theorem d_Packer_writeTokens_0 : decode b_Packer_writeTokens 0 = .ok (.iconst 0, 1) := by decide +kernel
theorem d_Packer_writeTokens_1 : decode b_Packer_writeTokens 1 = .ok (.istore_n 3, 1) := by decide +kernel
theorem d_Packer_writeTokens_2 : decode b_Packer_writeTokens 2 = .ok (.iload_n 3, 1) := by decide +kernel
theorem d_Packer_writeTokens_3 : decode b_Packer_writeTokens 3 = .ok (.aload_n 0, 1) := by decide +kernel
theorem d_Packer_writeTokens_4 : decode b_Packer_writeTokens 4 = .ok (.getfield 155, 3) := by decide +kernel
theorem d_Packer_writeTokens_7 : decode b_Packer_writeTokens 7 = .ok (.if_icmp .ge 142, 3) := by decide +kernel
theorem d_Packer_writeTokens_10 : decode b_Packer_writeTokens 10 = .ok (.iload_n 3, 1) := by decide +kernel
theorem d_Packer_writeTokens_11 : decode b_Packer_writeTokens 11 = .ok (.aload_n 0, 1) := by decide +kernel
theorem d_Packer_writeTokens_12 : decode b_Packer_writeTokens 12 = .ok (.getfield 47, 3) := by decide +kernel
theorem d_Packer_writeTokens_15 : decode b_Packer_writeTokens 15 = .ok (.arraylength, 1) := by decide +kernel
theorem d_Packer_writeTokens_16 : decode b_Packer_writeTokens 16 = .ok (.if_icmp .ge 133, 3) := by decide +kernel
theorem d_Packer_writeTokens_19 : decode b_Packer_writeTokens 19 = .ok (.aload_n 0, 1) := by decide +kernel
theorem d_Packer_writeTokens_20 : decode b_Packer_writeTokens 20 = .ok (.getfield 47, 3) := by decide +kernel
theorem d_Packer_writeTokens_23 : decode b_Packer_writeTokens 23 = .ok (.iload_n 3, 1) := by decide +kernel
theorem d_Packer_writeTokens_24 : decode b_Packer_writeTokens 24 = .ok (.iaload, 1) := by decide +kernel
theorem d_Packer_writeTokens_25 : decode b_Packer_writeTokens 25 = .ok (.ldc 174, 2) := by decide +kernel
theorem d_Packer_writeTokens_27 : decode b_Packer_writeTokens 27 = .ok (.if_icmp .ge 20, 3) := by decide +kernel
theorem d_Packer_writeTokens_30 : decode b_Packer_writeTokens 30 = .ok (.aload_n 1, 1) := by decide +kernel
theorem d_Packer_writeTokens_31 : decode b_Packer_writeTokens 31 = .ok (.aload_n 0, 1) := by decide +kernel
theorem d_Packer_writeTokens_32 : decode b_Packer_writeTokens 32 = .ok (.getfield 18, 3) := by decide +kernel
theorem d_Packer_writeTokens_35 : decode b_Packer_writeTokens 35 = .ok (.aload_n 0, 1) := by decide +kernel
theorem d_Packer_writeTokens_36 : decode b_Packer_writeTokens 36 = .ok (.getfield 47, 3) := by decide +kernel
theorem d_Packer_writeTokens_39 : decode b_Packer_writeTokens 39 = .ok (.iload_n 3, 1) := by decide +kernel
theorem d_Packer_writeTokens_40 : decode b_Packer_writeTokens 40 = .ok (.iaload, 1) := by decide +kernel
theorem d_Packer_writeTokens_41 : decode b_Packer_writeTokens 41 = .ok (.invokevirtual 192, 3) := by decide +kernel
theorem d_Packer_writeTokens_44 : decode b_Packer_writeTokens 44 = .ok (.goto 99, 3) := by decide +kernel
theorem d_Packer_writeTokens_47 : decode b_Packer_writeTokens 47 = .ok (.aload_n 0, 1) := by decide +kernel
theorem d_Packer_writeTokens_48 : decode b_Packer_writeTokens 48 = .ok (.getfield 47, 3) := by decide +kernel
theorem d_Packer_writeTokens_51 : decode b_Packer_writeTokens 51 = .ok (.iload_n 3, 1) := by decide +kernel
theorem d_Packer_writeTokens_52 : decode b_Packer_writeTokens 52 = .ok (.iaload, 1) := by decide +kernel
theorem d_Packer_writeTokens_53 : decode b_Packer_writeTokens 53 = .ok (.bipush 16, 2) := by decide +kernel
theorem d_Packer_writeTokens_55 : decode b_Packer_writeTokens 55 = .ok (.ishr, 1) := by decide +kernel
theorem d_Packer_writeTokens_56 : decode b_Packer_writeTokens 56 = .ok (.istore 4, 2) := by decide +kernel
theorem d_Packer_writeTokens_58 : decode b_Packer_writeTokens 58 = .ok (.iload 4, 2) := by decide +kernel
theorem d_Packer_writeTokens_60 : decode b_Packer_writeTokens 60 = .ok (.invokestatic 175, 3) := by decide +kernel
theorem d_Packer_writeTokens_63 : decode b_Packer_writeTokens 63 = .ok (.istore 5, 2) := by decide +kernel
theorem d_Packer_writeTokens_65 : decode b_Packer_writeTokens 65 = .ok (.aload_n 1, 1) := by decide +kernel
theorem d_Packer_writeTokens_66 : decode b_Packer_writeTokens 66 = .ok (.aload_n 0, 1) := by decide +kernel
theorem d_Packer_writeTokens_67 : decode b_Packer_writeTokens 67 = .ok (.getfield 18, 3) := by decide +kernel
theorem d_Packer_writeTokens_70 : decode b_Packer_writeTokens 70 = .ok (.iload 5, 2) := by decide +kernel
theorem d_Packer_writeTokens_72 : decode b_Packer_writeTokens 72 = .ok (.invokevirtual 192, 3) := by decide +kernel
theorem d_Packer_writeTokens_75 : decode b_Packer_writeTokens 75 = .ok (.aload_n 0, 1) := by decide +kernel
theorem d_Packer_writeTokens_76 : decode b_Packer_writeTokens 76 = .ok (.getfield 18, 3) := by decide +kernel
theorem d_Packer_writeTokens_79 : decode b_Packer_writeTokens 79 = .ok (.iload 4, 2) := by decide +kernel
theorem d_Packer_writeTokens_81 : decode b_Packer_writeTokens 81 = .ok (.iload 5, 2) := by decide +kernel
theorem d_Packer_writeTokens_83 : decode b_Packer_writeTokens 83 = .ok (.invokestatic 195, 3) := by decide +kernel
theorem d_Packer_writeTokens_86 : decode b_Packer_writeTokens 86 = .ok (.isub, 1) := by decide +kernel
theorem d_Packer_writeTokens_87 : decode b_Packer_writeTokens 87 = .ok (.iload 5, 2) := by decide +kernel
theorem d_Packer_writeTokens_89 : decode b_Packer_writeTokens 89 = .ok (.invokestatic 182, 3) := by decide +kernel
theorem d_Packer_writeTokens_92 : decode b_Packer_writeTokens 92 = .ok (.invokevirtual 97, 3) := by decide +kernel
theorem d_Packer_writeTokens_95 : decode b_Packer_writeTokens 95 = .ok (.aload_n 0, 1) := by decide +kernel
theorem d_Packer_writeTokens_96 : decode b_Packer_writeTokens 96 = .ok (.getfield 47, 3) := by decide +kernel
theorem d_Packer_writeTokens_99 : decode b_Packer_writeTokens 99 = .ok (.iload_n 3, 1) := by decide +kernel
theorem d_Packer_writeTokens_100 : decode b_Packer_writeTokens 100 = .ok (.iaload, 1) := by decide +kernel
theorem d_Packer_writeTokens_101 : decode b_Packer_writeTokens 101 = .ok (.ldc 178, 2) := by decide +kernel
theorem d_Packer_writeTokens_103 : decode b_Packer_writeTokens 103 = .ok (.iand, 1) := by decide +kernel
theorem d_Packer_writeTokens_104 : decode b_Packer_writeTokens 104 = .ok (.istore 6, 2) := by decide +kernel
theorem d_Packer_writeTokens_106 : decode b_Packer_writeTokens 106 = .ok (.iload 6, 2) := by decide +kernel
theorem d_Packer_writeTokens_108 : decode b_Packer_writeTokens 108 = .ok (.invokestatic 179, 3) := by decide +kernel
theorem d_Packer_writeTokens_111 : decode b_Packer_writeTokens 111 = .ok (.istore 7, 2) := by decide +kernel
theorem d_Packer_writeTokens_113 : decode b_Packer_writeTokens 113 = .ok (.aload_n 2, 1) := by decide +kernel
theorem d_Packer_writeTokens_114 : decode b_Packer_writeTokens 114 = .ok (.aload_n 0, 1) := by decide +kernel
theorem d_Packer_writeTokens_115 : decode b_Packer_writeTokens 115 = .ok (.getfield 18, 3) := by decide +kernel
theorem d_Packer_writeTokens_118 : decode b_Packer_writeTokens 118 = .ok (.iload 7, 2) := by decide +kernel
theorem d_Packer_writeTokens_120 : decode b_Packer_writeTokens 120 = .ok (.invokevirtual 192, 3) := by decide +kernel
theorem d_Packer_writeTokens_123 : decode b_Packer_writeTokens 123 = .ok (.aload_n 0, 1) := by decide +kernel
theorem d_Packer_writeTokens_124 : decode b_Packer_writeTokens 124 = .ok (.getfield 18, 3) := by decide +kernel
theorem d_Packer_writeTokens_127 : decode b_Packer_writeTokens 127 = .ok (.iload 6, 2) := by decide +kernel
theorem d_Packer_writeTokens_129 : decode b_Packer_writeTokens 129 = .ok (.iload 7, 2) := by decide +kernel
theorem d_Packer_writeTokens_131 : decode b_Packer_writeTokens 131 = .ok (.invokestatic 198, 3) := by decide +kernel
theorem d_Packer_writeTokens_134 : decode b_Packer_writeTokens 134 = .ok (.isub, 1) := by decide +kernel
theorem d_Packer_writeTokens_135 : decode b_Packer_writeTokens 135 = .ok (.iload 7, 2) := by decide +kernel
theorem d_Packer_writeTokens_137 : decode b_Packer_writeTokens 137 = .ok (.invokestatic 185, 3) := by decide +kernel
theorem d_Packer_writeTokens_140 : decode b_Packer_writeTokens 140 = .ok (.invokevirtual 97, 3) := by decide +kernel
theorem d_Packer_writeTokens_143 : decode b_Packer_writeTokens 143 = .ok (.iinc 3 1, 3) := by decide +kernel
theorem d_Packer_writeTokens_146 : decode b_Packer_writeTokens 146 = .ok (.goto (-144), 3) := by decide +kernel
theorem d_Packer_writeTokens_149 : decode b_Packer_writeTokens 149 = .ok (.aload_n 1, 1) := by decide +kernel
theorem d_Packer_writeTokens_150 : decode b_Packer_writeTokens 150 = .ok (.aload_n 0, 1) := by decide +kernel
theorem d_Packer_writeTokens_151 : decode b_Packer_writeTokens 151 = .ok (.getfield 18, 3) := by decide +kernel
theorem d_Packer_writeTokens_154 : decode b_Packer_writeTokens 154 = .ok (.sipush 256, 3) := by decide +kernel
theorem d_Packer_writeTokens_157 : decode b_Packer_writeTokens 157 = .ok (.invokevirtual 192, 3) := by decide +kernel
theorem d_Packer_writeTokens_160 : decode b_Packer_writeTokens 160 = .ok (.return_, 1) := by decide +kernel
def Packer_writeTokens_149 (F : Nat) (n_p1_lengths : Nat) (n_p1_codes : Nat) (c_p1_lengths : Nat → Int32) (c_p1_codes : Nat → Int32) (v_out_length : Int32) (v_out_open : Int32) (v_out_openCount : Int32) (c_out_data : Nat → Int32) : Option (Unit × Int32 × Int32 × Int32 × (Nat → Int32)) :=
  mR4 (Code_write F n_p1_lengths n_p1_codes c_p1_lengths c_p1_codes v_out_length v_out_open v_out_openCount c_out_data 256) fun _ v_p1_length_1 v_p1_open_2 v_p1_openCount_3 c_p1_data_4 => some ((), v_p1_length_1, v_p1_open_2, v_p1_openCount_3, c_p1_data_4)
def Packer_writeTokens_143 (F : Nat) (k_2 : Int32 → Int32 → Int32 → (Nat → Int32) → Int32 → Option (Unit × Int32 × Int32 × Int32 × (Nat → Int32))) (v_out_length : Int32) (v_out_open : Int32) (v_out_openCount : Int32) (c_out_data : Nat → Int32) (x3 : Int32) : Option (Unit × Int32 × Int32 × Int32 × (Nat → Int32)) :=
  mL (x3 + 1) fun y3_6 => k_2 v_out_length v_out_open v_out_openCount c_out_data y3_6
def Packer_writeTokens_2 (F : Nat) (n_p1_lengths : Nat) (n_p1_codes : Nat) (n_p2_lengths : Nat) (n_p2_codes : Nat) (v_tokenCount : Int32) (c_tokens : Nat → Int32) (c_p1_lengths : Nat → Int32) (c_p1_codes : Nat → Int32) (c_p2_lengths : Nat → Int32) (c_p2_codes : Nat → Int32) (k_149 : Int32 → Int32 → Int32 → (Nat → Int32) → Option (Unit × Int32 × Int32 × Int32 × (Nat → Int32))) (k_2 : Int32 → Int32 → Int32 → (Nat → Int32) → Int32 → Option (Unit × Int32 × Int32 × Int32 × (Nat → Int32))) (v_out_length : Int32) (v_out_open : Int32) (v_out_openCount : Int32) (c_out_data : Nat → Int32) (x3 : Int32) : Option (Unit × Int32 × Int32 × Int32 × (Nat → Int32)) :=
  mC (v_tokenCount ≤ x3) (k_149 v_out_length v_out_open v_out_openCount c_out_data) (mC (4096 ≤ x3) (k_149 v_out_length v_out_open v_out_openCount c_out_data) (mG x3 4096 (mC (65536 ≤ (c_tokens x3.toNatClampNeg)) (mG x3 4096 (mL ((c_tokens x3.toNatClampNeg) >>> ((16 : Int32) &&& 31)) fun y4_7 => mR0 (P_lengthSymbol F y4_7) fun r_8 => mR4 (Code_write F n_p1_lengths n_p1_codes c_p1_lengths c_p1_codes v_out_length v_out_open v_out_openCount c_out_data r_8) fun _ v_p1_length_9 v_p1_open_10 v_p1_openCount_11 c_p1_data_12 => mR0 (P_lengthBase F r_8) fun r_14 => mR0 (P_lengthExtra F r_8) fun r_15 => mL (y4_7 - r_14) fun t_16 => mR4 (BitWriter_number F v_p1_length_9 v_p1_open_10 v_p1_openCount_11 c_p1_data_12 t_16 r_15) fun _ v_length_17 v_open_18 v_openCount_19 c_data_20 => mG x3 4096 (mL ((c_tokens x3.toNatClampNeg) &&& 65535) fun y6_22 => mR0 (P_distanceSymbol F y6_22) fun r_23 => mR4 (Code_write F n_p2_lengths n_p2_codes c_p2_lengths c_p2_codes v_length_17 v_open_18 v_openCount_19 c_data_20 r_23) fun _ v_p1_length_24 v_p1_open_25 v_p1_openCount_26 c_p1_data_27 => mR0 (P_distanceBase F r_23) fun r_29 => mR0 (P_distanceExtra F r_23) fun r_30 => mL (y6_22 - r_29) fun t_31 => mR4 (BitWriter_number F v_p1_length_24 v_p1_open_25 v_p1_openCount_26 c_p1_data_27 t_31 r_30) fun _ v_length_32 v_open_33 v_openCount_34 c_data_35 => (Packer_writeTokens_143 F k_2) v_length_32 v_open_33 v_openCount_34 c_data_35 x3))) (mG x3 4096 (mL (c_tokens x3.toNatClampNeg) fun t_37 => mR4 (Code_write F n_p1_lengths n_p1_codes c_p1_lengths c_p1_codes v_out_length v_out_open v_out_openCount c_out_data t_37) fun _ v_p1_length_38 v_p1_open_39 v_p1_openCount_40 c_p1_data_41 => (Packer_writeTokens_143 F k_2) v_p1_length_38 v_p1_open_39 v_p1_openCount_40 c_p1_data_41 x3)))))
abbrev Packer_writeTokens_w (E : xE) (a_this : Nat) (a_tokens : Nat) (a_p1 : Nat) (a_p1_lengths : Nat) (a_p1_codes : Nat) (a_out : Nat) (a_out_data : Nat) (a_p2 : Nat) (a_p2_lengths : Nat) (a_p2_codes : Nat) (n_p1_lengths : Nat) (n_p1_codes : Nat) (n_p2_lengths : Nat) (n_p2_codes : Nat) (x_row : Value) (x_matches : Value) (x_lists : Value) (x_header : Value) (x_symbolCounts : Value) (x_distanceCounts : Value) (x_fixedSymbols : Value) (x_fixedDistances : Value) (x_madeSymbols : Value) (x_madeDistances : Value) (x_p1_next : Value) (x_p2_next : Value) (v_tokenCount : Int32) (c_tokens : Nat → Int32) (c_p1_lengths : Nat → Int32) (c_p1_codes : Nat → Int32) (c_p2_lengths : Nat → Int32) (c_p2_codes : Nat → Int32) (v_out_length : Int32) (v_out_open : Int32) (v_out_openCount : Int32) (c_out_data : Nat → Int32) (v_extraBits : Int32) : va_W := [(a_this, .inr (7, [x_row, .ref a_out, x_matches, x_lists, x_header, .ref a_tokens, x_symbolCounts, x_distanceCounts, x_fixedSymbols, x_fixedDistances, x_madeSymbols, x_madeDistances, .int v_tokenCount, .int v_extraBits])), (a_tokens, .inl (E.2.1, 4096, .inl c_tokens)), (a_p1, .inr (3, [.ref a_p1_lengths, .ref a_p1_codes, x_p1_next])), (a_p1_lengths, .inl (E.2.1, n_p1_lengths, .inl c_p1_lengths)), (a_p1_codes, .inl (E.2.1, n_p1_codes, .inl c_p1_codes)), (a_out, .inr (1, [.ref a_out_data, .int v_out_length, .int v_out_open, .int v_out_openCount])), (a_out_data, .inl (E.2.2.1, 8256, .inl c_out_data)), (a_p2, .inr (3, [.ref a_p2_lengths, .ref a_p2_codes, x_p2_next])), (a_p2_lengths, .inl (E.2.1, n_p2_lengths, .inl c_p2_lengths)), (a_p2_codes, .inl (E.2.1, n_p2_codes, .inl c_p2_codes))]
def Packer_writeTokens (F : Nat) (n_p1_lengths : Nat) (n_p1_codes : Nat) (n_p2_lengths : Nat) (n_p2_codes : Nat) (v_tokenCount : Int32) (c_tokens : Nat → Int32) (c_p1_lengths : Nat → Int32) (c_p1_codes : Nat → Int32) (c_p2_lengths : Nat → Int32) (c_p2_codes : Nat → Int32) (v_out_length : Int32) (v_out_open : Int32) (v_out_openCount : Int32) (c_out_data : Nat → Int32) : Option (Unit × Int32 × Int32 × Int32 × (Nat → Int32)) :=
  (mW5 (Packer_writeTokens_2 F n_p1_lengths n_p1_codes n_p2_lengths n_p2_codes v_tokenCount c_tokens c_p1_lengths c_p1_codes c_p2_lengths c_p2_codes (Packer_writeTokens_149 F n_p1_lengths n_p1_codes c_p1_lengths c_p1_codes)) F) v_out_length v_out_open v_out_openCount c_out_data 0
abbrev Packer_writeTokens_rm : Room := { frames := 2, cells := 0, slots := 0, locals := 44 }
set_option maxHeartbeats 4000000 in
set_option maxRecDepth 100000 in
theorem c_Packer_writeTokens (l : Launch) (E : xE) (F sz : Nat) (a_this : Nat) (a_tokens : Nat) (a_p1 : Nat) (a_p1_lengths : Nat) (a_p1_codes : Nat) (a_out : Nat) (a_out_data : Nat) (a_p2 : Nat) (a_p2_lengths : Nat) (a_p2_codes : Nat) (n_p1_lengths : Nat) (n_p1_codes : Nat) (n_p2_lengths : Nat) (n_p2_codes : Nat) (x_row : Value) (x_matches : Value) (x_lists : Value) (x_header : Value) (x_symbolCounts : Value) (x_distanceCounts : Value) (x_fixedSymbols : Value) (x_fixedDistances : Value) (x_madeSymbols : Value) (x_madeDistances : Value) (x_p1_next : Value) (x_p2_next : Value) (v_tokenCount : Int32) (c_tokens : Nat → Int32) (c_p1_lengths : Nat → Int32) (c_p1_codes : Nat → Int32) (c_p2_lengths : Nat → Int32) (c_p2_codes : Nat → Int32) (v_out_length : Int32) (v_out_open : Int32) (v_out_openCount : Int32) (c_out_data : Nat → Int32) (v_extraBits : Int32) (res : Unit × Int32 × Int32 × Int32 × (Nat → Int32)) (hm : Packer_writeTokens F n_p1_lengths n_p1_codes n_p2_lengths n_p2_codes v_tokenCount c_tokens c_p1_lengths c_p1_codes c_p2_lengths c_p2_codes v_out_length v_out_open v_out_openCount c_out_data = some res) : Met l y_Packer_writeTokens (Cond.code y_Packer_writeTokens b_Packer_writeTokens 8 none :: x_tb) Packer_writeTokens_rm (va_Pc [.ref a_this, .ref a_p1, .ref a_p2] (xPre E (Packer_writeTokens_w E a_this a_tokens a_p1 a_p1_lengths a_p1_codes a_out a_out_data a_p2 a_p2_lengths a_p2_codes n_p1_lengths n_p1_codes n_p2_lengths n_p2_codes x_row x_matches x_lists x_header x_symbolCounts x_distanceCounts x_fixedSymbols x_fixedDistances x_madeSymbols x_madeDistances x_p1_next x_p2_next v_tokenCount c_tokens c_p1_lengths c_p1_codes c_p2_lengths c_p2_codes v_out_length v_out_open v_out_openCount c_out_data v_extraBits) sz)) (xQv E (fun (u : Int32 × Int32 × Int32 × (Nat → Int32)) => u = res.2) (fun (u : Int32 × Int32 × Int32 × (Nat → Int32)) => (Packer_writeTokens_w E a_this a_tokens a_p1 a_p1_lengths a_p1_codes a_out a_out_data a_p2 a_p2_lengths a_p2_codes n_p1_lengths n_p1_codes n_p2_lengths n_p2_codes x_row x_matches x_lists x_header x_symbolCounts x_distanceCounts x_fixedSymbols x_fixedDistances x_madeSymbols x_madeDistances x_p1_next x_p2_next v_tokenCount c_tokens c_p1_lengths c_p1_codes c_p2_lengths c_p2_codes u.1 u.2.1 u.2.2.1 u.2.2.2 v_extraBits)) (va_A (Packer_writeTokens_w E a_this a_tokens a_p1 a_p1_lengths a_p1_codes a_out a_out_data a_p2 a_p2_lengths a_p2_codes n_p1_lengths n_p1_codes n_p2_lengths n_p2_codes x_row x_matches x_lists x_header x_symbolCounts x_distanceCounts x_fixedSymbols x_fixedDistances x_madeSymbols x_madeDistances x_p1_next x_p2_next v_tokenCount c_tokens c_p1_lengths c_p1_codes c_p2_lengths c_p2_codes v_out_length v_out_open v_out_openCount c_out_data v_extraBits) sz)) 0 0 (va_A (Packer_writeTokens_w E a_this a_tokens a_p1 a_p1_lengths a_p1_codes a_out a_out_data a_p2 a_p2_lengths a_p2_codes n_p1_lengths n_p1_codes n_p2_lengths n_p2_codes x_row x_matches x_lists x_header x_symbolCounts x_distanceCounts x_fixedSymbols x_fixedDistances x_madeSymbols x_madeDistances x_p1_next x_p2_next v_tokenCount c_tokens c_p1_lengths c_p1_codes c_p2_lengths c_p2_codes v_out_length v_out_open v_out_openCount c_out_data v_extraBits) sz) := by
  refine xEnV (by decide) (Nat.le_of_ble_eq_true rfl) ?_
  intro p e s m args below meth c A ls Q hx hb hnm hts hown hml hK hA hI hN hret hP hD hS hl
  replace hown : s.vm.findClass R_Packer = some m.cls := hown
  replace hl : lv_has ls 8 [(0, .ref a_this), (1, .ref a_p1), (2, .ref a_p2)] := hl
  obtain ⟨H, eH⟩ : ∃ z, z = s.heap := ⟨_, rfl⟩
  obtain ⟨locs, eL⟩ : ∃ z : List Loc, z = [] := ⟨_, rfl⟩
  rw [show W p l e Packer_writeTokens_rm s m args below meth c s.heap [] 0 0 Q (F0 m 0 ls []) = W p l e Packer_writeTokens_rm s m args below meth c H locs 0 0 Q (F0 m 0 ls []) by rw [eH, eL]]
  replace hP : va_P E.1 vwCl (Packer_writeTokens_w E a_this a_tokens a_p1 a_p1_lengths a_p1_codes a_out a_out_data a_p2 a_p2_lengths a_p2_codes n_p1_lengths n_p1_codes n_p2_lengths n_p2_codes x_row x_matches x_lists x_header x_symbolCounts x_distanceCounts x_fixedSymbols x_fixedDistances x_madeSymbols x_madeDistances x_p1_next x_p2_next v_tokenCount c_tokens c_p1_lengths c_p1_codes c_p2_lengths c_p2_codes v_out_length v_out_open v_out_openCount c_out_data v_extraBits) H := by rw [eH]; exact hP
  replace hS : va_S A s.heap H locs := by rw [eH, eL]; exact hS
  clear eH eL
  rw [Packer_writeTokens] at hm
  have h_149 : ∀ (v_out_length : Int32) (v_out_open : Int32) (v_out_openCount : Int32) (c_out_data : Nat → Int32) (H : Heap) (locs : List Loc) (ls : Array Slot), (Packer_writeTokens_149 F n_p1_lengths n_p1_codes c_p1_lengths c_p1_codes) v_out_length v_out_open v_out_openCount c_out_data = some res → va_P E.1 vwCl (Packer_writeTokens_w E a_this a_tokens a_p1 a_p1_lengths a_p1_codes a_out a_out_data a_p2 a_p2_lengths a_p2_codes n_p1_lengths n_p1_codes n_p2_lengths n_p2_codes x_row x_matches x_lists x_header x_symbolCounts x_distanceCounts x_fixedSymbols x_fixedDistances x_madeSymbols x_madeDistances x_p1_next x_p2_next v_tokenCount c_tokens c_p1_lengths c_p1_codes c_p2_lengths c_p2_codes v_out_length v_out_open v_out_openCount c_out_data v_extraBits) H → va_D A (Packer_writeTokens_w E a_this a_tokens a_p1 a_p1_lengths a_p1_codes a_out a_out_data a_p2 a_p2_lengths a_p2_codes n_p1_lengths n_p1_codes n_p2_lengths n_p2_codes x_row x_matches x_lists x_header x_symbolCounts x_distanceCounts x_fixedSymbols x_fixedDistances x_madeSymbols x_madeDistances x_p1_next x_p2_next v_tokenCount c_tokens c_p1_lengths c_p1_codes c_p2_lengths c_p2_codes v_out_length v_out_open v_out_openCount c_out_data v_extraBits) → va_S A s.heap H locs → lv_has ls 8 [(0, .ref a_this), (1, .ref a_p1)] → W p l e Packer_writeTokens_rm s m args below meth c H locs 0 0 Q (F0 m 149 ls []) := by
    intro v_out_length v_out_open v_out_openCount c_out_data H locs ls hm hP hD hS hl
    rw [Packer_writeTokens_149] at hm
    refine lv_aload_n hx hb d_Packer_writeTokens_149 rfl (lv_at hl 1 rfl) ?_
    refine lv_aload_n hx hb d_Packer_writeTokens_150 rfl (lv_at hl 0 rfl) ?_
    refine va_get (D := E.1) (ci := 7) (v := .ref a_out) (C := R_Packer) (T := F_Packer) (N := 14) hx hb hts i_Packer hown hK hP 0 rfl rfl 1 (by decide) (hts _ tw_250) (fun _ h9 => h9) rfl d_Packer_writeTokens_151 ?_
    refine lv_sipush (v := 256) hx hb d_Packer_writeTokens_154 (by decide) ?_
    obtain ⟨r_5, v_p1_length_1, v_p1_open_2, v_p1_openCount_3, c_p1_data_4, hc157, hm⟩ := mR4_e hm
    refine xmv (wc := (Code_write_w E a_p1 a_p1_lengths a_p1_codes a_out a_out_data n_p1_lengths n_p1_codes x_p1_next c_p1_lengths c_p1_codes v_out_length v_out_open v_out_openCount c_out_data)) [false, false, true, true, true, true, true, false, false, false] [0, 1, 2, 3, 4] [0, 1, 2, 3, 4] hP hD hS hA rfl (by decide) (by decide) 5 (by decide) (fun _ => rfl) (fun hPc hDc hFc => va_runV (As := [.ref a_out, .int 256]) (rest := []) ⟨hx, hb, hml, hown, hts⟩ (c_Code_write l E F H.size a_p1 a_p1_lengths a_p1_codes a_out a_out_data n_p1_lengths n_p1_codes x_p1_next c_p1_lengths c_p1_codes v_out_length v_out_open v_out_openCount c_out_data 256 (r_5, v_p1_length_1, v_p1_open_2, v_p1_openCount_3, c_p1_data_4) hc157) (cwV 2 hts (x_gV tw_590 tw_591 tw_592 tw_74 tw_593) rfl rfl rfl (by decide +kernel) ⟨Nat.le_of_ble_eq_true rfl, Nat.le_of_ble_eq_true rfl⟩) (xPV 3 0 rfl rfl hPc hDc hFc hK hI hN hS) rfl rfl hl.1 rfl (lv_room (Nat.le_of_ble_eq_true rfl)) d_Packer_writeTokens_157 ⟨Nat.le_of_ble_eq_true rfl, Nat.le_of_ble_eq_true rfl⟩) (fun u9 H locs hw hP hD hS => ?_)
    have hw2 : (v_p1_length_1, v_p1_open_2, v_p1_openCount_3, c_p1_data_4) = u9 := hw.symm
    subst hw2
    replace hP : va_P E.1 vwCl (Packer_writeTokens_w E a_this a_tokens a_p1 a_p1_lengths a_p1_codes a_out a_out_data a_p2 a_p2_lengths a_p2_codes n_p1_lengths n_p1_codes n_p2_lengths n_p2_codes x_row x_matches x_lists x_header x_symbolCounts x_distanceCounts x_fixedSymbols x_fixedDistances x_madeSymbols x_madeDistances x_p1_next x_p2_next v_tokenCount c_tokens c_p1_lengths c_p1_codes c_p2_lengths c_p2_codes v_p1_length_1 v_p1_open_2 v_p1_openCount_3 c_p1_data_4 v_extraBits) H := hP
    replace hD : va_D A (Packer_writeTokens_w E a_this a_tokens a_p1 a_p1_lengths a_p1_codes a_out a_out_data a_p2 a_p2_lengths a_p2_codes n_p1_lengths n_p1_codes n_p2_lengths n_p2_codes x_row x_matches x_lists x_header x_symbolCounts x_distanceCounts x_fixedSymbols x_fixedDistances x_madeSymbols x_madeDistances x_p1_next x_p2_next v_tokenCount c_tokens c_p1_lengths c_p1_codes c_p2_lengths c_p2_codes v_p1_length_1 v_p1_open_2 v_p1_openCount_3 c_p1_data_4 v_extraBits) := hD
    replace hm := Option.some.inj hm
    subst hm
    exact hret d_Packer_writeTokens_160 (u := (v_p1_length_1, v_p1_open_2, v_p1_openCount_3, c_p1_data_4)) rfl hP hD hS
  have h_2 : ∀ (n_2 : Nat) (v_out_length : Int32) (v_out_open : Int32) (v_out_openCount : Int32) (c_out_data : Nat → Int32) (x3 : Int32) (H : Heap) (locs : List Loc) (ls : Array Slot), (mW5 (Packer_writeTokens_2 F n_p1_lengths n_p1_codes n_p2_lengths n_p2_codes v_tokenCount c_tokens c_p1_lengths c_p1_codes c_p2_lengths c_p2_codes (Packer_writeTokens_149 F n_p1_lengths n_p1_codes c_p1_lengths c_p1_codes)) n_2) v_out_length v_out_open v_out_openCount c_out_data x3 = some res → va_P E.1 vwCl (Packer_writeTokens_w E a_this a_tokens a_p1 a_p1_lengths a_p1_codes a_out a_out_data a_p2 a_p2_lengths a_p2_codes n_p1_lengths n_p1_codes n_p2_lengths n_p2_codes x_row x_matches x_lists x_header x_symbolCounts x_distanceCounts x_fixedSymbols x_fixedDistances x_madeSymbols x_madeDistances x_p1_next x_p2_next v_tokenCount c_tokens c_p1_lengths c_p1_codes c_p2_lengths c_p2_codes v_out_length v_out_open v_out_openCount c_out_data v_extraBits) H → va_D A (Packer_writeTokens_w E a_this a_tokens a_p1 a_p1_lengths a_p1_codes a_out a_out_data a_p2 a_p2_lengths a_p2_codes n_p1_lengths n_p1_codes n_p2_lengths n_p2_codes x_row x_matches x_lists x_header x_symbolCounts x_distanceCounts x_fixedSymbols x_fixedDistances x_madeSymbols x_madeDistances x_p1_next x_p2_next v_tokenCount c_tokens c_p1_lengths c_p1_codes c_p2_lengths c_p2_codes v_out_length v_out_open v_out_openCount c_out_data v_extraBits) → va_S A s.heap H locs → lv_has ls 8 [(0, .ref a_this), (1, .ref a_p1), (2, .ref a_p2), (3, .int x3)] → W p l e Packer_writeTokens_rm s m args below meth c H locs 0 0 Q (F0 m 2 ls []) := by
    intro n_2
    induction n_2 with
    | zero => exact fun _ _ _ _ _ _ _ _ hm _ _ _ _ => (mW5_z hm).elim
    | succ n_2 ih_2 =>
      intro v_out_length v_out_open v_out_openCount c_out_data x3 H locs ls hm hP hD hS hl
      replace hm := mW5_s hm
      rw [Packer_writeTokens_2] at hm
      refine lv_iload_n hx hb d_Packer_writeTokens_2 rfl (lv_at hl 3 rfl) ?_
      refine lv_aload_n hx hb d_Packer_writeTokens_3 rfl (lv_at hl 0 rfl) ?_
      refine va_get (D := E.1) (ci := 7) (v := .int v_tokenCount) (C := R_Packer) (T := F_Packer) (N := 14) hx hb hts i_Packer hown hK hP 0 rfl rfl 12 (by decide) (hts _ tw_261) (fun _ h9 => h9) rfl d_Packer_writeTokens_4 ?_
      refine lv_icmp_ge (tgt := 149) hx hb d_Packer_writeTokens_7 (by decide) (fun c7 => ?_) (fun c7 => ?_)
      · replace hm := mC_t hm c7
        exact h_149 _ _ _ _ H locs ls hm hP hD hS (lv_sub hl [0, 1] rfl)
      · replace hm := mC_f hm c7
        refine lv_iload_n hx hb d_Packer_writeTokens_10 rfl (lv_at hl 3 rfl) ?_
        refine lv_aload_n hx hb d_Packer_writeTokens_11 rfl (lv_at hl 0 rfl) ?_
        refine va_get (D := E.1) (ci := 7) (v := .ref a_tokens) (C := R_Packer) (T := F_Packer) (N := 14) hx hb hts i_Packer hown hK hP 0 rfl rfl 5 (by decide) (hts _ tw_254) (fun _ h9 => h9) rfl d_Packer_writeTokens_12 ?_
        refine va_alen (v := 4096) hx hb hK hP 1 0 rfl rfl rfl d_Packer_writeTokens_15 ?_
        refine lv_icmp_ge (tgt := 149) hx hb d_Packer_writeTokens_16 (by decide) (fun c16 => ?_) (fun c16 => ?_)
        · replace hm := mC_t hm c16
          exact h_149 _ _ _ _ H locs ls hm hP hD hS (lv_sub hl [0, 1] rfl)
        · replace hm := mC_f hm c16
          have h_143 : ∀ (v_out_length : Int32) (v_out_open : Int32) (v_out_openCount : Int32) (c_out_data : Nat → Int32) (x3 : Int32) (H : Heap) (locs : List Loc) (ls : Array Slot), (Packer_writeTokens_143 F (mW5 (Packer_writeTokens_2 F n_p1_lengths n_p1_codes n_p2_lengths n_p2_codes v_tokenCount c_tokens c_p1_lengths c_p1_codes c_p2_lengths c_p2_codes (Packer_writeTokens_149 F n_p1_lengths n_p1_codes c_p1_lengths c_p1_codes)) n_2)) v_out_length v_out_open v_out_openCount c_out_data x3 = some res → va_P E.1 vwCl (Packer_writeTokens_w E a_this a_tokens a_p1 a_p1_lengths a_p1_codes a_out a_out_data a_p2 a_p2_lengths a_p2_codes n_p1_lengths n_p1_codes n_p2_lengths n_p2_codes x_row x_matches x_lists x_header x_symbolCounts x_distanceCounts x_fixedSymbols x_fixedDistances x_madeSymbols x_madeDistances x_p1_next x_p2_next v_tokenCount c_tokens c_p1_lengths c_p1_codes c_p2_lengths c_p2_codes v_out_length v_out_open v_out_openCount c_out_data v_extraBits) H → va_D A (Packer_writeTokens_w E a_this a_tokens a_p1 a_p1_lengths a_p1_codes a_out a_out_data a_p2 a_p2_lengths a_p2_codes n_p1_lengths n_p1_codes n_p2_lengths n_p2_codes x_row x_matches x_lists x_header x_symbolCounts x_distanceCounts x_fixedSymbols x_fixedDistances x_madeSymbols x_madeDistances x_p1_next x_p2_next v_tokenCount c_tokens c_p1_lengths c_p1_codes c_p2_lengths c_p2_codes v_out_length v_out_open v_out_openCount c_out_data v_extraBits) → va_S A s.heap H locs → lv_has ls 8 [(0, .ref a_this), (1, .ref a_p1), (2, .ref a_p2), (3, .int x3)] → W p l e Packer_writeTokens_rm s m args below meth c H locs 0 0 Q (F0 m 143 ls []) := by
            intro v_out_length v_out_open v_out_openCount c_out_data x3 H locs ls hm hP hD hS hl
            rw [Packer_writeTokens_143] at hm
            obtain ⟨y3_6, ey3_6⟩ : ∃ y : Int32, y = x3 + 1 := ⟨_, rfl⟩
            replace hm := mL_e hm y3_6 ey3_6
            refine lv_iinc (v := y3_6) (lv' := [(3, .int y3_6), (0, .ref a_this), (1, .ref a_p1), (2, .ref a_p2)]) hx hb d_Packer_writeTokens_143 hl (k := 3) rfl (by rw [ey3_6]; rfl) (by decide) rfl (fun ls hl => ?_)
            refine lv_goto (tgt := 2) hx hb d_Packer_writeTokens_146 (by decide) ?_
            exact ih_2 _ _ _ _ _ H locs ls hm hP hD hS (lv_sub hl [1, 2, 3, 0] rfl)
          refine lv_aload_n hx hb d_Packer_writeTokens_19 rfl (lv_at hl 0 rfl) ?_
          refine va_get (D := E.1) (ci := 7) (v := .ref a_tokens) (C := R_Packer) (T := F_Packer) (N := 14) hx hb hts i_Packer hown hK hP 0 rfl rfl 5 (by decide) (hts _ tw_254) (fun _ h9 => h9) rfl d_Packer_writeTokens_20 ?_
          refine lv_iload_n hx hb d_Packer_writeTokens_23 rfl (lv_at hl 3 rfl) ?_
          obtain ⟨hi24, hm⟩ := mG_e hm
          refine va_iald hx hb hK hP 1 0 rfl rfl hi24 d_Packer_writeTokens_24 ?_
          refine lv_ldc (v := 65536) hx hb hown (hts _ tw_482) d_Packer_writeTokens_25 ?_
          refine lv_icmp_ge (tgt := 47) hx hb d_Packer_writeTokens_27 (by decide) (fun c27 => ?_) (fun c27 => ?_)
          · replace hm := mC_t hm c27
            refine lv_aload_n hx hb d_Packer_writeTokens_47 rfl (lv_at hl 0 rfl) ?_
            refine va_get (D := E.1) (ci := 7) (v := .ref a_tokens) (C := R_Packer) (T := F_Packer) (N := 14) hx hb hts i_Packer hown hK hP 0 rfl rfl 5 (by decide) (hts _ tw_254) (fun _ h9 => h9) rfl d_Packer_writeTokens_48 ?_
            refine lv_iload_n hx hb d_Packer_writeTokens_51 rfl (lv_at hl 3 rfl) ?_
            obtain ⟨hi52, hm⟩ := mG_e hm
            refine va_iald hx hb hK hP 1 0 rfl rfl hi52 d_Packer_writeTokens_52 ?_
            refine lv_bipush (v := 16) hx hb d_Packer_writeTokens_53 (by decide) ?_
            refine lv_ishr hx hb d_Packer_writeTokens_55 ?_
            refine lv_topi (fun y4_7 ey4_7 => ?_)
            replace hm := mL_e hm y4_7 ey4_7
            refine lv_istore (lv' := [(4, .int y4_7), (0, .ref a_this), (1, .ref a_p1), (2, .ref a_p2), (3, .int x3)]) hx hb d_Packer_writeTokens_56 hl (by decide) rfl (fun ls hl => ?_)
            refine lv_iload hx hb d_Packer_writeTokens_58 (lv_at hl 0 rfl) ?_
            obtain ⟨r_8, hc60, hm⟩ := mR0_e hm
            refine xmi (wc := (P_lengthSymbol_w E)) [false, false, false, false, false, false, false, false, false, false] [] [] hP hD hS hA rfl (by decide) (by decide) 0 (by decide) (fun _ => rfl) (fun hPc hDc hFc => va_runSN (As := [.int y4_7]) (rest := []) ⟨hx, hb, hml, hown, hts⟩ (c_P_lengthSymbol l E F H.size y4_7 (r_8, ()) hc60) ⟨(va_cnB 1 hts (x_g tw_485) rfl rfl rfl (nM_2 hN) (hts _ tw_66) (by decide +kernel) ⟨Nat.le_of_ble_eq_true rfl, Nat.le_of_ble_eq_true rfl⟩), (hts _ tw_484), trivial⟩ (xPS hPc hDc hFc hK hI hN hS) rfl rfl hl.1 rfl (lv_room (Nat.le_of_ble_eq_true rfl)) d_Packer_writeTokens_60 ⟨Nat.le_of_ble_eq_true rfl, Nat.le_of_ble_eq_true rfl⟩) (fun r9 u9 H locs hw hP hD hS => ?_)
            have hw1 : r_8 = r9 := hw.1.symm
            subst hw1
            replace hP : va_P E.1 vwCl (Packer_writeTokens_w E a_this a_tokens a_p1 a_p1_lengths a_p1_codes a_out a_out_data a_p2 a_p2_lengths a_p2_codes n_p1_lengths n_p1_codes n_p2_lengths n_p2_codes x_row x_matches x_lists x_header x_symbolCounts x_distanceCounts x_fixedSymbols x_fixedDistances x_madeSymbols x_madeDistances x_p1_next x_p2_next v_tokenCount c_tokens c_p1_lengths c_p1_codes c_p2_lengths c_p2_codes v_out_length v_out_open v_out_openCount c_out_data v_extraBits) H := hP
            replace hD : va_D A (Packer_writeTokens_w E a_this a_tokens a_p1 a_p1_lengths a_p1_codes a_out a_out_data a_p2 a_p2_lengths a_p2_codes n_p1_lengths n_p1_codes n_p2_lengths n_p2_codes x_row x_matches x_lists x_header x_symbolCounts x_distanceCounts x_fixedSymbols x_fixedDistances x_madeSymbols x_madeDistances x_p1_next x_p2_next v_tokenCount c_tokens c_p1_lengths c_p1_codes c_p2_lengths c_p2_codes v_out_length v_out_open v_out_openCount c_out_data v_extraBits) := hD
            refine lv_istore (lv' := [(5, .int r_8), (4, .int y4_7), (0, .ref a_this), (1, .ref a_p1), (2, .ref a_p2), (3, .int x3)]) hx hb d_Packer_writeTokens_63 hl (by decide) rfl (fun ls hl => ?_)
            refine lv_aload_n hx hb d_Packer_writeTokens_65 rfl (lv_at hl 3 rfl) ?_
            refine lv_aload_n hx hb d_Packer_writeTokens_66 rfl (lv_at hl 2 rfl) ?_
            refine va_get (D := E.1) (ci := 7) (v := .ref a_out) (C := R_Packer) (T := F_Packer) (N := 14) hx hb hts i_Packer hown hK hP 0 rfl rfl 1 (by decide) (hts _ tw_250) (fun _ h9 => h9) rfl d_Packer_writeTokens_67 ?_
            refine lv_iload hx hb d_Packer_writeTokens_70 (lv_at hl 0 rfl) ?_
            obtain ⟨r_13, v_p1_length_9, v_p1_open_10, v_p1_openCount_11, c_p1_data_12, hc72, hm⟩ := mR4_e hm
            refine xmv (wc := (Code_write_w E a_p1 a_p1_lengths a_p1_codes a_out a_out_data n_p1_lengths n_p1_codes x_p1_next c_p1_lengths c_p1_codes v_out_length v_out_open v_out_openCount c_out_data)) [false, false, true, true, true, true, true, false, false, false] [0, 1, 2, 3, 4] [0, 1, 2, 3, 4] hP hD hS hA rfl (by decide) (by decide) 5 (by decide) (fun _ => rfl) (fun hPc hDc hFc => va_runV (As := [.ref a_out, .int r_8]) (rest := []) ⟨hx, hb, hml, hown, hts⟩ (c_Code_write l E F H.size a_p1 a_p1_lengths a_p1_codes a_out a_out_data n_p1_lengths n_p1_codes x_p1_next c_p1_lengths c_p1_codes v_out_length v_out_open v_out_openCount c_out_data r_8 (r_13, v_p1_length_9, v_p1_open_10, v_p1_openCount_11, c_p1_data_12) hc72) (cwV 2 hts (x_gV tw_590 tw_591 tw_592 tw_74 tw_593) rfl rfl rfl (by decide +kernel) ⟨Nat.le_of_ble_eq_true rfl, Nat.le_of_ble_eq_true rfl⟩) (xPV 3 0 rfl rfl hPc hDc hFc hK hI hN hS) rfl rfl hl.1 rfl (lv_room (Nat.le_of_ble_eq_true rfl)) d_Packer_writeTokens_72 ⟨Nat.le_of_ble_eq_true rfl, Nat.le_of_ble_eq_true rfl⟩) (fun u9 H locs hw hP hD hS => ?_)
            have hw2 : (v_p1_length_9, v_p1_open_10, v_p1_openCount_11, c_p1_data_12) = u9 := hw.symm
            subst hw2
            replace hP : va_P E.1 vwCl (Packer_writeTokens_w E a_this a_tokens a_p1 a_p1_lengths a_p1_codes a_out a_out_data a_p2 a_p2_lengths a_p2_codes n_p1_lengths n_p1_codes n_p2_lengths n_p2_codes x_row x_matches x_lists x_header x_symbolCounts x_distanceCounts x_fixedSymbols x_fixedDistances x_madeSymbols x_madeDistances x_p1_next x_p2_next v_tokenCount c_tokens c_p1_lengths c_p1_codes c_p2_lengths c_p2_codes v_p1_length_9 v_p1_open_10 v_p1_openCount_11 c_p1_data_12 v_extraBits) H := hP
            replace hD : va_D A (Packer_writeTokens_w E a_this a_tokens a_p1 a_p1_lengths a_p1_codes a_out a_out_data a_p2 a_p2_lengths a_p2_codes n_p1_lengths n_p1_codes n_p2_lengths n_p2_codes x_row x_matches x_lists x_header x_symbolCounts x_distanceCounts x_fixedSymbols x_fixedDistances x_madeSymbols x_madeDistances x_p1_next x_p2_next v_tokenCount c_tokens c_p1_lengths c_p1_codes c_p2_lengths c_p2_codes v_p1_length_9 v_p1_open_10 v_p1_openCount_11 c_p1_data_12 v_extraBits) := hD
            refine lv_aload_n hx hb d_Packer_writeTokens_75 rfl (lv_at hl 2 rfl) ?_
            refine va_get (D := E.1) (ci := 7) (v := .ref a_out) (C := R_Packer) (T := F_Packer) (N := 14) hx hb hts i_Packer hown hK hP 0 rfl rfl 1 (by decide) (hts _ tw_250) (fun _ h9 => h9) rfl d_Packer_writeTokens_76 ?_
            refine lv_iload hx hb d_Packer_writeTokens_79 (lv_at hl 1 rfl) ?_
            refine lv_iload hx hb d_Packer_writeTokens_81 (lv_at hl 0 rfl) ?_
            obtain ⟨r_14, hc83, hm⟩ := mR0_e hm
            refine xmi (wc := (P_lengthBase_w E)) [false, false, false, false, false, false, false, false, false, false] [] [] hP hD hS hA rfl (by decide) (by decide) 0 (by decide) (fun _ => rfl) (fun hPc hDc hFc => va_runSN (As := [.int r_8]) (rest := [.int y4_7, .ref a_out]) ⟨hx, hb, hml, hown, hts⟩ (c_P_lengthBase l E F H.size r_8 (r_14, ()) hc83) ⟨(va_cnB 1 hts (x_g tw_597) rfl rfl rfl (nM_8 hN) (hts _ tw_66) (by decide +kernel) ⟨Nat.le_of_ble_eq_true rfl, Nat.le_of_ble_eq_true rfl⟩), (hts _ tw_596), trivial⟩ (xPS hPc hDc hFc hK hI hN hS) rfl rfl hl.1 rfl (lv_room (Nat.le_of_ble_eq_true rfl)) d_Packer_writeTokens_83 ⟨Nat.le_of_ble_eq_true rfl, Nat.le_of_ble_eq_true rfl⟩) (fun r9 u9 H locs hw hP hD hS => ?_)
            have hw1 : r_14 = r9 := hw.1.symm
            subst hw1
            replace hP : va_P E.1 vwCl (Packer_writeTokens_w E a_this a_tokens a_p1 a_p1_lengths a_p1_codes a_out a_out_data a_p2 a_p2_lengths a_p2_codes n_p1_lengths n_p1_codes n_p2_lengths n_p2_codes x_row x_matches x_lists x_header x_symbolCounts x_distanceCounts x_fixedSymbols x_fixedDistances x_madeSymbols x_madeDistances x_p1_next x_p2_next v_tokenCount c_tokens c_p1_lengths c_p1_codes c_p2_lengths c_p2_codes v_p1_length_9 v_p1_open_10 v_p1_openCount_11 c_p1_data_12 v_extraBits) H := hP
            replace hD : va_D A (Packer_writeTokens_w E a_this a_tokens a_p1 a_p1_lengths a_p1_codes a_out a_out_data a_p2 a_p2_lengths a_p2_codes n_p1_lengths n_p1_codes n_p2_lengths n_p2_codes x_row x_matches x_lists x_header x_symbolCounts x_distanceCounts x_fixedSymbols x_fixedDistances x_madeSymbols x_madeDistances x_p1_next x_p2_next v_tokenCount c_tokens c_p1_lengths c_p1_codes c_p2_lengths c_p2_codes v_p1_length_9 v_p1_open_10 v_p1_openCount_11 c_p1_data_12 v_extraBits) := hD
            refine lv_isub hx hb d_Packer_writeTokens_86 ?_
            refine lv_iload hx hb d_Packer_writeTokens_87 (lv_at hl 0 rfl) ?_
            obtain ⟨r_15, hc89, hm⟩ := mR0_e hm
            refine xmi (wc := (P_lengthExtra_w E)) [false, false, false, false, false, false, false, false, false, false] [] [] hP hD hS hA rfl (by decide) (by decide) 0 (by decide) (fun _ => rfl) (fun hPc hDc hFc => va_runSN (As := [.int r_8]) (rest := [.int (y4_7 - r_14), .ref a_out]) ⟨hx, hb, hml, hown, hts⟩ (c_P_lengthExtra l E F H.size r_8 (r_15, ()) hc89) ⟨(va_cnB 1 hts (x_g tw_492) rfl rfl rfl (nM_4 hN) (hts _ tw_66) (by decide +kernel) ⟨Nat.le_of_ble_eq_true rfl, Nat.le_of_ble_eq_true rfl⟩), (hts _ tw_491), trivial⟩ (xPS hPc hDc hFc hK hI hN hS) rfl rfl hl.1 rfl (lv_room (Nat.le_of_ble_eq_true rfl)) d_Packer_writeTokens_89 ⟨Nat.le_of_ble_eq_true rfl, Nat.le_of_ble_eq_true rfl⟩) (fun r9 u9 H locs hw hP hD hS => ?_)
            have hw1 : r_15 = r9 := hw.1.symm
            subst hw1
            replace hP : va_P E.1 vwCl (Packer_writeTokens_w E a_this a_tokens a_p1 a_p1_lengths a_p1_codes a_out a_out_data a_p2 a_p2_lengths a_p2_codes n_p1_lengths n_p1_codes n_p2_lengths n_p2_codes x_row x_matches x_lists x_header x_symbolCounts x_distanceCounts x_fixedSymbols x_fixedDistances x_madeSymbols x_madeDistances x_p1_next x_p2_next v_tokenCount c_tokens c_p1_lengths c_p1_codes c_p2_lengths c_p2_codes v_p1_length_9 v_p1_open_10 v_p1_openCount_11 c_p1_data_12 v_extraBits) H := hP
            replace hD : va_D A (Packer_writeTokens_w E a_this a_tokens a_p1 a_p1_lengths a_p1_codes a_out a_out_data a_p2 a_p2_lengths a_p2_codes n_p1_lengths n_p1_codes n_p2_lengths n_p2_codes x_row x_matches x_lists x_header x_symbolCounts x_distanceCounts x_fixedSymbols x_fixedDistances x_madeSymbols x_madeDistances x_p1_next x_p2_next v_tokenCount c_tokens c_p1_lengths c_p1_codes c_p2_lengths c_p2_codes v_p1_length_9 v_p1_open_10 v_p1_openCount_11 c_p1_data_12 v_extraBits) := hD
            obtain ⟨t_16, et_16⟩ : ∃ z : Int32, z = y4_7 - r_14 := ⟨_, rfl⟩
            rw [← et_16]
            replace hm := mL_e hm t_16 et_16
            obtain ⟨r_21, v_length_17, v_open_18, v_openCount_19, c_data_20, hc92, hm⟩ := mR4_e hm
            refine xmv (wc := (BitWriter_number_w E a_out a_out_data v_p1_length_9 v_p1_open_10 v_p1_openCount_11 c_p1_data_12)) [false, false, false, false, false, true, true, false, false, false] [0, 1] [0, 1] hP hD hS hA rfl (by decide) (by decide) 2 (by decide) (fun _ => rfl) (fun hPc hDc hFc => va_runV (As := [.int t_16, .int r_15]) (rest := []) ⟨hx, hb, hml, hown, hts⟩ (c_BitWriter_number l E F H.size a_out a_out_data v_p1_length_9 v_p1_open_10 v_p1_openCount_11 c_p1_data_12 t_16 r_15 (r_21, v_length_17, v_open_18, v_openCount_19, c_data_20) hc92) (cwV 2 hts (x_gV tw_452 tw_453 tw_454 tw_70 tw_455) rfl rfl rfl (by decide +kernel) ⟨Nat.le_of_ble_eq_true rfl, Nat.le_of_ble_eq_true rfl⟩) (xPV 1 0 rfl rfl hPc hDc hFc hK hI hN hS) rfl rfl hl.1 rfl (lv_room (Nat.le_of_ble_eq_true rfl)) d_Packer_writeTokens_92 ⟨Nat.le_of_ble_eq_true rfl, Nat.le_of_ble_eq_true rfl⟩) (fun u9 H locs hw hP hD hS => ?_)
            have hw2 : (v_length_17, v_open_18, v_openCount_19, c_data_20) = u9 := hw.symm
            subst hw2
            replace hP : va_P E.1 vwCl (Packer_writeTokens_w E a_this a_tokens a_p1 a_p1_lengths a_p1_codes a_out a_out_data a_p2 a_p2_lengths a_p2_codes n_p1_lengths n_p1_codes n_p2_lengths n_p2_codes x_row x_matches x_lists x_header x_symbolCounts x_distanceCounts x_fixedSymbols x_fixedDistances x_madeSymbols x_madeDistances x_p1_next x_p2_next v_tokenCount c_tokens c_p1_lengths c_p1_codes c_p2_lengths c_p2_codes v_length_17 v_open_18 v_openCount_19 c_data_20 v_extraBits) H := hP
            replace hD : va_D A (Packer_writeTokens_w E a_this a_tokens a_p1 a_p1_lengths a_p1_codes a_out a_out_data a_p2 a_p2_lengths a_p2_codes n_p1_lengths n_p1_codes n_p2_lengths n_p2_codes x_row x_matches x_lists x_header x_symbolCounts x_distanceCounts x_fixedSymbols x_fixedDistances x_madeSymbols x_madeDistances x_p1_next x_p2_next v_tokenCount c_tokens c_p1_lengths c_p1_codes c_p2_lengths c_p2_codes v_length_17 v_open_18 v_openCount_19 c_data_20 v_extraBits) := hD
            refine lv_aload_n hx hb d_Packer_writeTokens_95 rfl (lv_at hl 2 rfl) ?_
            refine va_get (D := E.1) (ci := 7) (v := .ref a_tokens) (C := R_Packer) (T := F_Packer) (N := 14) hx hb hts i_Packer hown hK hP 0 rfl rfl 5 (by decide) (hts _ tw_254) (fun _ h9 => h9) rfl d_Packer_writeTokens_96 ?_
            refine lv_iload_n hx hb d_Packer_writeTokens_99 rfl (lv_at hl 5 rfl) ?_
            obtain ⟨hi100, hm⟩ := mG_e hm
            refine va_iald hx hb hK hP 1 0 rfl rfl hi100 d_Packer_writeTokens_100 ?_
            refine lv_ldc (v := 65535) hx hb hown (hts _ tw_486) d_Packer_writeTokens_101 ?_
            refine lv_iand hx hb d_Packer_writeTokens_103 ?_
            refine lv_topi (fun y6_22 ey6_22 => ?_)
            replace hm := mL_e hm y6_22 ey6_22
            refine lv_istore (lv' := [(6, .int y6_22), (5, .int r_8), (4, .int y4_7), (0, .ref a_this), (1, .ref a_p1), (2, .ref a_p2), (3, .int x3)]) hx hb d_Packer_writeTokens_104 hl (by decide) rfl (fun ls hl => ?_)
            refine lv_iload hx hb d_Packer_writeTokens_106 (lv_at hl 0 rfl) ?_
            obtain ⟨r_23, hc108, hm⟩ := mR0_e hm
            refine xmi (wc := (P_distanceSymbol_w E)) [false, false, false, false, false, false, false, false, false, false] [] [] hP hD hS hA rfl (by decide) (by decide) 0 (by decide) (fun _ => rfl) (fun hPc hDc hFc => va_runSN (As := [.int y6_22]) (rest := []) ⟨hx, hb, hml, hown, hts⟩ (c_P_distanceSymbol l E F H.size y6_22 (r_23, ()) hc108) ⟨(va_cnB 1 hts (x_g tw_489) rfl rfl rfl (nM_3 hN) (hts _ tw_66) (by decide +kernel) ⟨Nat.le_of_ble_eq_true rfl, Nat.le_of_ble_eq_true rfl⟩), (hts _ tw_488), trivial⟩ (xPS hPc hDc hFc hK hI hN hS) rfl rfl hl.1 rfl (lv_room (Nat.le_of_ble_eq_true rfl)) d_Packer_writeTokens_108 ⟨Nat.le_of_ble_eq_true rfl, Nat.le_of_ble_eq_true rfl⟩) (fun r9 u9 H locs hw hP hD hS => ?_)
            have hw1 : r_23 = r9 := hw.1.symm
            subst hw1
            replace hP : va_P E.1 vwCl (Packer_writeTokens_w E a_this a_tokens a_p1 a_p1_lengths a_p1_codes a_out a_out_data a_p2 a_p2_lengths a_p2_codes n_p1_lengths n_p1_codes n_p2_lengths n_p2_codes x_row x_matches x_lists x_header x_symbolCounts x_distanceCounts x_fixedSymbols x_fixedDistances x_madeSymbols x_madeDistances x_p1_next x_p2_next v_tokenCount c_tokens c_p1_lengths c_p1_codes c_p2_lengths c_p2_codes v_length_17 v_open_18 v_openCount_19 c_data_20 v_extraBits) H := hP
            replace hD : va_D A (Packer_writeTokens_w E a_this a_tokens a_p1 a_p1_lengths a_p1_codes a_out a_out_data a_p2 a_p2_lengths a_p2_codes n_p1_lengths n_p1_codes n_p2_lengths n_p2_codes x_row x_matches x_lists x_header x_symbolCounts x_distanceCounts x_fixedSymbols x_fixedDistances x_madeSymbols x_madeDistances x_p1_next x_p2_next v_tokenCount c_tokens c_p1_lengths c_p1_codes c_p2_lengths c_p2_codes v_length_17 v_open_18 v_openCount_19 c_data_20 v_extraBits) := hD
            refine lv_istore (lv' := [(7, .int r_23), (6, .int y6_22), (5, .int r_8), (4, .int y4_7), (0, .ref a_this), (1, .ref a_p1), (2, .ref a_p2), (3, .int x3)]) hx hb d_Packer_writeTokens_111 hl (by decide) rfl (fun ls hl => ?_)
            refine lv_aload_n hx hb d_Packer_writeTokens_113 rfl (lv_at hl 6 rfl) ?_
            refine lv_aload_n hx hb d_Packer_writeTokens_114 rfl (lv_at hl 4 rfl) ?_
            refine va_get (D := E.1) (ci := 7) (v := .ref a_out) (C := R_Packer) (T := F_Packer) (N := 14) hx hb hts i_Packer hown hK hP 0 rfl rfl 1 (by decide) (hts _ tw_250) (fun _ h9 => h9) rfl d_Packer_writeTokens_115 ?_
            refine lv_iload hx hb d_Packer_writeTokens_118 (lv_at hl 0 rfl) ?_
            obtain ⟨r_28, v_p1_length_24, v_p1_open_25, v_p1_openCount_26, c_p1_data_27, hc120, hm⟩ := mR4_e hm
            refine xmv (wc := (Code_write_w E a_p2 a_p2_lengths a_p2_codes a_out a_out_data n_p2_lengths n_p2_codes x_p2_next c_p2_lengths c_p2_codes v_length_17 v_open_18 v_openCount_19 c_data_20)) [false, false, false, false, false, true, true, true, true, true] [2, 3, 4, 0, 1] [3, 4, 0, 1, 2] hP hD hS hA rfl (by decide) (by decide) 5 (by decide) (fun _ => rfl) (fun hPc hDc hFc => va_runV (As := [.ref a_out, .int r_23]) (rest := []) ⟨hx, hb, hml, hown, hts⟩ (c_Code_write l E F H.size a_p2 a_p2_lengths a_p2_codes a_out a_out_data n_p2_lengths n_p2_codes x_p2_next c_p2_lengths c_p2_codes v_length_17 v_open_18 v_openCount_19 c_data_20 r_23 (r_28, v_p1_length_24, v_p1_open_25, v_p1_openCount_26, c_p1_data_27) hc120) (cwV 2 hts (x_gV tw_590 tw_591 tw_592 tw_74 tw_593) rfl rfl rfl (by decide +kernel) ⟨Nat.le_of_ble_eq_true rfl, Nat.le_of_ble_eq_true rfl⟩) (xPV 3 0 rfl rfl hPc hDc hFc hK hI hN hS) rfl rfl hl.1 rfl (lv_room (Nat.le_of_ble_eq_true rfl)) d_Packer_writeTokens_120 ⟨Nat.le_of_ble_eq_true rfl, Nat.le_of_ble_eq_true rfl⟩) (fun u9 H locs hw hP hD hS => ?_)
            have hw2 : (v_p1_length_24, v_p1_open_25, v_p1_openCount_26, c_p1_data_27) = u9 := hw.symm
            subst hw2
            replace hP : va_P E.1 vwCl (Packer_writeTokens_w E a_this a_tokens a_p1 a_p1_lengths a_p1_codes a_out a_out_data a_p2 a_p2_lengths a_p2_codes n_p1_lengths n_p1_codes n_p2_lengths n_p2_codes x_row x_matches x_lists x_header x_symbolCounts x_distanceCounts x_fixedSymbols x_fixedDistances x_madeSymbols x_madeDistances x_p1_next x_p2_next v_tokenCount c_tokens c_p1_lengths c_p1_codes c_p2_lengths c_p2_codes v_p1_length_24 v_p1_open_25 v_p1_openCount_26 c_p1_data_27 v_extraBits) H := hP
            replace hD : va_D A (Packer_writeTokens_w E a_this a_tokens a_p1 a_p1_lengths a_p1_codes a_out a_out_data a_p2 a_p2_lengths a_p2_codes n_p1_lengths n_p1_codes n_p2_lengths n_p2_codes x_row x_matches x_lists x_header x_symbolCounts x_distanceCounts x_fixedSymbols x_fixedDistances x_madeSymbols x_madeDistances x_p1_next x_p2_next v_tokenCount c_tokens c_p1_lengths c_p1_codes c_p2_lengths c_p2_codes v_p1_length_24 v_p1_open_25 v_p1_openCount_26 c_p1_data_27 v_extraBits) := hD
            refine lv_aload_n hx hb d_Packer_writeTokens_123 rfl (lv_at hl 4 rfl) ?_
            refine va_get (D := E.1) (ci := 7) (v := .ref a_out) (C := R_Packer) (T := F_Packer) (N := 14) hx hb hts i_Packer hown hK hP 0 rfl rfl 1 (by decide) (hts _ tw_250) (fun _ h9 => h9) rfl d_Packer_writeTokens_124 ?_
            refine lv_iload hx hb d_Packer_writeTokens_127 (lv_at hl 1 rfl) ?_
            refine lv_iload hx hb d_Packer_writeTokens_129 (lv_at hl 0 rfl) ?_
            obtain ⟨r_29, hc131, hm⟩ := mR0_e hm
            refine xmi (wc := (P_distanceBase_w E)) [false, false, false, false, false, false, false, false, false, false] [] [] hP hD hS hA rfl (by decide) (by decide) 0 (by decide) (fun _ => rfl) (fun hPc hDc hFc => va_runSN (As := [.int r_23]) (rest := [.int y6_22, .ref a_out]) ⟨hx, hb, hml, hown, hts⟩ (c_P_distanceBase l E F H.size r_23 (r_29, ()) hc131) ⟨(va_cnB 1 hts (x_g tw_601) rfl rfl rfl (nM_9 hN) (hts _ tw_66) (by decide +kernel) ⟨Nat.le_of_ble_eq_true rfl, Nat.le_of_ble_eq_true rfl⟩), (hts _ tw_600), trivial⟩ (xPS hPc hDc hFc hK hI hN hS) rfl rfl hl.1 rfl (lv_room (Nat.le_of_ble_eq_true rfl)) d_Packer_writeTokens_131 ⟨Nat.le_of_ble_eq_true rfl, Nat.le_of_ble_eq_true rfl⟩) (fun r9 u9 H locs hw hP hD hS => ?_)
            have hw1 : r_29 = r9 := hw.1.symm
            subst hw1
            replace hP : va_P E.1 vwCl (Packer_writeTokens_w E a_this a_tokens a_p1 a_p1_lengths a_p1_codes a_out a_out_data a_p2 a_p2_lengths a_p2_codes n_p1_lengths n_p1_codes n_p2_lengths n_p2_codes x_row x_matches x_lists x_header x_symbolCounts x_distanceCounts x_fixedSymbols x_fixedDistances x_madeSymbols x_madeDistances x_p1_next x_p2_next v_tokenCount c_tokens c_p1_lengths c_p1_codes c_p2_lengths c_p2_codes v_p1_length_24 v_p1_open_25 v_p1_openCount_26 c_p1_data_27 v_extraBits) H := hP
            replace hD : va_D A (Packer_writeTokens_w E a_this a_tokens a_p1 a_p1_lengths a_p1_codes a_out a_out_data a_p2 a_p2_lengths a_p2_codes n_p1_lengths n_p1_codes n_p2_lengths n_p2_codes x_row x_matches x_lists x_header x_symbolCounts x_distanceCounts x_fixedSymbols x_fixedDistances x_madeSymbols x_madeDistances x_p1_next x_p2_next v_tokenCount c_tokens c_p1_lengths c_p1_codes c_p2_lengths c_p2_codes v_p1_length_24 v_p1_open_25 v_p1_openCount_26 c_p1_data_27 v_extraBits) := hD
            refine lv_isub hx hb d_Packer_writeTokens_134 ?_
            refine lv_iload hx hb d_Packer_writeTokens_135 (lv_at hl 0 rfl) ?_
            obtain ⟨r_30, hc137, hm⟩ := mR0_e hm
            refine xmi (wc := (P_distanceExtra_w E)) [false, false, false, false, false, false, false, false, false, false] [] [] hP hD hS hA rfl (by decide) (by decide) 0 (by decide) (fun _ => rfl) (fun hPc hDc hFc => va_runSN (As := [.int r_23]) (rest := [.int (y6_22 - r_29), .ref a_out]) ⟨hx, hb, hml, hown, hts⟩ (c_P_distanceExtra l E F H.size r_23 (r_30, ()) hc137) ⟨(va_cnB 1 hts (x_g tw_495) rfl rfl rfl (nM_5 hN) (hts _ tw_66) (by decide +kernel) ⟨Nat.le_of_ble_eq_true rfl, Nat.le_of_ble_eq_true rfl⟩), (hts _ tw_494), trivial⟩ (xPS hPc hDc hFc hK hI hN hS) rfl rfl hl.1 rfl (lv_room (Nat.le_of_ble_eq_true rfl)) d_Packer_writeTokens_137 ⟨Nat.le_of_ble_eq_true rfl, Nat.le_of_ble_eq_true rfl⟩) (fun r9 u9 H locs hw hP hD hS => ?_)
            have hw1 : r_30 = r9 := hw.1.symm
            subst hw1
            replace hP : va_P E.1 vwCl (Packer_writeTokens_w E a_this a_tokens a_p1 a_p1_lengths a_p1_codes a_out a_out_data a_p2 a_p2_lengths a_p2_codes n_p1_lengths n_p1_codes n_p2_lengths n_p2_codes x_row x_matches x_lists x_header x_symbolCounts x_distanceCounts x_fixedSymbols x_fixedDistances x_madeSymbols x_madeDistances x_p1_next x_p2_next v_tokenCount c_tokens c_p1_lengths c_p1_codes c_p2_lengths c_p2_codes v_p1_length_24 v_p1_open_25 v_p1_openCount_26 c_p1_data_27 v_extraBits) H := hP
            replace hD : va_D A (Packer_writeTokens_w E a_this a_tokens a_p1 a_p1_lengths a_p1_codes a_out a_out_data a_p2 a_p2_lengths a_p2_codes n_p1_lengths n_p1_codes n_p2_lengths n_p2_codes x_row x_matches x_lists x_header x_symbolCounts x_distanceCounts x_fixedSymbols x_fixedDistances x_madeSymbols x_madeDistances x_p1_next x_p2_next v_tokenCount c_tokens c_p1_lengths c_p1_codes c_p2_lengths c_p2_codes v_p1_length_24 v_p1_open_25 v_p1_openCount_26 c_p1_data_27 v_extraBits) := hD
            obtain ⟨t_31, et_31⟩ : ∃ z : Int32, z = y6_22 - r_29 := ⟨_, rfl⟩
            rw [← et_31]
            replace hm := mL_e hm t_31 et_31
            obtain ⟨r_36, v_length_32, v_open_33, v_openCount_34, c_data_35, hc140, hm⟩ := mR4_e hm
            refine xmv (wc := (BitWriter_number_w E a_out a_out_data v_p1_length_24 v_p1_open_25 v_p1_openCount_26 c_p1_data_27)) [false, false, false, false, false, true, true, false, false, false] [0, 1] [0, 1] hP hD hS hA rfl (by decide) (by decide) 2 (by decide) (fun _ => rfl) (fun hPc hDc hFc => va_runV (As := [.int t_31, .int r_30]) (rest := []) ⟨hx, hb, hml, hown, hts⟩ (c_BitWriter_number l E F H.size a_out a_out_data v_p1_length_24 v_p1_open_25 v_p1_openCount_26 c_p1_data_27 t_31 r_30 (r_36, v_length_32, v_open_33, v_openCount_34, c_data_35) hc140) (cwV 2 hts (x_gV tw_452 tw_453 tw_454 tw_70 tw_455) rfl rfl rfl (by decide +kernel) ⟨Nat.le_of_ble_eq_true rfl, Nat.le_of_ble_eq_true rfl⟩) (xPV 1 0 rfl rfl hPc hDc hFc hK hI hN hS) rfl rfl hl.1 rfl (lv_room (Nat.le_of_ble_eq_true rfl)) d_Packer_writeTokens_140 ⟨Nat.le_of_ble_eq_true rfl, Nat.le_of_ble_eq_true rfl⟩) (fun u9 H locs hw hP hD hS => ?_)
            have hw2 : (v_length_32, v_open_33, v_openCount_34, c_data_35) = u9 := hw.symm
            subst hw2
            replace hP : va_P E.1 vwCl (Packer_writeTokens_w E a_this a_tokens a_p1 a_p1_lengths a_p1_codes a_out a_out_data a_p2 a_p2_lengths a_p2_codes n_p1_lengths n_p1_codes n_p2_lengths n_p2_codes x_row x_matches x_lists x_header x_symbolCounts x_distanceCounts x_fixedSymbols x_fixedDistances x_madeSymbols x_madeDistances x_p1_next x_p2_next v_tokenCount c_tokens c_p1_lengths c_p1_codes c_p2_lengths c_p2_codes v_length_32 v_open_33 v_openCount_34 c_data_35 v_extraBits) H := hP
            replace hD : va_D A (Packer_writeTokens_w E a_this a_tokens a_p1 a_p1_lengths a_p1_codes a_out a_out_data a_p2 a_p2_lengths a_p2_codes n_p1_lengths n_p1_codes n_p2_lengths n_p2_codes x_row x_matches x_lists x_header x_symbolCounts x_distanceCounts x_fixedSymbols x_fixedDistances x_madeSymbols x_madeDistances x_p1_next x_p2_next v_tokenCount c_tokens c_p1_lengths c_p1_codes c_p2_lengths c_p2_codes v_length_32 v_open_33 v_openCount_34 c_data_35 v_extraBits) := hD
            exact h_143 _ _ _ _ _ H locs ls hm hP hD hS (lv_sub hl [4, 5, 6, 7] rfl)
          · replace hm := mC_f hm c27
            refine lv_aload_n hx hb d_Packer_writeTokens_30 rfl (lv_at hl 1 rfl) ?_
            refine lv_aload_n hx hb d_Packer_writeTokens_31 rfl (lv_at hl 0 rfl) ?_
            refine va_get (D := E.1) (ci := 7) (v := .ref a_out) (C := R_Packer) (T := F_Packer) (N := 14) hx hb hts i_Packer hown hK hP 0 rfl rfl 1 (by decide) (hts _ tw_250) (fun _ h9 => h9) rfl d_Packer_writeTokens_32 ?_
            refine lv_aload_n hx hb d_Packer_writeTokens_35 rfl (lv_at hl 0 rfl) ?_
            refine va_get (D := E.1) (ci := 7) (v := .ref a_tokens) (C := R_Packer) (T := F_Packer) (N := 14) hx hb hts i_Packer hown hK hP 0 rfl rfl 5 (by decide) (hts _ tw_254) (fun _ h9 => h9) rfl d_Packer_writeTokens_36 ?_
            refine lv_iload_n hx hb d_Packer_writeTokens_39 rfl (lv_at hl 3 rfl) ?_
            obtain ⟨hi40, hm⟩ := mG_e hm
            refine va_iald hx hb hK hP 1 0 rfl rfl hi40 d_Packer_writeTokens_40 ?_
            obtain ⟨t_37, et_37⟩ : ∃ z : Int32, z = c_tokens x3.toNatClampNeg := ⟨_, rfl⟩
            rw [← et_37]
            replace hm := mL_e hm t_37 et_37
            obtain ⟨r_42, v_p1_length_38, v_p1_open_39, v_p1_openCount_40, c_p1_data_41, hc41, hm⟩ := mR4_e hm
            refine xmv (wc := (Code_write_w E a_p1 a_p1_lengths a_p1_codes a_out a_out_data n_p1_lengths n_p1_codes x_p1_next c_p1_lengths c_p1_codes v_out_length v_out_open v_out_openCount c_out_data)) [false, false, true, true, true, true, true, false, false, false] [0, 1, 2, 3, 4] [0, 1, 2, 3, 4] hP hD hS hA rfl (by decide) (by decide) 5 (by decide) (fun _ => rfl) (fun hPc hDc hFc => va_runV (As := [.ref a_out, .int t_37]) (rest := []) ⟨hx, hb, hml, hown, hts⟩ (c_Code_write l E F H.size a_p1 a_p1_lengths a_p1_codes a_out a_out_data n_p1_lengths n_p1_codes x_p1_next c_p1_lengths c_p1_codes v_out_length v_out_open v_out_openCount c_out_data t_37 (r_42, v_p1_length_38, v_p1_open_39, v_p1_openCount_40, c_p1_data_41) hc41) (cwV 2 hts (x_gV tw_590 tw_591 tw_592 tw_74 tw_593) rfl rfl rfl (by decide +kernel) ⟨Nat.le_of_ble_eq_true rfl, Nat.le_of_ble_eq_true rfl⟩) (xPV 3 0 rfl rfl hPc hDc hFc hK hI hN hS) rfl rfl hl.1 rfl (lv_room (Nat.le_of_ble_eq_true rfl)) d_Packer_writeTokens_41 ⟨Nat.le_of_ble_eq_true rfl, Nat.le_of_ble_eq_true rfl⟩) (fun u9 H locs hw hP hD hS => ?_)
            have hw2 : (v_p1_length_38, v_p1_open_39, v_p1_openCount_40, c_p1_data_41) = u9 := hw.symm
            subst hw2
            replace hP : va_P E.1 vwCl (Packer_writeTokens_w E a_this a_tokens a_p1 a_p1_lengths a_p1_codes a_out a_out_data a_p2 a_p2_lengths a_p2_codes n_p1_lengths n_p1_codes n_p2_lengths n_p2_codes x_row x_matches x_lists x_header x_symbolCounts x_distanceCounts x_fixedSymbols x_fixedDistances x_madeSymbols x_madeDistances x_p1_next x_p2_next v_tokenCount c_tokens c_p1_lengths c_p1_codes c_p2_lengths c_p2_codes v_p1_length_38 v_p1_open_39 v_p1_openCount_40 c_p1_data_41 v_extraBits) H := hP
            replace hD : va_D A (Packer_writeTokens_w E a_this a_tokens a_p1 a_p1_lengths a_p1_codes a_out a_out_data a_p2 a_p2_lengths a_p2_codes n_p1_lengths n_p1_codes n_p2_lengths n_p2_codes x_row x_matches x_lists x_header x_symbolCounts x_distanceCounts x_fixedSymbols x_fixedDistances x_madeSymbols x_madeDistances x_p1_next x_p2_next v_tokenCount c_tokens c_p1_lengths c_p1_codes c_p2_lengths c_p2_codes v_p1_length_38 v_p1_open_39 v_p1_openCount_40 c_p1_data_41 v_extraBits) := hD
            refine lv_goto (tgt := 143) hx hb d_Packer_writeTokens_44 (by decide) ?_
            exact h_143 _ _ _ _ _ H locs ls hm hP hD hS hl
  refine lv_iconst (v := 0) hx hb d_Packer_writeTokens_0 (by decide) ?_
  refine lv_istore_n (lv' := [(3, .int 0), (0, .ref a_this), (1, .ref a_p1), (2, .ref a_p2)]) hx hb d_Packer_writeTokens_1 rfl hl (by decide) rfl (fun ls hl => ?_)
  exact h_2 F _ _ _ _ _ H locs ls hm hP hD hS (lv_sub hl [1, 2, 3, 0] rfl)
