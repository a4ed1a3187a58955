theorem d_Table_sort_0 : decode b_Table_sort 0 = .ok (.iconst 0, 1) := by decide +kernel
theorem d_Table_sort_1 : decode b_Table_sort 1 = .ok (.istore 4, 2) := by decide +kernel
theorem d_Table_sort_3 : decode b_Table_sort 3 = .ok (.iconst 1, 1) := by decide +kernel
theorem d_Table_sort_4 : decode b_Table_sort 4 = .ok (.istore 5, 2) := by decide +kernel
theorem d_Table_sort_6 : decode b_Table_sort 6 = .ok (.iload 5, 2) := by decide +kernel
theorem d_Table_sort_8 : decode b_Table_sort 8 = .ok (.bipush 15, 2) := by decide +kernel
theorem d_Table_sort_10 : decode b_Table_sort 10 = .ok (.if_icmp .gt 30, 3) := by decide +kernel
theorem d_Table_sort_13 : decode b_Table_sort 13 = .ok (.aload_n 0, 1) := by decide +kernel
theorem d_Table_sort_14 : decode b_Table_sort 14 = .ok (.getfield 15, 3) := by decide +kernel
theorem d_Table_sort_17 : decode b_Table_sort 17 = .ok (.iload 5, 2) := by decide +kernel
theorem d_Table_sort_19 : decode b_Table_sort 19 = .ok (.iload 4, 2) := by decide +kernel
theorem d_Table_sort_21 : decode b_Table_sort 21 = .ok (.iastore, 1) := by decide +kernel
theorem d_Table_sort_22 : decode b_Table_sort 22 = .ok (.iload 4, 2) := by decide +kernel
theorem d_Table_sort_24 : decode b_Table_sort 24 = .ok (.aload_n 0, 1) := by decide +kernel
theorem d_Table_sort_25 : decode b_Table_sort 25 = .ok (.getfield 9, 3) := by decide +kernel
theorem d_Table_sort_28 : decode b_Table_sort 28 = .ok (.iload 5, 2) := by decide +kernel
theorem d_Table_sort_30 : decode b_Table_sort 30 = .ok (.iaload, 1) := by decide +kernel
theorem d_Table_sort_31 : decode b_Table_sort 31 = .ok (.iadd, 1) := by decide +kernel
theorem d_Table_sort_32 : decode b_Table_sort 32 = .ok (.istore 4, 2) := by decide +kernel
theorem d_Table_sort_34 : decode b_Table_sort 34 = .ok (.iinc 5 1, 3) := by decide +kernel
theorem d_Table_sort_37 : decode b_Table_sort 37 = .ok (.goto (-31), 3) := by decide +kernel
theorem d_Table_sort_40 : decode b_Table_sort 40 = .ok (.iconst 0, 1) := by decide +kernel
theorem d_Table_sort_41 : decode b_Table_sort 41 = .ok (.istore 5, 2) := by decide +kernel
theorem d_Table_sort_43 : decode b_Table_sort 43 = .ok (.iload 5, 2) := by decide +kernel
theorem d_Table_sort_45 : decode b_Table_sort 45 = .ok (.iload_n 3, 1) := by decide +kernel
theorem d_Table_sort_46 : decode b_Table_sort 46 = .ok (.if_icmp .ge 78, 3) := by decide +kernel
theorem d_Table_sort_49 : decode b_Table_sort 49 = .ok (.iload_n 2, 1) := by decide +kernel
theorem d_Table_sort_50 : decode b_Table_sort 50 = .ok (.iload 5, 2) := by decide +kernel
theorem d_Table_sort_52 : decode b_Table_sort 52 = .ok (.iadd, 1) := by decide +kernel
theorem d_Table_sort_53 : decode b_Table_sort 53 = .ok (.aload_n 1, 1) := by decide +kernel
theorem d_Table_sort_54 : decode b_Table_sort 54 = .ok (.arraylength, 1) := by decide +kernel
theorem d_Table_sort_55 : decode b_Table_sort 55 = .ok (.if_icmp .ge 69, 3) := by decide +kernel
theorem d_Table_sort_58 : decode b_Table_sort 58 = .ok (.aload_n 1, 1) := by decide +kernel
theorem d_Table_sort_59 : decode b_Table_sort 59 = .ok (.iload_n 2, 1) := by decide +kernel
theorem d_Table_sort_60 : decode b_Table_sort 60 = .ok (.iload 5, 2) := by decide +kernel
theorem d_Table_sort_62 : decode b_Table_sort 62 = .ok (.iadd, 1) := by decide +kernel
theorem d_Table_sort_63 : decode b_Table_sort 63 = .ok (.iaload, 1) := by decide +kernel
theorem d_Table_sort_64 : decode b_Table_sort 64 = .ok (.istore 6, 2) := by decide +kernel
theorem d_Table_sort_66 : decode b_Table_sort 66 = .ok (.iload 6, 2) := by decide +kernel
theorem d_Table_sort_68 : decode b_Table_sort 68 = .ok (.ifCond .le 50, 3) := by decide +kernel
theorem d_Table_sort_71 : decode b_Table_sort 71 = .ok (.iload 6, 2) := by decide +kernel
theorem d_Table_sort_73 : decode b_Table_sort 73 = .ok (.bipush 15, 2) := by decide +kernel
theorem d_Table_sort_75 : decode b_Table_sort 75 = .ok (.if_icmp .gt 43, 3) := by decide +kernel
theorem d_Table_sort_78 : decode b_Table_sort 78 = .ok (.aload_n 0, 1) := by decide +kernel
theorem d_Table_sort_79 : decode b_Table_sort 79 = .ok (.getfield 15, 3) := by decide +kernel
theorem d_Table_sort_82 : decode b_Table_sort 82 = .ok (.iload 6, 2) := by decide +kernel
theorem d_Table_sort_84 : decode b_Table_sort 84 = .ok (.iaload, 1) := by decide +kernel
theorem d_Table_sort_85 : decode b_Table_sort 85 = .ok (.aload_n 0, 1) := by decide +kernel
theorem d_Table_sort_86 : decode b_Table_sort 86 = .ok (.getfield 24, 3) := by decide +kernel
theorem d_Table_sort_89 : decode b_Table_sort 89 = .ok (.arraylength, 1) := by decide +kernel
theorem d_Table_sort_90 : decode b_Table_sort 90 = .ok (.if_icmp .ge 28, 3) := by decide +kernel
theorem d_Table_sort_93 : decode b_Table_sort 93 = .ok (.aload_n 0, 1) := by decide +kernel
theorem d_Table_sort_94 : decode b_Table_sort 94 = .ok (.getfield 24, 3) := by decide +kernel
theorem d_Table_sort_97 : decode b_Table_sort 97 = .ok (.aload_n 0, 1) := by decide +kernel
theorem d_Table_sort_98 : decode b_Table_sort 98 = .ok (.getfield 15, 3) := by decide +kernel
theorem d_Table_sort_101 : decode b_Table_sort 101 = .ok (.iload 6, 2) := by decide +kernel
theorem d_Table_sort_103 : decode b_Table_sort 103 = .ok (.iaload, 1) := by decide +kernel
theorem d_Table_sort_104 : decode b_Table_sort 104 = .ok (.iload 5, 2) := by decide +kernel
theorem d_Table_sort_106 : decode b_Table_sort 106 = .ok (.iastore, 1) := by decide +kernel
theorem d_Table_sort_107 : decode b_Table_sort 107 = .ok (.aload_n 0, 1) := by decide +kernel
theorem d_Table_sort_108 : decode b_Table_sort 108 = .ok (.getfield 15, 3) := by decide +kernel
theorem d_Table_sort_111 : decode b_Table_sort 111 = .ok (.iload 6, 2) := by decide +kernel
theorem d_Table_sort_113 : decode b_Table_sort 113 = .ok (.dup2, 1) := by decide +kernel
theorem d_Table_sort_114 : decode b_Table_sort 114 = .ok (.iaload, 1) := by decide +kernel
theorem d_Table_sort_115 : decode b_Table_sort 115 = .ok (.iconst 1, 1) := by decide +kernel
theorem d_Table_sort_116 : decode b_Table_sort 116 = .ok (.iadd, 1) := by decide +kernel
theorem d_Table_sort_117 : decode b_Table_sort 117 = .ok (.iastore, 1) := by decide +kernel
theorem d_Table_sort_118 : decode b_Table_sort 118 = .ok (.iinc 5 1, 3) := by decide +kernel
theorem d_Table_sort_121 : decode b_Table_sort 121 = .ok (.goto (-78), 3) := by decide +kernel
theorem d_Table_sort_124 : decode b_Table_sort 124 = .ok (.return_, 1) := by decide +kernel
def Table_sort_118 (F : Nat) (k_43 : (Nat → Int32) → (Nat → Int32) → Int32 → Option (Unit × (Nat → Int32) × (Nat → Int32))) (c_offsets : Nat → Int32) (c_symbols : Nat → Int32) (x5 : Int32) : Option (Unit × (Nat → Int32) × (Nat → Int32)) :=
  mL (x5 + 1) fun y5_1 => k_43 c_offsets c_symbols y5_1
def Table_sort_43 (F : Nat) (n_p1 : Nat) (n_symbols : Nat) (c_p1 : Nat → Int32) (x2 : Int32) (x3 : Int32) (k_43 : (Nat → Int32) → (Nat → Int32) → Int32 → Option (Unit × (Nat → Int32) × (Nat → Int32))) (c_offsets : Nat → Int32) (c_symbols : Nat → Int32) (x5 : Int32) : Option (Unit × (Nat → Int32) × (Nat → Int32)) :=
  mC (x3 ≤ x5) (some ((), c_offsets, c_symbols)) (mC ((nI n_p1) ≤ (x2 + x5)) (some ((), c_offsets, c_symbols)) (mL (x2 + x5) fun i_2 => mG i_2 n_p1 (mL (c_p1 i_2.toNatClampNeg) fun y6_3 => mC (y6_3 ≤ 0) ((Table_sort_118 F k_43) c_offsets c_symbols x5) (mC (15 < y6_3) ((Table_sort_118 F k_43) c_offsets c_symbols x5) (mG y6_3 16 (mC ((nI n_symbols) ≤ (c_offsets y6_3.toNatClampNeg)) ((Table_sort_118 F k_43) c_offsets c_symbols x5) (mG y6_3 16 (mL (c_offsets y6_3.toNatClampNeg) fun t_4 => mG t_4 n_symbols (mL (upd c_symbols t_4.toNatClampNeg x5) fun c_5 => mG y6_3 16 (mL ((c_offsets y6_3.toNatClampNeg) + 1) fun v_6 => mG y6_3 16 (mL (upd c_offsets y6_3.toNatClampNeg v_6) fun c_7 => (Table_sort_118 F k_43) c_7 c_5 x5)))))))))))
def Table_sort_40 (F : Nat) (n_p1 : Nat) (n_symbols : Nat) (c_p1 : Nat → Int32) (x2 : Int32) (x3 : Int32) (c_offsets : Nat → Int32) (c_symbols : Nat → Int32) : Option (Unit × (Nat → Int32) × (Nat → Int32)) :=
  (mW3 (Table_sort_43 F n_p1 n_symbols c_p1 x2 x3) F) c_offsets c_symbols 0
def Table_sort_6 (F : Nat) (c_counts : Nat → Int32) (k_40 : (Nat → Int32) → (Nat → Int32) → Option (Unit × (Nat → Int32) × (Nat → Int32))) (k_6 : (Nat → Int32) → (Nat → Int32) → Int32 → Int32 → Option (Unit × (Nat → Int32) × (Nat → Int32))) (c_offsets : Nat → Int32) (c_symbols : Nat → Int32) (x4 : Int32) (x5 : Int32) : Option (Unit × (Nat → Int32) × (Nat → Int32)) :=
  mC (15 < x5) (k_40 c_offsets c_symbols) (mG x5 16 (mL (upd c_offsets x5.toNatClampNeg x4) fun c_8 => mG x5 16 (mL (x4 + (c_counts x5.toNatClampNeg)) fun y4_9 => mL (x5 + 1) fun y5_10 => k_6 c_8 c_symbols y4_9 y5_10)))
abbrev Table_sort_w (E : xE) (a_this : Nat) (a_offsets : Nat) (a_counts : Nat) (a_p1 : Nat) (a_symbols : Nat) (n_p1 : Nat) (n_symbols : Nat) (c_counts : Nat → Int32) (c_p1 : Nat → Int32) (c_offsets : Nat → Int32) (c_symbols : Nat → Int32) : va_W := [(a_this, .inr (8, [.ref a_counts, .ref a_offsets, .ref a_symbols])), (a_offsets, .inl (E.2.1, 16, .inl c_offsets)), (a_counts, .inl (E.2.1, 16, .inl c_counts)), (a_p1, .inl (E.2.1, n_p1, .inl c_p1)), (a_symbols, .inl (E.2.1, n_symbols, .inl c_symbols))]
def Table_sort (F : Nat) (n_p1 : Nat) (n_symbols : Nat) (c_counts : Nat → Int32) (c_p1 : Nat → Int32) (c_offsets : Nat → Int32) (c_symbols : Nat → Int32) (x2 : Int32) (x3 : Int32) : Option (Unit × (Nat → Int32) × (Nat → Int32)) :=
  (mW4 (Table_sort_6 F c_counts (Table_sort_40 F n_p1 n_symbols c_p1 x2 x3)) F) c_offsets c_symbols 0 1
abbrev Table_sort_rm : Room := { frames := 0, cells := 0, slots := 0, locals := 0 }
set_option maxHeartbeats 4000000 in
set_option maxRecDepth 100000 in
theorem c_Table_sort (l : Launch) (E : xE) (F sz : Nat) (a_this : Nat) (a_offsets : Nat) (a_counts : Nat) (a_p1 : Nat) (a_symbols : Nat) (n_p1 : Nat) (n_symbols : Nat) (c_counts : Nat → Int32) (c_p1 : Nat → Int32) (c_offsets : Nat → Int32) (c_symbols : Nat → Int32) (x2 : Int32) (x3 : Int32) (res : Unit × (Nat → Int32) × (Nat → Int32)) (hm : Table_sort F n_p1 n_symbols c_counts c_p1 c_offsets c_symbols x2 x3 = some res) : Met l y_Table_sort (Cond.code y_Table_sort b_Table_sort 7 none :: x_tb) Table_sort_rm (va_Pc [.ref a_this, .ref a_p1, .int x2, .int x3] (xPre E (Table_sort_w E a_this a_offsets a_counts a_p1 a_symbols n_p1 n_symbols c_counts c_p1 c_offsets c_symbols) sz)) (xQv E (fun (u : (Nat → Int32) × (Nat → Int32)) => u = res.2) (fun (u : (Nat → Int32) × (Nat → Int32)) => (Table_sort_w E a_this a_offsets a_counts a_p1 a_symbols n_p1 n_symbols c_counts c_p1 u.1 u.2)) (va_A (Table_sort_w E a_this a_offsets a_counts a_p1 a_symbols n_p1 n_symbols c_counts c_p1 c_offsets c_symbols) sz)) 0 0 (va_A (Table_sort_w E a_this a_offsets a_counts a_p1 a_symbols n_p1 n_symbols c_counts c_p1 c_offsets c_symbols) sz) := by
  refine xEnV (by decide) (Nat.le_of_ble_eq_true rfl) ?_
  intro p e s m args below meth c A ls Q hx hb hnm hts hown hml hK hA hI hN hret hP hD hS hl
  replace hown : s.vm.findClass R_Table = some m.cls := hown
  replace hl : lv_has ls 7 [(0, .ref a_this), (1, .ref a_p1), (2, .int x2), (3, .int x3)] := hl
  obtain ⟨H, eH⟩ : ∃ z, z = s.heap := ⟨_, rfl⟩
  obtain ⟨locs, eL⟩ : ∃ z : List Loc, z = [] := ⟨_, rfl⟩
  rw [show W p l e Table_sort_rm s m args below meth c s.heap [] 0 0 Q (F0 m 0 ls []) = W p l e Table_sort_rm s m args below meth c H locs 0 0 Q (F0 m 0 ls []) by rw [eH, eL]]
  replace hP : va_P E.1 vwCl (Table_sort_w E a_this a_offsets a_counts a_p1 a_symbols n_p1 n_symbols c_counts c_p1 c_offsets c_symbols) H := by rw [eH]; exact hP
  replace hS : va_S A s.heap H locs := by rw [eH, eL]; exact hS
  clear eH eL
  rw [Table_sort] at hm
  have h_40 : ∀ (c_offsets : Nat → Int32) (c_symbols : Nat → Int32) (H : Heap) (locs : List Loc) (ls : Array Slot), (Table_sort_40 F n_p1 n_symbols c_p1 x2 x3) c_offsets c_symbols = some res → va_P E.1 vwCl (Table_sort_w E a_this a_offsets a_counts a_p1 a_symbols n_p1 n_symbols c_counts c_p1 c_offsets c_symbols) H → va_D A (Table_sort_w E a_this a_offsets a_counts a_p1 a_symbols n_p1 n_symbols c_counts c_p1 c_offsets c_symbols) → va_S A s.heap H locs → lv_has ls 7 [(0, .ref a_this), (1, .ref a_p1), (2, .int x2), (3, .int x3)] → W p l e Table_sort_rm s m args below meth c H locs 0 0 Q (F0 m 40 ls []) := by
    intro c_offsets c_symbols H locs ls hm hP hD hS hl
    rw [Table_sort_40] at hm
    have h_43 : ∀ (n_43 : Nat) (c_offsets : Nat → Int32) (c_symbols : Nat → Int32) (x5 : Int32) (H : Heap) (locs : List Loc) (ls : Array Slot), (mW3 (Table_sort_43 F n_p1 n_symbols c_p1 x2 x3) n_43) c_offsets c_symbols x5 = some res → va_P E.1 vwCl (Table_sort_w E a_this a_offsets a_counts a_p1 a_symbols n_p1 n_symbols c_counts c_p1 c_offsets c_symbols) H → va_D A (Table_sort_w E a_this a_offsets a_counts a_p1 a_symbols n_p1 n_symbols c_counts c_p1 c_offsets c_symbols) → va_S A s.heap H locs → lv_has ls 7 [(0, .ref a_this), (1, .ref a_p1), (2, .int x2), (3, .int x3), (5, .int x5)] → W p l e Table_sort_rm s m args below meth c H locs 0 0 Q (F0 m 43 ls []) := by
      intro n_43
      induction n_43 with
      | zero => exact fun _ _ _ _ _ _ hm _ _ _ _ => (mW3_z hm).elim
      | succ n_43 ih_43 =>
        intro c_offsets c_symbols x5 H locs ls hm hP hD hS hl
        replace hm := mW3_s hm
        rw [Table_sort_43] at hm
        refine lv_iload hx hb d_Table_sort_43 (lv_at hl 4 rfl) ?_
        refine lv_iload_n hx hb d_Table_sort_45 rfl (lv_at hl 3 rfl) ?_
        refine lv_icmp_ge (tgt := 124) hx hb d_Table_sort_46 (by decide) (fun c46 => ?_) (fun c46 => ?_)
        · replace hm := mC_t hm c46
          replace hm := Option.some.inj hm
          subst hm
          exact hret d_Table_sort_124 (u := (c_offsets, c_symbols)) rfl hP hD hS
        · replace hm := mC_f hm c46
          refine lv_iload_n hx hb d_Table_sort_49 rfl (lv_at hl 2 rfl) ?_
          refine lv_iload hx hb d_Table_sort_50 (lv_at hl 4 rfl) ?_
          refine lv_iadd hx hb d_Table_sort_52 ?_
          refine lv_aload_n hx hb d_Table_sort_53 rfl (lv_at hl 1 rfl) ?_
          refine va_alen (v := nI n_p1) hx hb hK hP 3 0 rfl rfl rfl d_Table_sort_54 ?_
          refine lv_icmp_ge (tgt := 124) hx hb d_Table_sort_55 (by decide) (fun c55 => ?_) (fun c55 => ?_)
          · replace hm := mC_t hm c55
            replace hm := Option.some.inj hm
            subst hm
            exact hret d_Table_sort_124 (u := (c_offsets, c_symbols)) rfl hP hD hS
          · replace hm := mC_f hm c55
            have h_118 : ∀ (c_offsets : Nat → Int32) (c_symbols : Nat → Int32) (x5 : Int32) (H : Heap) (locs : List Loc) (ls : Array Slot), (Table_sort_118 F (mW3 (Table_sort_43 F n_p1 n_symbols c_p1 x2 x3) n_43)) c_offsets c_symbols x5 = some res → va_P E.1 vwCl (Table_sort_w E a_this a_offsets a_counts a_p1 a_symbols n_p1 n_symbols c_counts c_p1 c_offsets c_symbols) H → va_D A (Table_sort_w E a_this a_offsets a_counts a_p1 a_symbols n_p1 n_symbols c_counts c_p1 c_offsets c_symbols) → va_S A s.heap H locs → lv_has ls 7 [(0, .ref a_this), (1, .ref a_p1), (2, .int x2), (3, .int x3), (5, .int x5)] → W p l e Table_sort_rm s m args below meth c H locs 0 0 Q (F0 m 118 ls []) := by
              intro c_offsets c_symbols x5 H locs ls hm hP hD hS hl
              rw [Table_sort_118] at hm
              obtain ⟨y5_1, ey5_1⟩ : ∃ y : Int32, y = x5 + 1 := ⟨_, rfl⟩
              replace hm := mL_e hm y5_1 ey5_1
              refine lv_iinc (v := y5_1) (lv' := [(5, .int y5_1), (0, .ref a_this), (1, .ref a_p1), (2, .int x2), (3, .int x3)]) hx hb d_Table_sort_118 hl (k := 4) rfl (by rw [ey5_1]; rfl) (by decide) rfl (fun ls hl => ?_)
              refine lv_goto (tgt := 43) hx hb d_Table_sort_121 (by decide) ?_
              exact ih_43 _ _ _ H locs ls hm hP hD hS (lv_sub hl [1, 2, 3, 4, 0] rfl)
            refine lv_aload_n hx hb d_Table_sort_58 rfl (lv_at hl 1 rfl) ?_
            refine lv_iload_n hx hb d_Table_sort_59 rfl (lv_at hl 2 rfl) ?_
            refine lv_iload hx hb d_Table_sort_60 (lv_at hl 4 rfl) ?_
            refine lv_iadd hx hb d_Table_sort_62 ?_
            refine lv_topi (fun i_2 ei_2 => ?_)
            replace hm := mL_e hm i_2 ei_2
            obtain ⟨hi63, hm⟩ := mG_e hm
            refine va_iald hx hb hK hP 3 0 rfl rfl hi63 d_Table_sort_63 ?_
            refine lv_topi (fun y6_3 ey6_3 => ?_)
            replace hm := mL_e hm y6_3 ey6_3
            refine lv_istore (lv' := [(6, .int y6_3), (0, .ref a_this), (1, .ref a_p1), (2, .int x2), (3, .int x3), (5, .int x5)]) hx hb d_Table_sort_64 hl (by decide) rfl (fun ls hl => ?_)
            refine lv_iload hx hb d_Table_sort_66 (lv_at hl 0 rfl) ?_
            refine lv_if_le (tgt := 118) hx hb d_Table_sort_68 (by decide) (fun c68 => ?_) (fun c68 => ?_)
            · replace hm := mC_t hm c68
              exact h_118 _ _ _ H locs ls hm hP hD hS (lv_sub hl [1, 2, 3, 4, 5] rfl)
            · replace hm := mC_f hm c68
              refine lv_iload hx hb d_Table_sort_71 (lv_at hl 0 rfl) ?_
              refine lv_bipush (v := 15) hx hb d_Table_sort_73 (by decide) ?_
              refine lv_icmp_gt (tgt := 118) hx hb d_Table_sort_75 (by decide) (fun c75 => ?_) (fun c75 => ?_)
              · replace hm := mC_t hm c75
                exact h_118 _ _ _ H locs ls hm hP hD hS (lv_sub hl [1, 2, 3, 4, 5] rfl)
              · replace hm := mC_f hm c75
                refine lv_aload_n hx hb d_Table_sort_78 rfl (lv_at hl 1 rfl) ?_
                refine va_get (D := E.1) (ci := 8) (v := .ref a_offsets) (C := R_Table) (T := F_Table) (N := 3) hx hb hts i_Table hown hK hP 0 rfl rfl 1 (by decide) (hts _ tw_323) (fun _ h9 => h9) rfl d_Table_sort_79 ?_
                refine lv_iload hx hb d_Table_sort_82 (lv_at hl 0 rfl) ?_
                obtain ⟨hi84, hm⟩ := mG_e hm
                refine va_iald hx hb hK hP 1 0 rfl rfl hi84 d_Table_sort_84 ?_
                refine lv_aload_n hx hb d_Table_sort_85 rfl (lv_at hl 1 rfl) ?_
                refine va_get (D := E.1) (ci := 8) (v := .ref a_symbols) (C := R_Table) (T := F_Table) (N := 3) hx hb hts i_Table hown hK hP 0 rfl rfl 2 (by decide) (hts _ tw_324) (fun _ h9 => h9) rfl d_Table_sort_86 ?_
                refine va_alen (v := nI n_symbols) hx hb hK hP 4 0 rfl rfl rfl d_Table_sort_89 ?_
                refine lv_icmp_ge (tgt := 118) hx hb d_Table_sort_90 (by decide) (fun c90 => ?_) (fun c90 => ?_)
                · replace hm := mC_t hm c90
                  exact h_118 _ _ _ H locs ls hm hP hD hS (lv_sub hl [1, 2, 3, 4, 5] rfl)
                · replace hm := mC_f hm c90
                  refine lv_aload_n hx hb d_Table_sort_93 rfl (lv_at hl 1 rfl) ?_
                  refine va_get (D := E.1) (ci := 8) (v := .ref a_symbols) (C := R_Table) (T := F_Table) (N := 3) hx hb hts i_Table hown hK hP 0 rfl rfl 2 (by decide) (hts _ tw_324) (fun _ h9 => h9) rfl d_Table_sort_94 ?_
                  refine lv_aload_n hx hb d_Table_sort_97 rfl (lv_at hl 1 rfl) ?_
                  refine va_get (D := E.1) (ci := 8) (v := .ref a_offsets) (C := R_Table) (T := F_Table) (N := 3) hx hb hts i_Table hown hK hP 0 rfl rfl 1 (by decide) (hts _ tw_323) (fun _ h9 => h9) rfl d_Table_sort_98 ?_
                  refine lv_iload hx hb d_Table_sort_101 (lv_at hl 0 rfl) ?_
                  obtain ⟨hi103, hm⟩ := mG_e hm
                  refine va_iald hx hb hK hP 1 0 rfl rfl hi103 d_Table_sort_103 ?_
                  refine lv_iload hx hb d_Table_sort_104 (lv_at hl 5 rfl) ?_
                  obtain ⟨t_4, et_4⟩ : ∃ z : Int32, z = c_offsets y6_3.toNatClampNeg := ⟨_, rfl⟩
                  rw [← et_4]
                  replace hm := mL_e hm t_4 et_4
                  obtain ⟨hi106, hm⟩ := mG_e hm
                  obtain ⟨c_5, ec_5⟩ : ∃ z : Nat → Int32, z = upd c_symbols t_4.toNatClampNeg x5 := ⟨_, rfl⟩
                  replace hm := mL_e hm c_5 ec_5
                  refine va_iast hx hb hK hP hD hS 4 0 rfl rfl hi106 d_Table_sort_106 (fun H locs hP hD hS => ?_)
                  rw [← ec_5] at hP hD
                  replace hP : va_P E.1 vwCl (Table_sort_w E a_this a_offsets a_counts a_p1 a_symbols n_p1 n_symbols c_counts c_p1 c_offsets c_5) H := hP
                  replace hD : va_D A (Table_sort_w E a_this a_offsets a_counts a_p1 a_symbols n_p1 n_symbols c_counts c_p1 c_offsets c_5) := hD
                  refine lv_aload_n hx hb d_Table_sort_107 rfl (lv_at hl 1 rfl) ?_
                  refine va_get (D := E.1) (ci := 8) (v := .ref a_offsets) (C := R_Table) (T := F_Table) (N := 3) hx hb hts i_Table hown hK hP 0 rfl rfl 1 (by decide) (hts _ tw_323) (fun _ h9 => h9) rfl d_Table_sort_108 ?_
                  refine lv_iload hx hb d_Table_sort_111 (lv_at hl 0 rfl) ?_
                  refine lv_dup2_11 hx hb d_Table_sort_113 rfl rfl ?_
                  obtain ⟨hi114, hm⟩ := mG_e hm
                  refine va_iald hx hb hK hP 1 0 rfl rfl hi114 d_Table_sort_114 ?_
                  refine lv_iconst (v := 1) hx hb d_Table_sort_115 (by decide) ?_
                  refine lv_iadd hx hb d_Table_sort_116 ?_
                  refine lv_topi (fun v_6 ev_6 => ?_)
                  replace hm := mL_e hm v_6 ev_6
                  obtain ⟨hi117, hm⟩ := mG_e hm
                  obtain ⟨c_7, ec_7⟩ : ∃ z : Nat → Int32, z = upd c_offsets y6_3.toNatClampNeg v_6 := ⟨_, rfl⟩
                  replace hm := mL_e hm c_7 ec_7
                  refine va_iast hx hb hK hP hD hS 1 0 rfl rfl hi117 d_Table_sort_117 (fun H locs hP hD hS => ?_)
                  rw [← ec_7] at hP hD
                  replace hP : va_P E.1 vwCl (Table_sort_w E a_this a_offsets a_counts a_p1 a_symbols n_p1 n_symbols c_counts c_p1 c_7 c_5) H := hP
                  replace hD : va_D A (Table_sort_w E a_this a_offsets a_counts a_p1 a_symbols n_p1 n_symbols c_counts c_p1 c_7 c_5) := hD
                  exact h_118 _ _ _ H locs ls hm hP hD hS (lv_sub hl [1, 2, 3, 4, 5] rfl)
    refine lv_iconst (v := 0) hx hb d_Table_sort_40 (by decide) ?_
    refine lv_istore (lv' := [(5, .int 0), (0, .ref a_this), (1, .ref a_p1), (2, .int x2), (3, .int x3)]) hx hb d_Table_sort_41 hl (by decide) rfl (fun ls hl => ?_)
    exact h_43 F _ _ _ H locs ls hm hP hD hS (lv_sub hl [1, 2, 3, 4, 0] rfl)
  have h_6 : ∀ (n_6 : Nat) (c_offsets : Nat → Int32) (c_symbols : Nat → Int32) (x4 : Int32) (x5 : Int32) (H : Heap) (locs : List Loc) (ls : Array Slot), (mW4 (Table_sort_6 F c_counts (Table_sort_40 F n_p1 n_symbols c_p1 x2 x3)) n_6) c_offsets c_symbols x4 x5 = some res → va_P E.1 vwCl (Table_sort_w E a_this a_offsets a_counts a_p1 a_symbols n_p1 n_symbols c_counts c_p1 c_offsets c_symbols) H → va_D A (Table_sort_w E a_this a_offsets a_counts a_p1 a_symbols n_p1 n_symbols c_counts c_p1 c_offsets c_symbols) → va_S A s.heap H locs → lv_has ls 7 [(0, .ref a_this), (1, .ref a_p1), (2, .int x2), (3, .int x3), (4, .int x4), (5, .int x5)] → W p l e Table_sort_rm s m args below meth c H locs 0 0 Q (F0 m 6 ls []) := by
    intro n_6
    induction n_6 with
    | zero => exact fun _ _ _ _ _ _ _ hm _ _ _ _ => (mW4_z hm).elim
    | succ n_6 ih_6 =>
      intro c_offsets c_symbols x4 x5 H locs ls hm hP hD hS hl
      replace hm := mW4_s hm
      rw [Table_sort_6] at hm
      refine lv_iload hx hb d_Table_sort_6 (lv_at hl 5 rfl) ?_
      refine lv_bipush (v := 15) hx hb d_Table_sort_8 (by decide) ?_
      refine lv_icmp_gt (tgt := 40) hx hb d_Table_sort_10 (by decide) (fun c10 => ?_) (fun c10 => ?_)
      · replace hm := mC_t hm c10
        exact h_40 _ _ H locs ls hm hP hD hS (lv_sub hl [0, 1, 2, 3] rfl)
      · replace hm := mC_f hm c10
        refine lv_aload_n hx hb d_Table_sort_13 rfl (lv_at hl 0 rfl) ?_
        refine va_get (D := E.1) (ci := 8) (v := .ref a_offsets) (C := R_Table) (T := F_Table) (N := 3) hx hb hts i_Table hown hK hP 0 rfl rfl 1 (by decide) (hts _ tw_323) (fun _ h9 => h9) rfl d_Table_sort_14 ?_
        refine lv_iload hx hb d_Table_sort_17 (lv_at hl 5 rfl) ?_
        refine lv_iload hx hb d_Table_sort_19 (lv_at hl 4 rfl) ?_
        obtain ⟨hi21, hm⟩ := mG_e hm
        obtain ⟨c_8, ec_8⟩ : ∃ z : Nat → Int32, z = upd c_offsets x5.toNatClampNeg x4 := ⟨_, rfl⟩
        replace hm := mL_e hm c_8 ec_8
        refine va_iast hx hb hK hP hD hS 1 0 rfl rfl hi21 d_Table_sort_21 (fun H locs hP hD hS => ?_)
        rw [← ec_8] at hP hD
        replace hP : va_P E.1 vwCl (Table_sort_w E a_this a_offsets a_counts a_p1 a_symbols n_p1 n_symbols c_counts c_p1 c_8 c_symbols) H := hP
        replace hD : va_D A (Table_sort_w E a_this a_offsets a_counts a_p1 a_symbols n_p1 n_symbols c_counts c_p1 c_8 c_symbols) := hD
        refine lv_iload hx hb d_Table_sort_22 (lv_at hl 4 rfl) ?_
        refine lv_aload_n hx hb d_Table_sort_24 rfl (lv_at hl 0 rfl) ?_
        refine va_get (D := E.1) (ci := 8) (v := .ref a_counts) (C := R_Table) (T := F_Table) (N := 3) hx hb hts i_Table hown hK hP 0 rfl rfl 0 (by decide) (hts _ tw_322) (fun _ h9 => h9) rfl d_Table_sort_25 ?_
        refine lv_iload hx hb d_Table_sort_28 (lv_at hl 5 rfl) ?_
        obtain ⟨hi30, hm⟩ := mG_e hm
        refine va_iald hx hb hK hP 2 0 rfl rfl hi30 d_Table_sort_30 ?_
        refine lv_iadd hx hb d_Table_sort_31 ?_
        refine lv_topi (fun y4_9 ey4_9 => ?_)
        replace hm := mL_e hm y4_9 ey4_9
        refine lv_istore (lv' := [(4, .int y4_9), (0, .ref a_this), (1, .ref a_p1), (2, .int x2), (3, .int x3), (5, .int x5)]) hx hb d_Table_sort_32 hl (by decide) rfl (fun ls hl => ?_)
        obtain ⟨y5_10, ey5_10⟩ : ∃ y : Int32, y = x5 + 1 := ⟨_, rfl⟩
        replace hm := mL_e hm y5_10 ey5_10
        refine lv_iinc (v := y5_10) (lv' := [(5, .int y5_10), (4, .int y4_9), (0, .ref a_this), (1, .ref a_p1), (2, .int x2), (3, .int x3)]) hx hb d_Table_sort_34 hl (k := 5) rfl (by rw [ey5_10]; rfl) (by decide) rfl (fun ls hl => ?_)
        refine lv_goto (tgt := 6) hx hb d_Table_sort_37 (by decide) ?_
        exact ih_6 _ _ _ _ H locs ls hm hP hD hS (lv_sub hl [2, 3, 4, 5, 1, 0] rfl)
  refine lv_iconst (v := 0) hx hb d_Table_sort_0 (by decide) ?_
  refine lv_istore (lv' := [(4, .int 0), (0, .ref a_this), (1, .ref a_p1), (2, .int x2), (3, .int x3)]) hx hb d_Table_sort_1 hl (by decide) rfl (fun ls hl => ?_)
  refine lv_iconst (v := 1) hx hb d_Table_sort_3 (by decide) ?_
  refine lv_istore (lv' := [(5, .int 1), (4, .int 0), (0, .ref a_this), (1, .ref a_p1), (2, .int x2), (3, .int x3)]) hx hb d_Table_sort_4 hl (by decide) rfl (fun ls hl => ?_)
  exact h_6 F _ _ _ _ H locs ls hm hP hD hS (lv_sub hl [2, 3, 4, 5, 1, 0] rfl)
theorem d_Table_make_0 : decode b_Table_make 0 = .ok (.iload_n 2, 1) := by decide +kernel
theorem d_Table_make_1 : decode b_Table_make 1 = .ok (.ifCond .lt 24, 3) := by decide +kernel
theorem d_Table_make_4 : decode b_Table_make 4 = .ok (.iload_n 3, 1) := by decide +kernel
theorem d_Table_make_5 : decode b_Table_make 5 = .ok (.ifCond .lt 20, 3) := by decide +kernel
theorem d_Table_make_8 : decode b_Table_make 8 = .ok (.iload_n 3, 1) := by decide +kernel
theorem d_Table_make_9 : decode b_Table_make 9 = .ok (.aload_n 0, 1) := by decide +kernel
theorem d_Table_make_10 : decode b_Table_make 10 = .ok (.getfield 24, 3) := by decide +kernel
theorem d_Table_make_13 : decode b_Table_make 13 = .ok (.arraylength, 1) := by decide +kernel
theorem d_Table_make_14 : decode b_Table_make 14 = .ok (.if_icmp .gt 11, 3) := by decide +kernel
theorem d_Table_make_17 : decode b_Table_make 17 = .ok (.iload_n 3, 1) := by decide +kernel
theorem d_Table_make_18 : decode b_Table_make 18 = .ok (.aload_n 1, 1) := by decide +kernel
theorem d_Table_make_19 : decode b_Table_make 19 = .ok (.arraylength, 1) := by decide +kernel
theorem d_Table_make_20 : decode b_Table_make 20 = .ok (.iload_n 2, 1) := by decide +kernel
theorem d_Table_make_21 : decode b_Table_make 21 = .ok (.isub, 1) := by decide +kernel
theorem d_Table_make_22 : decode b_Table_make 22 = .ok (.if_icmp .le 5, 3) := by decide +kernel
theorem d_Table_make_25 : decode b_Table_make 25 = .ok (.iconst 0, 1) := by decide +kernel
theorem d_Table_make_26 : decode b_Table_make 26 = .ok (.ireturn, 1) := by decide +kernel
theorem d_Table_make_27 : decode b_Table_make 27 = .ok (.aload_n 0, 1) := by decide +kernel
theorem d_Table_make_28 : decode b_Table_make 28 = .ok (.getfield 9, 3) := by decide +kernel
theorem d_Table_make_31 : decode b_Table_make 31 = .ok (.iconst 0, 1) := by decide +kernel
theorem d_Table_make_32 : decode b_Table_make 32 = .ok (.invokestatic 27, 3) := by decide +kernel
theorem d_Table_make_35 : decode b_Table_make 35 = .ok (.iconst 0, 1) := by decide +kernel
theorem d_Table_make_36 : decode b_Table_make 36 = .ok (.istore 5, 2) := by decide +kernel
theorem d_Table_make_38 : decode b_Table_make 38 = .ok (.iload 5, 2) := by decide +kernel
theorem d_Table_make_40 : decode b_Table_make 40 = .ok (.iload_n 3, 1) := by decide +kernel
theorem d_Table_make_41 : decode b_Table_make 41 = .ok (.if_icmp .ge 40, 3) := by decide +kernel
theorem d_Table_make_44 : decode b_Table_make 44 = .ok (.aload_n 1, 1) := by decide +kernel
theorem d_Table_make_45 : decode b_Table_make 45 = .ok (.iload_n 2, 1) := by decide +kernel
theorem d_Table_make_46 : decode b_Table_make 46 = .ok (.iload 5, 2) := by decide +kernel
theorem d_Table_make_48 : decode b_Table_make 48 = .ok (.iadd, 1) := by decide +kernel
theorem d_Table_make_49 : decode b_Table_make 49 = .ok (.iaload, 1) := by decide +kernel
theorem d_Table_make_50 : decode b_Table_make 50 = .ok (.istore 6, 2) := by decide +kernel
theorem d_Table_make_52 : decode b_Table_make 52 = .ok (.iload 6, 2) := by decide +kernel
theorem d_Table_make_54 : decode b_Table_make 54 = .ok (.ifCond .lt 21, 3) := by decide +kernel
theorem d_Table_make_57 : decode b_Table_make 57 = .ok (.iload 6, 2) := by decide +kernel
theorem d_Table_make_59 : decode b_Table_make 59 = .ok (.bipush 15, 2) := by decide +kernel
theorem d_Table_make_61 : decode b_Table_make 61 = .ok (.if_icmp .gt 14, 3) := by decide +kernel
theorem d_Table_make_64 : decode b_Table_make 64 = .ok (.aload_n 0, 1) := by decide +kernel
theorem d_Table_make_65 : decode b_Table_make 65 = .ok (.getfield 9, 3) := by decide +kernel
theorem d_Table_make_68 : decode b_Table_make 68 = .ok (.iload 6, 2) := by decide +kernel
theorem d_Table_make_70 : decode b_Table_make 70 = .ok (.dup2, 1) := by decide +kernel
theorem d_Table_make_71 : decode b_Table_make 71 = .ok (.iaload, 1) := by decide +kernel
theorem d_Table_make_72 : decode b_Table_make 72 = .ok (.iconst 1, 1) := by decide +kernel
theorem d_Table_make_73 : decode b_Table_make 73 = .ok (.iadd, 1) := by decide +kernel
theorem d_Table_make_74 : decode b_Table_make 74 = .ok (.iastore, 1) := by decide +kernel
theorem d_Table_make_75 : decode b_Table_make 75 = .ok (.iinc 5 1, 3) := by decide +kernel
theorem d_Table_make_78 : decode b_Table_make 78 = .ok (.goto (-40), 3) := by decide +kernel
theorem d_Table_make_81 : decode b_Table_make 81 = .ok (.iload_n 3, 1) := by decide +kernel
theorem d_Table_make_82 : decode b_Table_make 82 = .ok (.aload_n 0, 1) := by decide +kernel
theorem d_Table_make_83 : decode b_Table_make 83 = .ok (.getfield 9, 3) := by decide +kernel
theorem d_Table_make_86 : decode b_Table_make 86 = .ok (.iconst 0, 1) := by decide +kernel
theorem d_Table_make_87 : decode b_Table_make 87 = .ok (.iaload, 1) := by decide +kernel
theorem d_Table_make_88 : decode b_Table_make 88 = .ok (.isub, 1) := by decide +kernel
theorem d_Table_make_89 : decode b_Table_make 89 = .ok (.istore 5, 2) := by decide +kernel
theorem d_Table_make_91 : decode b_Table_make 91 = .ok (.iconst 1, 1) := by decide +kernel
theorem d_Table_make_92 : decode b_Table_make 92 = .ok (.istore 6, 2) := by decide +kernel
theorem d_Table_make_94 : decode b_Table_make 94 = .ok (.iconst 1, 1) := by decide +kernel
theorem d_Table_make_95 : decode b_Table_make 95 = .ok (.istore 7, 2) := by decide +kernel
theorem d_Table_make_97 : decode b_Table_make 97 = .ok (.iload 7, 2) := by decide +kernel
theorem d_Table_make_99 : decode b_Table_make 99 = .ok (.bipush 15, 2) := by decide +kernel
theorem d_Table_make_101 : decode b_Table_make 101 = .ok (.if_icmp .gt 30, 3) := by decide +kernel
theorem d_Table_make_104 : decode b_Table_make 104 = .ok (.iconst 2, 1) := by decide +kernel
theorem d_Table_make_105 : decode b_Table_make 105 = .ok (.iload 6, 2) := by decide +kernel
theorem d_Table_make_107 : decode b_Table_make 107 = .ok (.imul, 1) := by decide +kernel
theorem d_Table_make_108 : decode b_Table_make 108 = .ok (.aload_n 0, 1) := by decide +kernel
theorem d_Table_make_109 : decode b_Table_make 109 = .ok (.getfield 9, 3) := by decide +kernel
theorem d_Table_make_112 : decode b_Table_make 112 = .ok (.iload 7, 2) := by decide +kernel
theorem d_Table_make_114 : decode b_Table_make 114 = .ok (.iaload, 1) := by decide +kernel
theorem d_Table_make_115 : decode b_Table_make 115 = .ok (.isub, 1) := by decide +kernel
theorem d_Table_make_116 : decode b_Table_make 116 = .ok (.istore 6, 2) := by decide +kernel
theorem d_Table_make_118 : decode b_Table_make 118 = .ok (.iload 6, 2) := by decide +kernel
theorem d_Table_make_120 : decode b_Table_make 120 = .ok (.ifCond .ge 5, 3) := by decide +kernel
theorem d_Table_make_123 : decode b_Table_make 123 = .ok (.iconst 0, 1) := by decide +kernel
theorem d_Table_make_124 : decode b_Table_make 124 = .ok (.ireturn, 1) := by decide +kernel
theorem d_Table_make_125 : decode b_Table_make 125 = .ok (.iinc 7 1, 3) := by decide +kernel
theorem d_Table_make_128 : decode b_Table_make 128 = .ok (.goto (-31), 3) := by decide +kernel
theorem d_Table_make_131 : decode b_Table_make 131 = .ok (.aload_n 0, 1) := by decide +kernel
theorem d_Table_make_132 : decode b_Table_make 132 = .ok (.aload_n 1, 1) := by decide +kernel
theorem d_Table_make_133 : decode b_Table_make 133 = .ok (.iload_n 2, 1) := by decide +kernel
theorem d_Table_make_134 : decode b_Table_make 134 = .ok (.iload_n 3, 1) := by decide +kernel
theorem d_Table_make_135 : decode b_Table_make 135 = .ok (.invokevirtual 33, 3) := by decide +kernel
theorem d_Table_make_138 : decode b_Table_make 138 = .ok (.iload 6, 2) := by decide +kernel
theorem d_Table_make_140 : decode b_Table_make 140 = .ok (.ifCond .eq 29, 3) := by decide +kernel
theorem d_Table_make_143 : decode b_Table_make 143 = .ok (.iload 5, 2) := by decide +kernel
theorem d_Table_make_145 : decode b_Table_make 145 = .ok (.iconst 1, 1) := by decide +kernel
theorem d_Table_make_146 : decode b_Table_make 146 = .ok (.if_icmp .ne 13, 3) := by decide +kernel
theorem d_Table_make_149 : decode b_Table_make 149 = .ok (.aload_n 0, 1) := by decide +kernel
theorem d_Table_make_150 : decode b_Table_make 150 = .ok (.getfield 9, 3) := by decide +kernel
theorem d_Table_make_153 : decode b_Table_make 153 = .ok (.iconst 1, 1) := by decide +kernel
theorem d_Table_make_154 : decode b_Table_make 154 = .ok (.iaload, 1) := by decide +kernel
theorem d_Table_make_155 : decode b_Table_make 155 = .ok (.iconst 1, 1) := by decide +kernel
theorem d_Table_make_156 : decode b_Table_make 156 = .ok (.if_icmp .eq 13, 3) := by decide +kernel
theorem d_Table_make_159 : decode b_Table_make 159 = .ok (.iload 5, 2) := by decide +kernel
theorem d_Table_make_161 : decode b_Table_make 161 = .ok (.ifCond .ne 12, 3) := by decide +kernel
theorem d_Table_make_164 : decode b_Table_make 164 = .ok (.iload 4, 2) := by decide +kernel
theorem d_Table_make_166 : decode b_Table_make 166 = .ok (.ifCond .eq 7, 3) := by decide +kernel
theorem d_Table_make_169 : decode b_Table_make 169 = .ok (.iconst 1, 1) := by decide +kernel
theorem d_Table_make_170 : decode b_Table_make 170 = .ok (.goto 4, 3) := by decide +kernel
theorem d_Table_make_173 : decode b_Table_make 173 = .ok (.iconst 0, 1) := by decide +kernel
theorem d_Table_make_174 : decode b_Table_make 174 = .ok (.ireturn, 1) := by decide +kernel
def Table_make_159 (F : Nat) (x4 : Int32) (c_symbols : Nat → Int32) (c_counts : Nat → Int32) (c_offsets : Nat → Int32) (x5 : Int32) : Option (Int32 × (Nat → Int32) × (Nat → Int32) × (Nat → Int32)) :=
  mC (x5 = 0) (mC (x4 = 0) (some (0, c_symbols, c_counts, c_offsets)) (some (1, c_symbols, c_counts, c_offsets))) (some (0, c_symbols, c_counts, c_offsets))
def Table_make_131 (F : Nat) (n_symbols : Nat) (n_p1 : Nat) (c_p1 : Nat → Int32) (x2 : Int32) (x3 : Int32) (x4 : Int32) (c_symbols : Nat → Int32) (c_counts : Nat → Int32) (c_offsets : Nat → Int32) (x5 : Int32) (x6 : Int32) : Option (Int32 × (Nat → Int32) × (Nat → Int32) × (Nat → Int32)) :=
  mR2 (Table_sort F n_p1 n_symbols c_counts c_p1 c_offsets c_symbols x2 x3) fun _ c_offsets_1 c_symbols_2 => mC (x6 = 0) (some (1, c_symbols_2, c_counts, c_offsets_1)) (mC (x5 = 1) (mG 1 16 (mC ((c_counts (1 : Int32).toNatClampNeg) = 1) (some (1, c_symbols_2, c_counts, c_offsets_1)) ((Table_make_159 F x4) c_symbols_2 c_counts c_offsets_1 x5))) ((Table_make_159 F x4) c_symbols_2 c_counts c_offsets_1 x5))
def Table_make_97 (F : Nat) (k_131 : (Nat → Int32) → (Nat → Int32) → (Nat → Int32) → Int32 → Int32 → Option (Int32 × (Nat → Int32) × (Nat → Int32) × (Nat → Int32))) (k_97 : (Nat → Int32) → (Nat → Int32) → (Nat → Int32) → Int32 → Int32 → Int32 → Option (Int32 × (Nat → Int32) × (Nat → Int32) × (Nat → Int32))) (c_symbols : Nat → Int32) (c_counts : Nat → Int32) (c_offsets : Nat → Int32) (x5 : Int32) (x6 : Int32) (x7 : Int32) : Option (Int32 × (Nat → Int32) × (Nat → Int32) × (Nat → Int32)) :=
  mC (15 < x7) (k_131 c_symbols c_counts c_offsets x5 x6) (mG x7 16 (mL ((2 * x6) - (c_counts x7.toNatClampNeg)) fun y6_4 => mC (0 ≤ y6_4) (mL (x7 + 1) fun y7_5 => k_97 c_symbols c_counts c_offsets x5 y6_4 y7_5) (some (0, c_symbols, c_counts, c_offsets))))
def Table_make_81 (F : Nat) (n_symbols : Nat) (n_p1 : Nat) (c_p1 : Nat → Int32) (x2 : Int32) (x3 : Int32) (x4 : Int32) (c_symbols : Nat → Int32) (c_counts : Nat → Int32) (c_offsets : Nat → Int32) : Option (Int32 × (Nat → Int32) × (Nat → Int32) × (Nat → Int32)) :=
  mG 0 16 (mL (x3 - (c_counts (0 : Int32).toNatClampNeg)) fun y5_6 => (mW6 (Table_make_97 F (Table_make_131 F n_symbols n_p1 c_p1 x2 x3 x4)) F) c_symbols c_counts c_offsets y5_6 1 1)
def Table_make_75 (F : Nat) (k_38 : (Nat → Int32) → (Nat → Int32) → (Nat → Int32) → Int32 → Option (Int32 × (Nat → Int32) × (Nat → Int32) × (Nat → Int32))) (c_symbols : Nat → Int32) (c_counts : Nat → Int32) (c_offsets : Nat → Int32) (x5 : Int32) : Option (Int32 × (Nat → Int32) × (Nat → Int32) × (Nat → Int32)) :=
  mL (x5 + 1) fun y5_7 => k_38 c_symbols c_counts c_offsets y5_7
def Table_make_38 (F : Nat) (n_p1 : Nat) (c_p1 : Nat → Int32) (x2 : Int32) (x3 : Int32) (k_81 : (Nat → Int32) → (Nat → Int32) → (Nat → Int32) → Option (Int32 × (Nat → Int32) × (Nat → Int32) × (Nat → Int32))) (k_38 : (Nat → Int32) → (Nat → Int32) → (Nat → Int32) → Int32 → Option (Int32 × (Nat → Int32) × (Nat → Int32) × (Nat → Int32))) (c_symbols : Nat → Int32) (c_counts : Nat → Int32) (c_offsets : Nat → Int32) (x5 : Int32) : Option (Int32 × (Nat → Int32) × (Nat → Int32) × (Nat → Int32)) :=
  mC (x3 ≤ x5) (k_81 c_symbols c_counts c_offsets) (mL (x2 + x5) fun i_8 => mG i_8 n_p1 (mL (c_p1 i_8.toNatClampNeg) fun y6_9 => mC (y6_9 < 0) ((Table_make_75 F k_38) c_symbols c_counts c_offsets x5) (mC (15 < y6_9) ((Table_make_75 F k_38) c_symbols c_counts c_offsets x5) (mG y6_9 16 (mL ((c_counts y6_9.toNatClampNeg) + 1) fun v_10 => mG y6_9 16 (mL (upd c_counts y6_9.toNatClampNeg v_10) fun c_11 => (Table_make_75 F k_38) c_symbols c_11 c_offsets x5))))))
abbrev Table_make_w (E : xE) (a_this : Nat) (a_symbols : Nat) (a_p1 : Nat) (a_counts : Nat) (a_offsets : Nat) (n_symbols : Nat) (n_p1 : Nat) (c_p1 : Nat → Int32) (c_symbols : Nat → Int32) (c_counts : Nat → Int32) (c_offsets : Nat → Int32) : va_W := [(a_this, .inr (8, [.ref a_counts, .ref a_offsets, .ref a_symbols])), (a_symbols, .inl (E.2.1, n_symbols, .inl c_symbols)), (a_p1, .inl (E.2.1, n_p1, .inl c_p1)), (a_counts, .inl (E.2.1, 16, .inl c_counts)), (a_offsets, .inl (E.2.1, 16, .inl c_offsets))]
def Table_make (F : Nat) (n_symbols : Nat) (n_p1 : Nat) (c_p1 : Nat → Int32) (c_symbols : Nat → Int32) (c_counts : Nat → Int32) (c_offsets : Nat → Int32) (x2 : Int32) (x3 : Int32) (x4 : Int32) : Option (Int32 × (Nat → Int32) × (Nat → Int32) × (Nat → Int32)) :=
  mC (x2 < 0) (some (0, c_symbols, c_counts, c_offsets)) (mC (x3 < 0) (some (0, c_symbols, c_counts, c_offsets)) (mC ((nI n_symbols) < x3) (some (0, c_symbols, c_counts, c_offsets)) (mC (x3 ≤ ((nI n_p1) - x2)) (mR1 (Arr_fill F 16 c_counts 0) fun _ c_p0_12 => (mW4 (Table_make_38 F n_p1 c_p1 x2 x3 (Table_make_81 F n_symbols n_p1 c_p1 x2 x3 x4)) F) c_symbols c_p0_12 c_offsets 0) (some (0, c_symbols, c_counts, c_offsets)))))
abbrev Table_make_rm : Room := { frames := 1, cells := 0, slots := 0, locals := 26 }
set_option maxHeartbeats 4000000 in
set_option maxRecDepth 100000 in
theorem c_Table_make (l : Launch) (E : xE) (F sz : Nat) (a_this : Nat) (a_symbols : Nat) (a_p1 : Nat) (a_counts : Nat) (a_offsets : Nat) (n_symbols : Nat) (n_p1 : Nat) (c_p1 : Nat → Int32) (c_symbols : Nat → Int32) (c_counts : Nat → Int32) (c_offsets : Nat → Int32) (x2 : Int32) (x3 : Int32) (x4 : Int32) (res : Int32 × (Nat → Int32) × (Nat → Int32) × (Nat → Int32)) (hm : Table_make F n_symbols n_p1 c_p1 c_symbols c_counts c_offsets x2 x3 x4 = some res) : Met l y_Table_make (Cond.code y_Table_make b_Table_make 8 (some .boolean) :: x_tb) Table_make_rm (va_Pc [.ref a_this, .ref a_p1, .int x2, .int x3, .int x4] (xPre E (Table_make_w E a_this a_symbols a_p1 a_counts a_offsets n_symbols n_p1 c_p1 c_symbols c_counts c_offsets) sz)) (xQi E (fun (r : Int32) (u : (Nat → Int32) × (Nat → Int32) × (Nat → Int32)) => r = res.1 ∧ u = res.2) (fun (u : (Nat → Int32) × (Nat → Int32) × (Nat → Int32)) => (Table_make_w E a_this a_symbols a_p1 a_counts a_offsets n_symbols n_p1 c_p1 u.1 u.2.1 u.2.2)) (va_A (Table_make_w E a_this a_symbols a_p1 a_counts a_offsets n_symbols n_p1 c_p1 c_symbols c_counts c_offsets) sz)) 0 0 (va_A (Table_make_w E a_this a_symbols a_p1 a_counts a_offsets n_symbols n_p1 c_p1 c_symbols c_counts c_offsets) sz) := by
  refine xEnZ (by decide) (Nat.le_of_ble_eq_true rfl) ?_
  intro p e s m args below meth c A ls Q hx hb hnm hts hown hml hK hA hI hN hret hP hD hS hl
  replace hown : s.vm.findClass R_Table = some m.cls := hown
  replace hl : lv_has ls 8 [(0, .ref a_this), (1, .ref a_p1), (2, .int x2), (3, .int x3), (4, .int x4)] := hl
  obtain ⟨H, eH⟩ : ∃ z, z = s.heap := ⟨_, rfl⟩
  obtain ⟨locs, eL⟩ : ∃ z : List Loc, z = [] := ⟨_, rfl⟩
  rw [show W p l e Table_make_rm s m args below meth c s.heap [] 0 0 Q (F0 m 0 ls []) = W p l e Table_make_rm s m args below meth c H locs 0 0 Q (F0 m 0 ls []) by rw [eH, eL]]
  replace hP : va_P E.1 vwCl (Table_make_w E a_this a_symbols a_p1 a_counts a_offsets n_symbols n_p1 c_p1 c_symbols c_counts c_offsets) H := by rw [eH]; exact hP
  replace hS : va_S A s.heap H locs := by rw [eH, eL]; exact hS
  clear eH eL
  rw [Table_make] at hm
  refine lv_iload_n hx hb d_Table_make_0 rfl (lv_at hl 2 rfl) ?_
  refine lv_if_lt (tgt := 25) hx hb d_Table_make_1 (by decide) (fun c1 => ?_) (fun c1 => ?_)
  · replace hm := mC_t hm c1
    refine lv_iconst (v := 0) hx hb d_Table_make_25 (by decide) ?_
    replace hm := Option.some.inj hm
    subst hm
    exact hret d_Table_make_26 (by decide) (u := (c_symbols, c_counts, c_offsets)) ⟨rfl, rfl⟩ hP hD hS
  · replace hm := mC_f hm c1
    refine lv_iload_n hx hb d_Table_make_4 rfl (lv_at hl 3 rfl) ?_
    refine lv_if_lt (tgt := 25) hx hb d_Table_make_5 (by decide) (fun c5 => ?_) (fun c5 => ?_)
    · replace hm := mC_t hm c5
      refine lv_iconst (v := 0) hx hb d_Table_make_25 (by decide) ?_
      replace hm := Option.some.inj hm
      subst hm
      exact hret d_Table_make_26 (by decide) (u := (c_symbols, c_counts, c_offsets)) ⟨rfl, rfl⟩ hP hD hS
    · replace hm := mC_f hm c5
      refine lv_iload_n hx hb d_Table_make_8 rfl (lv_at hl 3 rfl) ?_
      refine lv_aload_n hx hb d_Table_make_9 rfl (lv_at hl 0 rfl) ?_
      refine va_get (D := E.1) (ci := 8) (v := .ref a_symbols) (C := R_Table) (T := F_Table) (N := 3) hx hb hts i_Table hown hK hP 0 rfl rfl 2 (by decide) (hts _ tw_324) (fun _ h9 => h9) rfl d_Table_make_10 ?_
      refine va_alen (v := nI n_symbols) hx hb hK hP 1 0 rfl rfl rfl d_Table_make_13 ?_
      refine lv_icmp_gt (tgt := 25) hx hb d_Table_make_14 (by decide) (fun c14 => ?_) (fun c14 => ?_)
      · replace hm := mC_t hm c14
        refine lv_iconst (v := 0) hx hb d_Table_make_25 (by decide) ?_
        replace hm := Option.some.inj hm
        subst hm
        exact hret d_Table_make_26 (by decide) (u := (c_symbols, c_counts, c_offsets)) ⟨rfl, rfl⟩ hP hD hS
      · replace hm := mC_f hm c14
        refine lv_iload_n hx hb d_Table_make_17 rfl (lv_at hl 3 rfl) ?_
        refine lv_aload_n hx hb d_Table_make_18 rfl (lv_at hl 1 rfl) ?_
        refine va_alen (v := nI n_p1) hx hb hK hP 2 0 rfl rfl rfl d_Table_make_19 ?_
        refine lv_iload_n hx hb d_Table_make_20 rfl (lv_at hl 2 rfl) ?_
        refine lv_isub hx hb d_Table_make_21 ?_
        refine lv_icmp_le (tgt := 27) hx hb d_Table_make_22 (by decide) (fun c22 => ?_) (fun c22 => ?_)
        · replace hm := mC_t hm c22
          have h_81 : ∀ (c_symbols : Nat → Int32) (c_counts : Nat → Int32) (c_offsets : Nat → Int32) (H : Heap) (locs : List Loc) (ls : Array Slot), (Table_make_81 F n_symbols n_p1 c_p1 x2 x3 x4) c_symbols c_counts c_offsets = some res → va_P E.1 vwCl (Table_make_w E a_this a_symbols a_p1 a_counts a_offsets n_symbols n_p1 c_p1 c_symbols c_counts c_offsets) H → va_D A (Table_make_w E a_this a_symbols a_p1 a_counts a_offsets n_symbols n_p1 c_p1 c_symbols c_counts c_offsets) → va_S A s.heap H locs → lv_has ls 8 [(0, .ref a_this), (1, .ref a_p1), (2, .int x2), (3, .int x3), (4, .int x4)] → W p l e Table_make_rm s m args below meth c H locs 0 0 Q (F0 m 81 ls []) := by
            intro c_symbols c_counts c_offsets H locs ls hm hP hD hS hl
            rw [Table_make_81] at hm
            have h_131 : ∀ (c_symbols : Nat → Int32) (c_counts : Nat → Int32) (c_offsets : Nat → Int32) (x5 : Int32) (x6 : Int32) (H : Heap) (locs : List Loc) (ls : Array Slot), (Table_make_131 F n_symbols n_p1 c_p1 x2 x3 x4) c_symbols c_counts c_offsets x5 x6 = some res → va_P E.1 vwCl (Table_make_w E a_this a_symbols a_p1 a_counts a_offsets n_symbols n_p1 c_p1 c_symbols c_counts c_offsets) H → va_D A (Table_make_w E a_this a_symbols a_p1 a_counts a_offsets n_symbols n_p1 c_p1 c_symbols c_counts c_offsets) → va_S A s.heap H locs → lv_has ls 8 [(0, .ref a_this), (1, .ref a_p1), (2, .int x2), (3, .int x3), (4, .int x4), (5, .int x5), (6, .int x6)] → W p l e Table_make_rm s m args below meth c H locs 0 0 Q (F0 m 131 ls []) := by
              intro c_symbols c_counts c_offsets x5 x6 H locs ls hm hP hD hS hl
              rw [Table_make_131] at hm
              refine lv_aload_n hx hb d_Table_make_131 rfl (lv_at hl 0 rfl) ?_
              refine lv_aload_n hx hb d_Table_make_132 rfl (lv_at hl 1 rfl) ?_
              refine lv_iload_n hx hb d_Table_make_133 rfl (lv_at hl 2 rfl) ?_
              refine lv_iload_n hx hb d_Table_make_134 rfl (lv_at hl 3 rfl) ?_
              obtain ⟨r_3, c_offsets_1, c_symbols_2, hc135, hm⟩ := mR2_e hm
              refine xmv (wc := (Table_sort_w E a_this a_offsets a_counts a_p1 a_symbols n_p1 n_symbols c_counts c_p1 c_offsets c_symbols)) [true, true, true, true, true] [0, 4, 3, 2, 1] [0, 4, 3, 2, 1] hP hD hS hA rfl (by decide) (by decide) 5 (by decide) (fun _ => rfl) (fun hPc hDc hFc => va_runV (As := [.ref a_p1, .int x2, .int x3]) (rest := []) ⟨hx, hb, hml, hown, hts⟩ (c_Table_sort l E F H.size a_this a_offsets a_counts a_p1 a_symbols n_p1 n_symbols c_counts c_p1 c_offsets c_symbols x2 x3 (r_3, c_offsets_1, c_symbols_2) hc135) (cwV 3 hts (x_gV tw_338 tw_340 tw_0 tw_78 tw_341) rfl rfl rfl (by decide +kernel) ⟨Nat.le_of_ble_eq_true rfl, Nat.le_of_ble_eq_true rfl⟩) (xPV 8 0 rfl rfl hPc hDc hFc hK hI hN hS) rfl rfl hl.1 rfl (lv_room (Nat.le_of_ble_eq_true rfl)) d_Table_make_135 ⟨Nat.le_of_ble_eq_true rfl, Nat.le_of_ble_eq_true rfl⟩) (fun u9 H locs hw hP hD hS => ?_)
              have hw2 : (c_offsets_1, c_symbols_2) = u9 := hw.symm
              subst hw2
              replace hP : va_P E.1 vwCl (Table_make_w E a_this a_symbols a_p1 a_counts a_offsets n_symbols n_p1 c_p1 c_symbols_2 c_counts c_offsets_1) H := hP
              replace hD : va_D A (Table_make_w E a_this a_symbols a_p1 a_counts a_offsets n_symbols n_p1 c_p1 c_symbols_2 c_counts c_offsets_1) := hD
              refine lv_iload hx hb d_Table_make_138 (lv_at hl 6 rfl) ?_
              refine lv_if_eq (tgt := 169) hx hb d_Table_make_140 (by decide) (fun c140 => ?_) (fun c140 => ?_)
              · replace hm := mC_t hm c140
                refine lv_iconst (v := 1) hx hb d_Table_make_169 (by decide) ?_
                refine lv_goto (tgt := 174) hx hb d_Table_make_170 (by decide) ?_
                replace hm := Option.some.inj hm
                subst hm
                exact hret d_Table_make_174 (by decide) (u := (c_symbols_2, c_counts, c_offsets_1)) ⟨rfl, rfl⟩ hP hD hS
              · replace hm := mC_f hm c140
                have h_159 : ∀ (c_symbols : Nat → Int32) (c_counts : Nat → Int32) (c_offsets : Nat → Int32) (x5 : Int32) (H : Heap) (locs : List Loc) (ls : Array Slot), (Table_make_159 F x4) c_symbols c_counts c_offsets x5 = some res → va_P E.1 vwCl (Table_make_w E a_this a_symbols a_p1 a_counts a_offsets n_symbols n_p1 c_p1 c_symbols c_counts c_offsets) H → va_D A (Table_make_w E a_this a_symbols a_p1 a_counts a_offsets n_symbols n_p1 c_p1 c_symbols c_counts c_offsets) → va_S A s.heap H locs → lv_has ls 8 [(4, .int x4), (5, .int x5)] → W p l e Table_make_rm s m args below meth c H locs 0 0 Q (F0 m 159 ls []) := by
                  intro c_symbols c_counts c_offsets x5 H locs ls hm hP hD hS hl
                  rw [Table_make_159] at hm
                  refine lv_iload hx hb d_Table_make_159 (lv_at hl 1 rfl) ?_
                  refine lv_if_ne (tgt := 173) hx hb d_Table_make_161 (by decide) (fun c161 => ?_) (fun c161 => ?_)
                  · replace hm := mC_f hm c161
                    refine lv_iconst (v := 0) hx hb d_Table_make_173 (by decide) ?_
                    replace hm := Option.some.inj hm
                    subst hm
                    exact hret d_Table_make_174 (by decide) (u := (c_symbols, c_counts, c_offsets)) ⟨rfl, rfl⟩ hP hD hS
                  · replace hm := mC_t hm c161
                    refine lv_iload hx hb d_Table_make_164 (lv_at hl 0 rfl) ?_
                    refine lv_if_eq (tgt := 173) hx hb d_Table_make_166 (by decide) (fun c166 => ?_) (fun c166 => ?_)
                    · replace hm := mC_t hm c166
                      refine lv_iconst (v := 0) hx hb d_Table_make_173 (by decide) ?_
                      replace hm := Option.some.inj hm
                      subst hm
                      exact hret d_Table_make_174 (by decide) (u := (c_symbols, c_counts, c_offsets)) ⟨rfl, rfl⟩ hP hD hS
                    · replace hm := mC_f hm c166
                      refine lv_iconst (v := 1) hx hb d_Table_make_169 (by decide) ?_
                      refine lv_goto (tgt := 174) hx hb d_Table_make_170 (by decide) ?_
                      replace hm := Option.some.inj hm
                      subst hm
                      exact hret d_Table_make_174 (by decide) (u := (c_symbols, c_counts, c_offsets)) ⟨rfl, rfl⟩ hP hD hS
                refine lv_iload hx hb d_Table_make_143 (lv_at hl 5 rfl) ?_
                refine lv_iconst (v := 1) hx hb d_Table_make_145 (by decide) ?_
                refine lv_icmp_ne (tgt := 159) hx hb d_Table_make_146 (by decide) (fun c146 => ?_) (fun c146 => ?_)
                · replace hm := mC_f hm c146
                  exact h_159 _ _ _ _ H locs ls hm hP hD hS (lv_sub hl [4, 5] rfl)
                · replace hm := mC_t hm c146
                  refine lv_aload_n hx hb d_Table_make_149 rfl (lv_at hl 0 rfl) ?_
                  refine va_get (D := E.1) (ci := 8) (v := .ref a_counts) (C := R_Table) (T := F_Table) (N := 3) hx hb hts i_Table hown hK hP 0 rfl rfl 0 (by decide) (hts _ tw_322) (fun _ h9 => h9) rfl d_Table_make_150 ?_
                  refine lv_iconst (v := 1) hx hb d_Table_make_153 (by decide) ?_
                  obtain ⟨hi154, hm⟩ := mG_e hm
                  refine va_iald hx hb hK hP 3 0 rfl rfl hi154 d_Table_make_154 ?_
                  refine lv_iconst (v := 1) hx hb d_Table_make_155 (by decide) ?_
                  refine lv_icmp_eq (tgt := 169) hx hb d_Table_make_156 (by decide) (fun c156 => ?_) (fun c156 => ?_)
                  · replace hm := mC_t hm c156
                    refine lv_iconst (v := 1) hx hb d_Table_make_169 (by decide) ?_
                    refine lv_goto (tgt := 174) hx hb d_Table_make_170 (by decide) ?_
                    replace hm := Option.some.inj hm
                    subst hm
                    exact hret d_Table_make_174 (by decide) (u := (c_symbols_2, c_counts, c_offsets_1)) ⟨rfl, rfl⟩ hP hD hS
                  · replace hm := mC_f hm c156
                    exact h_159 _ _ _ _ H locs ls hm hP hD hS (lv_sub hl [4, 5] rfl)
            have h_97 : ∀ (n_97 : Nat) (c_symbols : Nat → Int32) (c_counts : Nat → Int32) (c_offsets : Nat → Int32) (x5 : Int32) (x6 : Int32) (x7 : Int32) (H : Heap) (locs : List Loc) (ls : Array Slot), (mW6 (Table_make_97 F (Table_make_131 F n_symbols n_p1 c_p1 x2 x3 x4)) n_97) c_symbols c_counts c_offsets x5 x6 x7 = some res → va_P E.1 vwCl (Table_make_w E a_this a_symbols a_p1 a_counts a_offsets n_symbols n_p1 c_p1 c_symbols c_counts c_offsets) H → va_D A (Table_make_w E a_this a_symbols a_p1 a_counts a_offsets n_symbols n_p1 c_p1 c_symbols c_counts c_offsets) → va_S A s.heap H locs → lv_has ls 8 [(0, .ref a_this), (1, .ref a_p1), (2, .int x2), (3, .int x3), (4, .int x4), (5, .int x5), (6, .int x6), (7, .int x7)] → W p l e Table_make_rm s m args below meth c H locs 0 0 Q (F0 m 97 ls []) := by
              intro n_97
              induction n_97 with
              | zero => exact fun _ _ _ _ _ _ _ _ _ hm _ _ _ _ => (mW6_z hm).elim
              | succ n_97 ih_97 =>
                intro c_symbols c_counts c_offsets x5 x6 x7 H locs ls hm hP hD hS hl
                replace hm := mW6_s hm
                rw [Table_make_97] at hm
                refine lv_iload hx hb d_Table_make_97 (lv_at hl 7 rfl) ?_
                refine lv_bipush (v := 15) hx hb d_Table_make_99 (by decide) ?_
                refine lv_icmp_gt (tgt := 131) hx hb d_Table_make_101 (by decide) (fun c101 => ?_) (fun c101 => ?_)
                · replace hm := mC_t hm c101
                  exact h_131 _ _ _ _ _ H locs ls hm hP hD hS (lv_sub hl [0, 1, 2, 3, 4, 5, 6] rfl)
                · replace hm := mC_f hm c101
                  refine lv_iconst (v := 2) hx hb d_Table_make_104 (by decide) ?_
                  refine lv_iload hx hb d_Table_make_105 (lv_at hl 6 rfl) ?_
                  refine lv_imul hx hb d_Table_make_107 ?_
                  refine lv_aload_n hx hb d_Table_make_108 rfl (lv_at hl 0 rfl) ?_
                  refine va_get (D := E.1) (ci := 8) (v := .ref a_counts) (C := R_Table) (T := F_Table) (N := 3) hx hb hts i_Table hown hK hP 0 rfl rfl 0 (by decide) (hts _ tw_322) (fun _ h9 => h9) rfl d_Table_make_109 ?_
                  refine lv_iload hx hb d_Table_make_112 (lv_at hl 7 rfl) ?_
                  obtain ⟨hi114, hm⟩ := mG_e hm
                  refine va_iald hx hb hK hP 3 0 rfl rfl hi114 d_Table_make_114 ?_
                  refine lv_isub hx hb d_Table_make_115 ?_
                  refine lv_topi (fun y6_4 ey6_4 => ?_)
                  replace hm := mL_e hm y6_4 ey6_4
                  refine lv_istore (lv' := [(6, .int y6_4), (0, .ref a_this), (1, .ref a_p1), (2, .int x2), (3, .int x3), (4, .int x4), (5, .int x5), (7, .int x7)]) hx hb d_Table_make_116 hl (by decide) rfl (fun ls hl => ?_)
                  refine lv_iload hx hb d_Table_make_118 (lv_at hl 0 rfl) ?_
                  refine lv_if_ge (tgt := 125) hx hb d_Table_make_120 (by decide) (fun c120 => ?_) (fun c120 => ?_)
                  · replace hm := mC_t hm c120
                    obtain ⟨y7_5, ey7_5⟩ : ∃ y : Int32, y = x7 + 1 := ⟨_, rfl⟩
                    replace hm := mL_e hm y7_5 ey7_5
                    refine lv_iinc (v := y7_5) (lv' := [(7, .int y7_5), (6, .int y6_4), (0, .ref a_this), (1, .ref a_p1), (2, .int x2), (3, .int x3), (4, .int x4), (5, .int x5)]) hx hb d_Table_make_125 hl (k := 7) rfl (by rw [ey7_5]; rfl) (by decide) rfl (fun ls hl => ?_)
                    refine lv_goto (tgt := 97) hx hb d_Table_make_128 (by decide) ?_
                    exact ih_97 _ _ _ _ _ _ H locs ls hm hP hD hS (lv_sub hl [2, 3, 4, 5, 6, 7, 1, 0] rfl)
                  · replace hm := mC_f hm c120
                    refine lv_iconst (v := 0) hx hb d_Table_make_123 (by decide) ?_
                    replace hm := Option.some.inj hm
                    subst hm
                    exact hret d_Table_make_124 (by decide) (u := (c_symbols, c_counts, c_offsets)) ⟨rfl, rfl⟩ hP hD hS
            refine lv_iload_n hx hb d_Table_make_81 rfl (lv_at hl 3 rfl) ?_
            refine lv_aload_n hx hb d_Table_make_82 rfl (lv_at hl 0 rfl) ?_
            refine va_get (D := E.1) (ci := 8) (v := .ref a_counts) (C := R_Table) (T := F_Table) (N := 3) hx hb hts i_Table hown hK hP 0 rfl rfl 0 (by decide) (hts _ tw_322) (fun _ h9 => h9) rfl d_Table_make_83 ?_
            refine lv_iconst (v := 0) hx hb d_Table_make_86 (by decide) ?_
            obtain ⟨hi87, hm⟩ := mG_e hm
            refine va_iald hx hb hK hP 3 0 rfl rfl hi87 d_Table_make_87 ?_
            refine lv_isub hx hb d_Table_make_88 ?_
            refine lv_topi (fun y5_6 ey5_6 => ?_)
            replace hm := mL_e hm y5_6 ey5_6
            refine lv_istore (lv' := [(5, .int y5_6), (0, .ref a_this), (1, .ref a_p1), (2, .int x2), (3, .int x3), (4, .int x4)]) hx hb d_Table_make_89 hl (by decide) rfl (fun ls hl => ?_)
            refine lv_iconst (v := 1) hx hb d_Table_make_91 (by decide) ?_
            refine lv_istore (lv' := [(6, .int 1), (5, .int y5_6), (0, .ref a_this), (1, .ref a_p1), (2, .int x2), (3, .int x3), (4, .int x4)]) hx hb d_Table_make_92 hl (by decide) rfl (fun ls hl => ?_)
            refine lv_iconst (v := 1) hx hb d_Table_make_94 (by decide) ?_
            refine lv_istore (lv' := [(7, .int 1), (6, .int 1), (5, .int y5_6), (0, .ref a_this), (1, .ref a_p1), (2, .int x2), (3, .int x3), (4, .int x4)]) hx hb d_Table_make_95 hl (by decide) rfl (fun ls hl => ?_)
            exact h_97 F _ _ _ _ _ _ H locs ls hm hP hD hS (lv_sub hl [3, 4, 5, 6, 7, 2, 1, 0] rfl)
          have h_38 : ∀ (n_38 : Nat) (c_symbols : Nat → Int32) (c_counts : Nat → Int32) (c_offsets : Nat → Int32) (x5 : Int32) (H : Heap) (locs : List Loc) (ls : Array Slot), (mW4 (Table_make_38 F n_p1 c_p1 x2 x3 (Table_make_81 F n_symbols n_p1 c_p1 x2 x3 x4)) n_38) c_symbols c_counts c_offsets x5 = some res → va_P E.1 vwCl (Table_make_w E a_this a_symbols a_p1 a_counts a_offsets n_symbols n_p1 c_p1 c_symbols c_counts c_offsets) H → va_D A (Table_make_w E a_this a_symbols a_p1 a_counts a_offsets n_symbols n_p1 c_p1 c_symbols c_counts c_offsets) → va_S A s.heap H locs → lv_has ls 8 [(0, .ref a_this), (1, .ref a_p1), (2, .int x2), (3, .int x3), (4, .int x4), (5, .int x5)] → W p l e Table_make_rm s m args below meth c H locs 0 0 Q (F0 m 38 ls []) := by
            intro n_38
            induction n_38 with
            | zero => exact fun _ _ _ _ _ _ _ hm _ _ _ _ => (mW4_z hm).elim
            | succ n_38 ih_38 =>
              intro c_symbols c_counts c_offsets x5 H locs ls hm hP hD hS hl
              replace hm := mW4_s hm
              rw [Table_make_38] at hm
              refine lv_iload hx hb d_Table_make_38 (lv_at hl 5 rfl) ?_
              refine lv_iload_n hx hb d_Table_make_40 rfl (lv_at hl 3 rfl) ?_
              refine lv_icmp_ge (tgt := 81) hx hb d_Table_make_41 (by decide) (fun c41 => ?_) (fun c41 => ?_)
              · replace hm := mC_t hm c41
                exact h_81 _ _ _ H locs ls hm hP hD hS (lv_sub hl [0, 1, 2, 3, 4] rfl)
              · replace hm := mC_f hm c41
                have h_75 : ∀ (c_symbols : Nat → Int32) (c_counts : Nat → Int32) (c_offsets : Nat → Int32) (x5 : Int32) (H : Heap) (locs : List Loc) (ls : Array Slot), (Table_make_75 F (mW4 (Table_make_38 F n_p1 c_p1 x2 x3 (Table_make_81 F n_symbols n_p1 c_p1 x2 x3 x4)) n_38)) c_symbols c_counts c_offsets x5 = some res → va_P E.1 vwCl (Table_make_w E a_this a_symbols a_p1 a_counts a_offsets n_symbols n_p1 c_p1 c_symbols c_counts c_offsets) H → va_D A (Table_make_w E a_this a_symbols a_p1 a_counts a_offsets n_symbols n_p1 c_p1 c_symbols c_counts c_offsets) → va_S A s.heap H locs → lv_has ls 8 [(0, .ref a_this), (1, .ref a_p1), (2, .int x2), (3, .int x3), (4, .int x4), (5, .int x5)] → W p l e Table_make_rm s m args below meth c H locs 0 0 Q (F0 m 75 ls []) := by
                  intro c_symbols c_counts c_offsets x5 H locs ls hm hP hD hS hl
                  rw [Table_make_75] at hm
                  obtain ⟨y5_7, ey5_7⟩ : ∃ y : Int32, y = x5 + 1 := ⟨_, rfl⟩
                  replace hm := mL_e hm y5_7 ey5_7
                  refine lv_iinc (v := y5_7) (lv' := [(5, .int y5_7), (0, .ref a_this), (1, .ref a_p1), (2, .int x2), (3, .int x3), (4, .int x4)]) hx hb d_Table_make_75 hl (k := 5) rfl (by rw [ey5_7]; rfl) (by decide) rfl (fun ls hl => ?_)
                  refine lv_goto (tgt := 38) hx hb d_Table_make_78 (by decide) ?_
                  exact ih_38 _ _ _ _ H locs ls hm hP hD hS (lv_sub hl [1, 2, 3, 4, 5, 0] rfl)
                refine lv_aload_n hx hb d_Table_make_44 rfl (lv_at hl 1 rfl) ?_
                refine lv_iload_n hx hb d_Table_make_45 rfl (lv_at hl 2 rfl) ?_
                refine lv_iload hx hb d_Table_make_46 (lv_at hl 5 rfl) ?_
                refine lv_iadd hx hb d_Table_make_48 ?_
                refine lv_topi (fun i_8 ei_8 => ?_)
                replace hm := mL_e hm i_8 ei_8
                obtain ⟨hi49, hm⟩ := mG_e hm
                refine va_iald hx hb hK hP 2 0 rfl rfl hi49 d_Table_make_49 ?_
                refine lv_topi (fun y6_9 ey6_9 => ?_)
                replace hm := mL_e hm y6_9 ey6_9
                refine lv_istore (lv' := [(6, .int y6_9), (0, .ref a_this), (1, .ref a_p1), (2, .int x2), (3, .int x3), (4, .int x4), (5, .int x5)]) hx hb d_Table_make_50 hl (by decide) rfl (fun ls hl => ?_)
                refine lv_iload hx hb d_Table_make_52 (lv_at hl 0 rfl) ?_
                refine lv_if_lt (tgt := 75) hx hb d_Table_make_54 (by decide) (fun c54 => ?_) (fun c54 => ?_)
                · replace hm := mC_t hm c54
                  exact h_75 _ _ _ _ H locs ls hm hP hD hS (lv_sub hl [1, 2, 3, 4, 5, 6] rfl)
                · replace hm := mC_f hm c54
                  refine lv_iload hx hb d_Table_make_57 (lv_at hl 0 rfl) ?_
                  refine lv_bipush (v := 15) hx hb d_Table_make_59 (by decide) ?_
                  refine lv_icmp_gt (tgt := 75) hx hb d_Table_make_61 (by decide) (fun c61 => ?_) (fun c61 => ?_)
                  · replace hm := mC_t hm c61
                    exact h_75 _ _ _ _ H locs ls hm hP hD hS (lv_sub hl [1, 2, 3, 4, 5, 6] rfl)
                  · replace hm := mC_f hm c61
                    refine lv_aload_n hx hb d_Table_make_64 rfl (lv_at hl 1 rfl) ?_
                    refine va_get (D := E.1) (ci := 8) (v := .ref a_counts) (C := R_Table) (T := F_Table) (N := 3) hx hb hts i_Table hown hK hP 0 rfl rfl 0 (by decide) (hts _ tw_322) (fun _ h9 => h9) rfl d_Table_make_65 ?_
                    refine lv_iload hx hb d_Table_make_68 (lv_at hl 0 rfl) ?_
                    refine lv_dup2_11 hx hb d_Table_make_70 rfl rfl ?_
                    obtain ⟨hi71, hm⟩ := mG_e hm
                    refine va_iald hx hb hK hP 3 0 rfl rfl hi71 d_Table_make_71 ?_
                    refine lv_iconst (v := 1) hx hb d_Table_make_72 (by decide) ?_
                    refine lv_iadd hx hb d_Table_make_73 ?_
                    refine lv_topi (fun v_10 ev_10 => ?_)
                    replace hm := mL_e hm v_10 ev_10
                    obtain ⟨hi74, hm⟩ := mG_e hm
                    obtain ⟨c_11, ec_11⟩ : ∃ z : Nat → Int32, z = upd c_counts y6_9.toNatClampNeg v_10 := ⟨_, rfl⟩
                    replace hm := mL_e hm c_11 ec_11
                    refine va_iast hx hb hK hP hD hS 3 0 rfl rfl hi74 d_Table_make_74 (fun H locs hP hD hS => ?_)
                    rw [← ec_11] at hP hD
                    replace hP : va_P E.1 vwCl (Table_make_w E a_this a_symbols a_p1 a_counts a_offsets n_symbols n_p1 c_p1 c_symbols c_11 c_offsets) H := hP
                    replace hD : va_D A (Table_make_w E a_this a_symbols a_p1 a_counts a_offsets n_symbols n_p1 c_p1 c_symbols c_11 c_offsets) := hD
                    exact h_75 _ _ _ _ H locs ls hm hP hD hS (lv_sub hl [1, 2, 3, 4, 5, 6] rfl)
          refine lv_aload_n hx hb d_Table_make_27 rfl (lv_at hl 0 rfl) ?_
          refine va_get (D := E.1) (ci := 8) (v := .ref a_counts) (C := R_Table) (T := F_Table) (N := 3) hx hb hts i_Table hown hK hP 0 rfl rfl 0 (by decide) (hts _ tw_322) (fun _ h9 => h9) rfl d_Table_make_28 ?_
          refine lv_iconst (v := 0) hx hb d_Table_make_31 (by decide) ?_
          obtain ⟨r_13, c_p0_12, hc32, hm⟩ := mR1_e hm
          refine xmv (wc := (Arr_fill_w E a_counts 16 c_counts)) [false, false, false, true, false] [0] [0] hP hD hS hA rfl (by decide) (by decide) 1 (by decide) (fun _ => rfl) (fun hPc hDc hFc => va_runS (As := [.ref a_counts, .int 0]) (rest := []) ⟨hx, hb, hml, hown, hts⟩ (c_Arr_fill l E F H.size a_counts 16 c_counts 0 (r_13, c_p0_12) hc32) (va_cwS 2 hts (x_gS tw_337 tw_239 tw_75 tw_240) rfl rfl rfl (by decide +kernel) ⟨Nat.le_of_ble_eq_true rfl, Nat.le_of_ble_eq_true rfl⟩) (xPS hPc hDc hFc hK hI hN hS) rfl rfl hl.1 rfl (lv_room (Nat.le_of_ble_eq_true rfl)) d_Table_make_32 ⟨Nat.le_of_ble_eq_true rfl, Nat.le_of_ble_eq_true rfl⟩) (fun u9 H locs hw hP hD hS => ?_)
          have hw2 : c_p0_12 = u9 := hw.symm
          subst hw2
          replace hP : va_P E.1 vwCl (Table_make_w E a_this a_symbols a_p1 a_counts a_offsets n_symbols n_p1 c_p1 c_symbols c_p0_12 c_offsets) H := hP
          replace hD : va_D A (Table_make_w E a_this a_symbols a_p1 a_counts a_offsets n_symbols n_p1 c_p1 c_symbols c_p0_12 c_offsets) := hD
          refine lv_iconst (v := 0) hx hb d_Table_make_35 (by decide) ?_
          refine lv_istore (lv' := [(5, .int 0), (0, .ref a_this), (1, .ref a_p1), (2, .int x2), (3, .int x3), (4, .int x4)]) hx hb d_Table_make_36 hl (by decide) rfl (fun ls hl => ?_)
          exact h_38 F _ _ _ _ H locs ls hm hP hD hS (lv_sub hl [1, 2, 3, 4, 5, 0] rfl)
        · replace hm := mC_f hm c22
          refine lv_iconst (v := 0) hx hb d_Table_make_25 (by decide) ?_
          replace hm := Option.some.inj hm
          subst hm
          exact hret d_Table_make_26 (by decide) (u := (c_symbols, c_counts, c_offsets)) ⟨rfl, rfl⟩ hP hD hS
theorem d_Table_next_0 : decode b_Table_next 0 = .ok (.iconst 0, 1) := by decide +kernel
theorem d_Table_next_1 : decode b_Table_next 1 = .ok (.istore_n 2, 1) := by decide +kernel
theorem d_Table_next_2 : decode b_Table_next 2 = .ok (.iconst 0, 1) := by decide +kernel
theorem d_Table_next_3 : decode b_Table_next 3 = .ok (.istore_n 3, 1) := by decide +kernel
theorem d_Table_next_4 : decode b_Table_next 4 = .ok (.iconst 0, 1) := by decide +kernel
theorem d_Table_next_5 : decode b_Table_next 5 = .ok (.istore 4, 2) := by decide +kernel
theorem d_Table_next_7 : decode b_Table_next 7 = .ok (.iconst 1, 1) := by decide +kernel
theorem d_Table_next_8 : decode b_Table_next 8 = .ok (.istore 5, 2) := by decide +kernel
theorem d_Table_next_10 : decode b_Table_next 10 = .ok (.iload 5, 2) := by decide +kernel
theorem d_Table_next_12 : decode b_Table_next 12 = .ok (.bipush 15, 2) := by decide +kernel
theorem d_Table_next_14 : decode b_Table_next 14 = .ok (.if_icmp .gt 102, 3) := by decide +kernel
theorem d_Table_next_17 : decode b_Table_next 17 = .ok (.aload_n 1, 1) := by decide +kernel
theorem d_Table_next_18 : decode b_Table_next 18 = .ok (.iconst 1, 1) := by decide +kernel
theorem d_Table_next_19 : decode b_Table_next 19 = .ok (.invokevirtual 37, 3) := by decide +kernel
theorem d_Table_next_22 : decode b_Table_next 22 = .ok (.istore 6, 2) := by decide +kernel
theorem d_Table_next_24 : decode b_Table_next 24 = .ok (.iload 6, 2) := by decide +kernel
theorem d_Table_next_26 : decode b_Table_next 26 = .ok (.ifCond .ge 5, 3) := by decide +kernel
theorem d_Table_next_29 : decode b_Table_next 29 = .ok (.iconst (-1), 1) := by decide +kernel
theorem d_Table_next_30 : decode b_Table_next 30 = .ok (.ireturn, 1) := by decide +kernel
theorem d_Table_next_31 : decode b_Table_next 31 = .ok (.iload_n 2, 1) := by decide +kernel
theorem d_Table_next_32 : decode b_Table_next 32 = .ok (.iconst 1, 1) := by decide +kernel
theorem d_Table_next_33 : decode b_Table_next 33 = .ok (.ishl, 1) := by decide +kernel
theorem d_Table_next_34 : decode b_Table_next 34 = .ok (.iload 6, 2) := by decide +kernel
theorem d_Table_next_36 : decode b_Table_next 36 = .ok (.ior, 1) := by decide +kernel
theorem d_Table_next_37 : decode b_Table_next 37 = .ok (.istore_n 2, 1) := by decide +kernel
theorem d_Table_next_38 : decode b_Table_next 38 = .ok (.iload 4, 2) := by decide +kernel
theorem d_Table_next_40 : decode b_Table_next 40 = .ok (.iload_n 2, 1) := by decide +kernel
theorem d_Table_next_41 : decode b_Table_next 41 = .ok (.iadd, 1) := by decide +kernel
theorem d_Table_next_42 : decode b_Table_next 42 = .ok (.iload_n 3, 1) := by decide +kernel
theorem d_Table_next_43 : decode b_Table_next 43 = .ok (.isub, 1) := by decide +kernel
theorem d_Table_next_44 : decode b_Table_next 44 = .ok (.istore 7, 2) := by decide +kernel
theorem d_Table_next_46 : decode b_Table_next 46 = .ok (.iload_n 2, 1) := by decide +kernel
theorem d_Table_next_47 : decode b_Table_next 47 = .ok (.iload_n 3, 1) := by decide +kernel
theorem d_Table_next_48 : decode b_Table_next 48 = .ok (.isub, 1) := by decide +kernel
theorem d_Table_next_49 : decode b_Table_next 49 = .ok (.aload_n 0, 1) := by decide +kernel
theorem d_Table_next_50 : decode b_Table_next 50 = .ok (.getfield 9, 3) := by decide +kernel
theorem d_Table_next_53 : decode b_Table_next 53 = .ok (.iload 5, 2) := by decide +kernel
theorem d_Table_next_55 : decode b_Table_next 55 = .ok (.iaload, 1) := by decide +kernel
theorem d_Table_next_56 : decode b_Table_next 56 = .ok (.if_icmp .ge 30, 3) := by decide +kernel
theorem d_Table_next_59 : decode b_Table_next 59 = .ok (.iload 7, 2) := by decide +kernel
theorem d_Table_next_61 : decode b_Table_next 61 = .ok (.ifCond .lt 23, 3) := by decide +kernel
theorem d_Table_next_64 : decode b_Table_next 64 = .ok (.iload 7, 2) := by decide +kernel
theorem d_Table_next_66 : decode b_Table_next 66 = .ok (.aload_n 0, 1) := by decide +kernel
theorem d_Table_next_67 : decode b_Table_next 67 = .ok (.getfield 24, 3) := by decide +kernel
theorem d_Table_next_70 : decode b_Table_next 70 = .ok (.arraylength, 1) := by decide +kernel
theorem d_Table_next_71 : decode b_Table_next 71 = .ok (.if_icmp .ge 13, 3) := by decide +kernel
theorem d_Table_next_74 : decode b_Table_next 74 = .ok (.aload_n 0, 1) := by decide +kernel
theorem d_Table_next_75 : decode b_Table_next 75 = .ok (.getfield 24, 3) := by decide +kernel
theorem d_Table_next_78 : decode b_Table_next 78 = .ok (.iload 7, 2) := by decide +kernel
theorem d_Table_next_80 : decode b_Table_next 80 = .ok (.iaload, 1) := by decide +kernel
theorem d_Table_next_81 : decode b_Table_next 81 = .ok (.goto 4, 3) := by decide +kernel
theorem d_Table_next_84 : decode b_Table_next 84 = .ok (.iconst (-1), 1) := by decide +kernel
theorem d_Table_next_85 : decode b_Table_next 85 = .ok (.ireturn, 1) := by decide +kernel
theorem d_Table_next_86 : decode b_Table_next 86 = .ok (.iload 4, 2) := by decide +kernel
theorem d_Table_next_88 : decode b_Table_next 88 = .ok (.aload_n 0, 1) := by decide +kernel
theorem d_Table_next_89 : decode b_Table_next 89 = .ok (.getfield 9, 3) := by decide +kernel
theorem d_Table_next_92 : decode b_Table_next 92 = .ok (.iload 5, 2) := by decide +kernel
theorem d_Table_next_94 : decode b_Table_next 94 = .ok (.iaload, 1) := by decide +kernel
theorem d_Table_next_95 : decode b_Table_next 95 = .ok (.iadd, 1) := by decide +kernel
theorem d_Table_next_96 : decode b_Table_next 96 = .ok (.istore 4, 2) := by decide +kernel
theorem d_Table_next_98 : decode b_Table_next 98 = .ok (.iload_n 3, 1) := by decide +kernel
theorem d_Table_next_99 : decode b_Table_next 99 = .ok (.aload_n 0, 1) := by decide +kernel
theorem d_Table_next_100 : decode b_Table_next 100 = .ok (.getfield 9, 3) := by decide +kernel
theorem d_Table_next_103 : decode b_Table_next 103 = .ok (.iload 5, 2) := by decide +kernel
theorem d_Table_next_105 : decode b_Table_next 105 = .ok (.iaload, 1) := by decide +kernel
theorem d_Table_next_106 : decode b_Table_next 106 = .ok (.iadd, 1) := by decide +kernel
theorem d_Table_next_107 : decode b_Table_next 107 = .ok (.iconst 1, 1) := by decide +kernel
theorem d_Table_next_108 : decode b_Table_next 108 = .ok (.ishl, 1) := by decide +kernel
theorem d_Table_next_109 : decode b_Table_next 109 = .ok (.istore_n 3, 1) := by decide +kernel
theorem d_Table_next_110 : decode b_Table_next 110 = .ok (.iinc 5 1, 3) := by decide +kernel
theorem d_Table_next_113 : decode b_Table_next 113 = .ok (.goto (-103), 3) := by decide +kernel
theorem d_Table_next_116 : decode b_Table_next 116 = .ok (.iconst (-1), 1) := by decide +kernel
theorem d_Table_next_117 : decode b_Table_next 117 = .ok (.ireturn, 1) := by decide +kernel
def Table_next_59 (F : Nat) (n_symbols : Nat) (c_symbols : Nat → Int32) (v_p1_at : Int32) (x7 : Int32) : Option (Int32 × Int32) :=
  mC (x7 < 0) (some ((-1), v_p1_at)) (mC ((nI n_symbols) ≤ x7) (some ((-1), v_p1_at)) (mG x7 n_symbols (some (c_symbols x7.toNatClampNeg, v_p1_at))))
def Table_next_10 (F : Nat) (n_p1_row_data : Nat) (v_p1_end : Int32) (v_p1_row_length : Int32) (c_p1_row_data : Nat → Int32) (c_counts : Nat → Int32) (k_59 : Int32 → Int32 → Option (Int32 × Int32)) (k_10 : Int32 → Int32 → Int32 → Int32 → Int32 → Option (Int32 × Int32)) (v_p1_at : Int32) (x2 : Int32) (x3 : Int32) (x4 : Int32) (x5 : Int32) : Option (Int32 × Int32) :=
  mC (15 < x5) (some ((-1), v_p1_at)) (mR1 (BitReader_number F n_p1_row_data v_p1_end v_p1_row_length c_p1_row_data v_p1_at 1) fun r_2 v_at_1 => mC (0 ≤ r_2) (mL ((x2 <<< ((1 : Int32) &&& 31)) ||| r_2) fun y2_3 => mL ((x4 + y2_3) - x3) fun y7_4 => mG x5 16 (mC ((c_counts x5.toNatClampNeg) ≤ (y2_3 - x3)) (mG x5 16 (mL (x4 + (c_counts x5.toNatClampNeg)) fun y4_5 => mG x5 16 (mL ((x3 + (c_counts x5.toNatClampNeg)) <<< ((1 : Int32) &&& 31)) fun y3_6 => mL (x5 + 1) fun y5_7 => k_10 v_at_1 y2_3 y3_6 y4_5 y5_7))) (k_59 v_at_1 y7_4))) (some ((-1), v_at_1)))
abbrev Table_next_w (E : xE) (a_p1 : Nat) (a_p1_row : Nat) (a_p1_row_data : Nat) (a_this : Nat) (a_counts : Nat) (a_symbols : Nat) (n_p1_row_data : Nat) (n_symbols : Nat) (x_offsets : Value) (v_p1_end : Int32) (v_p1_row_length : Int32) (c_p1_row_data : Nat → Int32) (c_counts : Nat → Int32) (c_symbols : Nat → Int32) (v_p1_at : Int32) : va_W := [(a_p1, .inr (0, [.ref a_p1_row, .int v_p1_at, .int v_p1_end])), (a_p1_row, .inr (2, [.ref a_p1_row_data, .int v_p1_row_length])), (a_p1_row_data, .inl (E.2.2.1, n_p1_row_data, .inl c_p1_row_data)), (a_this, .inr (8, [.ref a_counts, x_offsets, .ref a_symbols])), (a_counts, .inl (E.2.1, 16, .inl c_counts)), (a_symbols, .inl (E.2.1, n_symbols, .inl c_symbols))]
def Table_next (F : Nat) (n_p1_row_data : Nat) (n_symbols : Nat) (v_p1_end : Int32) (v_p1_row_length : Int32) (c_p1_row_data : Nat → Int32) (c_counts : Nat → Int32) (c_symbols : Nat → Int32) (v_p1_at : Int32) : Option (Int32 × Int32) :=
  (mW5 (Table_next_10 F n_p1_row_data v_p1_end v_p1_row_length c_p1_row_data c_counts (Table_next_59 F n_symbols c_symbols)) F) v_p1_at 0 0 0 1
abbrev Table_next_rm : Room := { frames := 2, cells := 0, slots := 0, locals := 44 }
set_option maxHeartbeats 4000000 in
set_option maxRecDepth 100000 in
theorem c_Table_next (l : Launch) (E : xE) (F sz : Nat) (a_p1 : Nat) (a_p1_row : Nat) (a_p1_row_data : Nat) (a_this : Nat) (a_counts : Nat) (a_symbols : Nat) (n_p1_row_data : Nat) (n_symbols : Nat) (x_offsets : Value) (v_p1_end : Int32) (v_p1_row_length : Int32) (c_p1_row_data : Nat → Int32) (c_counts : Nat → Int32) (c_symbols : Nat → Int32) (v_p1_at : Int32) (res : Int32 × Int32) (hm : Table_next F n_p1_row_data n_symbols v_p1_end v_p1_row_length c_p1_row_data c_counts c_symbols v_p1_at = some res) : Met l y_Table_next (Cond.code y_Table_next b_Table_next 8 (some .int) :: x_tb) Table_next_rm (va_Pc [.ref a_this, .ref a_p1] (xPre E (Table_next_w E a_p1 a_p1_row a_p1_row_data a_this a_counts a_symbols n_p1_row_data n_symbols x_offsets v_p1_end v_p1_row_length c_p1_row_data c_counts c_symbols v_p1_at) sz)) (xQi E (fun (r : Int32) (u : Int32) => r = res.1 ∧ u = res.2) (fun (u : Int32) => (Table_next_w E a_p1 a_p1_row a_p1_row_data a_this a_counts a_symbols n_p1_row_data n_symbols x_offsets v_p1_end v_p1_row_length c_p1_row_data c_counts c_symbols u)) (va_A (Table_next_w E a_p1 a_p1_row a_p1_row_data a_this a_counts a_symbols n_p1_row_data n_symbols x_offsets v_p1_end v_p1_row_length c_p1_row_data c_counts c_symbols v_p1_at) sz)) 0 0 (va_A (Table_next_w E a_p1 a_p1_row a_p1_row_data a_this a_counts a_symbols n_p1_row_data n_symbols x_offsets v_p1_end v_p1_row_length c_p1_row_data c_counts c_symbols v_p1_at) sz) := by
  refine xEnI (by decide) (Nat.le_of_ble_eq_true rfl) ?_
  intro p e s m args below meth c A ls Q hx hb hnm hts hown hml hK hA hI hN hret hP hD hS hl
  replace hown : s.vm.findClass R_Table = some m.cls := hown
  replace hl : lv_has ls 8 [(0, .ref a_this), (1, .ref a_p1)] := hl
  obtain ⟨H, eH⟩ : ∃ z, z = s.heap := ⟨_, rfl⟩
  obtain ⟨locs, eL⟩ : ∃ z : List Loc, z = [] := ⟨_, rfl⟩
  rw [show W p l e Table_next_rm s m args below meth c s.heap [] 0 0 Q (F0 m 0 ls []) = W p l e Table_next_rm s m args below meth c H locs 0 0 Q (F0 m 0 ls []) by rw [eH, eL]]
  replace hP : va_P E.1 vwCl (Table_next_w E a_p1 a_p1_row a_p1_row_data a_this a_counts a_symbols n_p1_row_data n_symbols x_offsets v_p1_end v_p1_row_length c_p1_row_data c_counts c_symbols v_p1_at) H := by rw [eH]; exact hP
  replace hS : va_S A s.heap H locs := by rw [eH, eL]; exact hS
  clear eH eL
  rw [Table_next] at hm
  have h_59 : ∀ (v_p1_at : Int32) (x7 : Int32) (H : Heap) (locs : List Loc) (ls : Array Slot), (Table_next_59 F n_symbols c_symbols) v_p1_at x7 = some res → va_P E.1 vwCl (Table_next_w E a_p1 a_p1_row a_p1_row_data a_this a_counts a_symbols n_p1_row_data n_symbols x_offsets v_p1_end v_p1_row_length c_p1_row_data c_counts c_symbols v_p1_at) H → va_D A (Table_next_w E a_p1 a_p1_row a_p1_row_data a_this a_counts a_symbols n_p1_row_data n_symbols x_offsets v_p1_end v_p1_row_length c_p1_row_data c_counts c_symbols v_p1_at) → va_S A s.heap H locs → lv_has ls 8 [(0, .ref a_this), (7, .int x7)] → W p l e Table_next_rm s m args below meth c H locs 0 0 Q (F0 m 59 ls []) := by
    intro v_p1_at x7 H locs ls hm hP hD hS hl
    rw [Table_next_59] at hm
    refine lv_iload hx hb d_Table_next_59 (lv_at hl 1 rfl) ?_
    refine lv_if_lt (tgt := 84) hx hb d_Table_next_61 (by decide) (fun c61 => ?_) (fun c61 => ?_)
    · replace hm := mC_t hm c61
      refine lv_iconst (v := (-1)) hx hb d_Table_next_84 (by decide) ?_
      replace hm := Option.some.inj hm
      subst hm
      exact hret d_Table_next_85 (u := v_p1_at) ⟨rfl, rfl⟩ hP hD hS
    · replace hm := mC_f hm c61
      refine lv_iload hx hb d_Table_next_64 (lv_at hl 1 rfl) ?_
      refine lv_aload_n hx hb d_Table_next_66 rfl (lv_at hl 0 rfl) ?_
      refine va_get (D := E.1) (ci := 8) (v := .ref a_symbols) (C := R_Table) (T := F_Table) (N := 3) hx hb hts i_Table hown hK hP 3 rfl rfl 2 (by decide) (hts _ tw_324) (fun _ h9 => h9) rfl d_Table_next_67 ?_
      refine va_alen (v := nI n_symbols) hx hb hK hP 5 0 rfl rfl rfl d_Table_next_70 ?_
      refine lv_icmp_ge (tgt := 84) hx hb d_Table_next_71 (by decide) (fun c71 => ?_) (fun c71 => ?_)
      · replace hm := mC_t hm c71
        refine lv_iconst (v := (-1)) hx hb d_Table_next_84 (by decide) ?_
        replace hm := Option.some.inj hm
        subst hm
        exact hret d_Table_next_85 (u := v_p1_at) ⟨rfl, rfl⟩ hP hD hS
      · replace hm := mC_f hm c71
        refine lv_aload_n hx hb d_Table_next_74 rfl (lv_at hl 0 rfl) ?_
        refine va_get (D := E.1) (ci := 8) (v := .ref a_symbols) (C := R_Table) (T := F_Table) (N := 3) hx hb hts i_Table hown hK hP 3 rfl rfl 2 (by decide) (hts _ tw_324) (fun _ h9 => h9) rfl d_Table_next_75 ?_
        refine lv_iload hx hb d_Table_next_78 (lv_at hl 1 rfl) ?_
        obtain ⟨hi80, hm⟩ := mG_e hm
        refine va_iald hx hb hK hP 5 0 rfl rfl hi80 d_Table_next_80 ?_
        refine lv_goto (tgt := 85) hx hb d_Table_next_81 (by decide) ?_
        replace hm := Option.some.inj hm
        subst hm
        exact hret d_Table_next_85 (u := v_p1_at) ⟨rfl, rfl⟩ hP hD hS
  have h_10 : ∀ (n_10 : Nat) (v_p1_at : Int32) (x2 : Int32) (x3 : Int32) (x4 : Int32) (x5 : Int32) (H : Heap) (locs : List Loc) (ls : Array Slot), (mW5 (Table_next_10 F n_p1_row_data v_p1_end v_p1_row_length c_p1_row_data c_counts (Table_next_59 F n_symbols c_symbols)) n_10) v_p1_at x2 x3 x4 x5 = some res → va_P E.1 vwCl (Table_next_w E a_p1 a_p1_row a_p1_row_data a_this a_counts a_symbols n_p1_row_data n_symbols x_offsets v_p1_end v_p1_row_length c_p1_row_data c_counts c_symbols v_p1_at) H → va_D A (Table_next_w E a_p1 a_p1_row a_p1_row_data a_this a_counts a_symbols n_p1_row_data n_symbols x_offsets v_p1_end v_p1_row_length c_p1_row_data c_counts c_symbols v_p1_at) → va_S A s.heap H locs → lv_has ls 8 [(0, .ref a_this), (1, .ref a_p1), (2, .int x2), (3, .int x3), (4, .int x4), (5, .int x5)] → W p l e Table_next_rm s m args below meth c H locs 0 0 Q (F0 m 10 ls []) := by
    intro n_10
    induction n_10 with
    | zero => exact fun _ _ _ _ _ _ _ _ hm _ _ _ _ => (mW5_z hm).elim
    | succ n_10 ih_10 =>
      intro v_p1_at x2 x3 x4 x5 H locs ls hm hP hD hS hl
      replace hm := mW5_s hm
      rw [Table_next_10] at hm
      refine lv_iload hx hb d_Table_next_10 (lv_at hl 5 rfl) ?_
      refine lv_bipush (v := 15) hx hb d_Table_next_12 (by decide) ?_
      refine lv_icmp_gt (tgt := 116) hx hb d_Table_next_14 (by decide) (fun c14 => ?_) (fun c14 => ?_)
      · replace hm := mC_t hm c14
        refine lv_iconst (v := (-1)) hx hb d_Table_next_116 (by decide) ?_
        replace hm := Option.some.inj hm
        subst hm
        exact hret d_Table_next_117 (u := v_p1_at) ⟨rfl, rfl⟩ hP hD hS
      · replace hm := mC_f hm c14
        refine lv_aload_n hx hb d_Table_next_17 rfl (lv_at hl 1 rfl) ?_
        refine lv_iconst (v := 1) hx hb d_Table_next_18 (by decide) ?_
        obtain ⟨r_2, v_at_1, hc19, hm⟩ := mR1_e hm
        refine xmi (wc := (BitReader_number_w E a_p1 a_p1_row a_p1_row_data n_p1_row_data v_p1_end v_p1_row_length c_p1_row_data v_p1_at)) [true, true, true, false, false, false] [0, 1, 2] [0, 1, 2] hP hD hS hA rfl (by decide) (by decide) 3 (by decide) (fun _ => rfl) (fun hPc hDc hFc => va_runV (As := [.int 1]) (rest := []) ⟨hx, hb, hml, hown, hts⟩ (c_BitReader_number l E F H.size a_p1 a_p1_row a_p1_row_data n_p1_row_data v_p1_end v_p1_row_length c_p1_row_data v_p1_at 1 (r_2, v_at_1) hc19) (cwV 1 hts (x_gV tw_738 tw_707 tw_708 tw_77 tw_709) rfl rfl rfl (by decide +kernel) ⟨Nat.le_of_ble_eq_true rfl, Nat.le_of_ble_eq_true rfl⟩) (xPV 0 0 rfl rfl hPc hDc hFc hK hI hN hS) rfl rfl hl.1 rfl (lv_room (Nat.le_of_ble_eq_true rfl)) d_Table_next_19 ⟨Nat.le_of_ble_eq_true rfl, Nat.le_of_ble_eq_true rfl⟩) (fun r9 u9 H locs hw hP hD hS => ?_)
        have hw1 : r_2 = r9 := hw.1.symm
        subst hw1
        have hw2 : v_at_1 = u9 := hw.2.symm
        subst hw2
        replace hP : va_P E.1 vwCl (Table_next_w E a_p1 a_p1_row a_p1_row_data a_this a_counts a_symbols n_p1_row_data n_symbols x_offsets v_p1_end v_p1_row_length c_p1_row_data c_counts c_symbols v_at_1) H := hP
        replace hD : va_D A (Table_next_w E a_p1 a_p1_row a_p1_row_data a_this a_counts a_symbols n_p1_row_data n_symbols x_offsets v_p1_end v_p1_row_length c_p1_row_data c_counts c_symbols v_at_1) := hD
        refine lv_istore (lv' := [(6, .int r_2), (0, .ref a_this), (1, .ref a_p1), (2, .int x2), (3, .int x3), (4, .int x4), (5, .int x5)]) hx hb d_Table_next_22 hl (by decide) rfl (fun ls hl => ?_)
        refine lv_iload hx hb d_Table_next_24 (lv_at hl 0 rfl) ?_
        refine lv_if_ge (tgt := 31) hx hb d_Table_next_26 (by decide) (fun c26 => ?_) (fun c26 => ?_)
        · replace hm := mC_t hm c26
          refine lv_iload_n hx hb d_Table_next_31 rfl (lv_at hl 3 rfl) ?_
          refine lv_iconst (v := 1) hx hb d_Table_next_32 (by decide) ?_
          refine lv_ishl hx hb d_Table_next_33 ?_
          refine lv_iload hx hb d_Table_next_34 (lv_at hl 0 rfl) ?_
          refine lv_ior hx hb d_Table_next_36 ?_
          refine lv_topi (fun y2_3 ey2_3 => ?_)
          replace hm := mL_e hm y2_3 ey2_3
          refine lv_istore_n (lv' := [(2, .int y2_3), (6, .int r_2), (0, .ref a_this), (1, .ref a_p1), (3, .int x3), (4, .int x4), (5, .int x5)]) hx hb d_Table_next_37 rfl hl (by decide) rfl (fun ls hl => ?_)
          refine lv_iload hx hb d_Table_next_38 (lv_at hl 5 rfl) ?_
          refine lv_iload_n hx hb d_Table_next_40 rfl (lv_at hl 0 rfl) ?_
          refine lv_iadd hx hb d_Table_next_41 ?_
          refine lv_iload_n hx hb d_Table_next_42 rfl (lv_at hl 4 rfl) ?_
          refine lv_isub hx hb d_Table_next_43 ?_
          refine lv_topi (fun y7_4 ey7_4 => ?_)
          replace hm := mL_e hm y7_4 ey7_4
          refine lv_istore (lv' := [(7, .int y7_4), (2, .int y2_3), (6, .int r_2), (0, .ref a_this), (1, .ref a_p1), (3, .int x3), (4, .int x4), (5, .int x5)]) hx hb d_Table_next_44 hl (by decide) rfl (fun ls hl => ?_)
          refine lv_iload_n hx hb d_Table_next_46 rfl (lv_at hl 1 rfl) ?_
          refine lv_iload_n hx hb d_Table_next_47 rfl (lv_at hl 5 rfl) ?_
          refine lv_isub hx hb d_Table_next_48 ?_
          refine lv_aload_n hx hb d_Table_next_49 rfl (lv_at hl 3 rfl) ?_
          refine va_get (D := E.1) (ci := 8) (v := .ref a_counts) (C := R_Table) (T := F_Table) (N := 3) hx hb hts i_Table hown hK hP 3 rfl rfl 0 (by decide) (hts _ tw_322) (fun _ h9 => h9) rfl d_Table_next_50 ?_
          refine lv_iload hx hb d_Table_next_53 (lv_at hl 7 rfl) ?_
          obtain ⟨hi55, hm⟩ := mG_e hm
          refine va_iald hx hb hK hP 4 0 rfl rfl hi55 d_Table_next_55 ?_
          refine lv_icmp_ge (tgt := 86) hx hb d_Table_next_56 (by decide) (fun c56 => ?_) (fun c56 => ?_)
          · replace hm := mC_t hm c56
            refine lv_iload hx hb d_Table_next_86 (lv_at hl 6 rfl) ?_
            refine lv_aload_n hx hb d_Table_next_88 rfl (lv_at hl 3 rfl) ?_
            refine va_get (D := E.1) (ci := 8) (v := .ref a_counts) (C := R_Table) (T := F_Table) (N := 3) hx hb hts i_Table hown hK hP 3 rfl rfl 0 (by decide) (hts _ tw_322) (fun _ h9 => h9) rfl d_Table_next_89 ?_
            refine lv_iload hx hb d_Table_next_92 (lv_at hl 7 rfl) ?_
            obtain ⟨hi94, hm⟩ := mG_e hm
            refine va_iald hx hb hK hP 4 0 rfl rfl hi94 d_Table_next_94 ?_
            refine lv_iadd hx hb d_Table_next_95 ?_
            refine lv_topi (fun y4_5 ey4_5 => ?_)
            replace hm := mL_e hm y4_5 ey4_5
            refine lv_istore (lv' := [(4, .int y4_5), (7, .int y7_4), (2, .int y2_3), (6, .int r_2), (0, .ref a_this), (1, .ref a_p1), (3, .int x3), (5, .int x5)]) hx hb d_Table_next_96 hl (by decide) rfl (fun ls hl => ?_)
            refine lv_iload_n hx hb d_Table_next_98 rfl (lv_at hl 6 rfl) ?_
            refine lv_aload_n hx hb d_Table_next_99 rfl (lv_at hl 4 rfl) ?_
            refine va_get (D := E.1) (ci := 8) (v := .ref a_counts) (C := R_Table) (T := F_Table) (N := 3) hx hb hts i_Table hown hK hP 3 rfl rfl 0 (by decide) (hts _ tw_322) (fun _ h9 => h9) rfl d_Table_next_100 ?_
            refine lv_iload hx hb d_Table_next_103 (lv_at hl 7 rfl) ?_
            obtain ⟨hi105, hm⟩ := mG_e hm
            refine va_iald hx hb hK hP 4 0 rfl rfl hi105 d_Table_next_105 ?_
            refine lv_iadd hx hb d_Table_next_106 ?_
            refine lv_iconst (v := 1) hx hb d_Table_next_107 (by decide) ?_
            refine lv_ishl hx hb d_Table_next_108 ?_
            refine lv_topi (fun y3_6 ey3_6 => ?_)
            replace hm := mL_e hm y3_6 ey3_6
            refine lv_istore_n (lv' := [(3, .int y3_6), (4, .int y4_5), (7, .int y7_4), (2, .int y2_3), (6, .int r_2), (0, .ref a_this), (1, .ref a_p1), (5, .int x5)]) hx hb d_Table_next_109 rfl hl (by decide) rfl (fun ls hl => ?_)
            obtain ⟨y5_7, ey5_7⟩ : ∃ y : Int32, y = x5 + 1 := ⟨_, rfl⟩
            replace hm := mL_e hm y5_7 ey5_7
            refine lv_iinc (v := y5_7) (lv' := [(5, .int y5_7), (3, .int y3_6), (4, .int y4_5), (7, .int y7_4), (2, .int y2_3), (6, .int r_2), (0, .ref a_this), (1, .ref a_p1)]) hx hb d_Table_next_110 hl (k := 7) rfl (by rw [ey5_7]; rfl) (by decide) rfl (fun ls hl => ?_)
            refine lv_goto (tgt := 10) hx hb d_Table_next_113 (by decide) ?_
            exact ih_10 _ _ _ _ _ H locs ls hm hP hD hS (lv_sub hl [6, 7, 4, 1, 2, 0] rfl)
          · replace hm := mC_f hm c56
            exact h_59 _ _ H locs ls hm hP hD hS (lv_sub hl [3, 0] rfl)
        · replace hm := mC_f hm c26
          refine lv_iconst (v := (-1)) hx hb d_Table_next_29 (by decide) ?_
          replace hm := Option.some.inj hm
          subst hm
          exact hret d_Table_next_30 (u := v_at_1) ⟨rfl, rfl⟩ hP hD hS
  refine lv_iconst (v := 0) hx hb d_Table_next_0 (by decide) ?_
  refine lv_istore_n (lv' := [(2, .int 0), (0, .ref a_this), (1, .ref a_p1)]) hx hb d_Table_next_1 rfl hl (by decide) rfl (fun ls hl => ?_)
  refine lv_iconst (v := 0) hx hb d_Table_next_2 (by decide) ?_
  refine lv_istore_n (lv' := [(3, .int 0), (2, .int 0), (0, .ref a_this), (1, .ref a_p1)]) hx hb d_Table_next_3 rfl hl (by decide) rfl (fun ls hl => ?_)
  refine lv_iconst (v := 0) hx hb d_Table_next_4 (by decide) ?_
  refine lv_istore (lv' := [(4, .int 0), (3, .int 0), (2, .int 0), (0, .ref a_this), (1, .ref a_p1)]) hx hb d_Table_next_5 hl (by decide) rfl (fun ls hl => ?_)
  refine lv_iconst (v := 1) hx hb d_Table_next_7 (by decide) ?_
  refine lv_istore (lv' := [(5, .int 1), (4, .int 0), (3, .int 0), (2, .int 0), (0, .ref a_this), (1, .ref a_p1)]) hx hb d_Table_next_8 hl (by decide) rfl (fun ls hl => ?_)
  exact h_10 F _ _ _ _ _ H locs ls hm hP hD hS (lv_sub hl [4, 5, 3, 2, 1, 0] rfl)
