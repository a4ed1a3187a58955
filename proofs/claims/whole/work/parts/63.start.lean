set_option maxRecDepth 100000 in
theorem x_nMin : ∀ q ∈ x_nM, Cond.methodLinkNest q.1 q.2.1 q.2.2.1 q.2.2.2 ∈ lw_tbl := List.forall_mem_cons.mpr ⟨List.mem_of_getElem? (i := 235) rfl, List.forall_mem_cons.mpr ⟨List.mem_of_getElem? (i := 332) rfl, List.forall_mem_cons.mpr ⟨List.mem_of_getElem? (i := 483) rfl, List.forall_mem_cons.mpr ⟨List.mem_of_getElem? (i := 487) rfl, List.forall_mem_cons.mpr ⟨List.mem_of_getElem? (i := 490) rfl, List.forall_mem_cons.mpr ⟨List.mem_of_getElem? (i := 493) rfl, List.forall_mem_cons.mpr ⟨List.mem_of_getElem? (i := 565) rfl, List.forall_mem_cons.mpr ⟨List.mem_of_getElem? (i := 573) rfl, List.forall_mem_cons.mpr ⟨List.mem_of_getElem? (i := 595) rfl, List.forall_mem_cons.mpr ⟨List.mem_of_getElem? (i := 599) rfl, List.forall_mem_cons.mpr ⟨List.mem_of_getElem? (i := 609) rfl, List.forall_mem_cons.mpr ⟨List.mem_of_getElem? (i := 743) rfl, List.forall_mem_cons.mpr ⟨List.mem_of_getElem? (i := 744) rfl, List.forall_mem_cons.mpr ⟨List.mem_of_getElem? (i := 745) rfl, List.forall_mem_cons.mpr ⟨List.mem_of_getElem? (i := 746) rfl, List.forall_mem_cons.mpr ⟨List.mem_of_getElem? (i := 757) rfl, List.forall_mem_cons.mpr ⟨List.mem_of_getElem? (i := 758) rfl, List.forall_mem_cons.mpr ⟨List.mem_of_getElem? (i := 763) rfl, List.forall_mem_cons.mpr ⟨List.mem_of_getElem? (i := 783) rfl, fun _ h => absurd h List.not_mem_nil⟩⟩⟩⟩⟩⟩⟩⟩⟩⟩⟩⟩⟩⟩⟩⟩⟩⟩⟩
set_option maxRecDepth 100000 in
theorem x_nFin : ∀ q ∈ x_nF, Cond.fieldLinkNest q.1 q.2.1 q.2.2.1 q.2.2.2.1 q.2.2.2.2.1 q.2.2.2.2.2 ∈ lw_tbl := List.forall_mem_cons.mpr ⟨List.mem_of_getElem? (i := 191) rfl, List.forall_mem_cons.mpr ⟨List.mem_of_getElem? (i := 192) rfl, List.forall_mem_cons.mpr ⟨List.mem_of_getElem? (i := 570) rfl, List.forall_mem_cons.mpr ⟨List.mem_of_getElem? (i := 752) rfl, List.forall_mem_cons.mpr ⟨List.mem_of_getElem? (i := 788) rfl, fun _ h => absurd h List.not_mem_nil⟩⟩⟩⟩⟩
set_option maxHeartbeats 4000000 in
set_option maxRecDepth 100000 in
theorem x_start {p : Program} {s : State} {m : MethodId} {meth : Method} {c : Code} {b L : Nat} {xs : Nat → Int32} (C0 : lw_At p s m meth c b L xs) : ∃ E : xE, va_K E.1 vwCl (xTy E) s ∧ xI E (fun q : Nat => s.heap.size ≤ q) s s.heap ∧ xN s := by
  obtain ⟨hx, hb, hr, hml, hown, hts0, hX, hbl, hlocks, hgv⟩ := C0
  have hts : ∀ w ∈ x_tb, w.before #[Value.ref b] s = true := fun w h => hts0 w (List.mem_filter.mp h).1
  obtain ⟨c0, i0, k0⟩ := u_known (C := R_BitReader) (T := F_BitReader) (N := 3) (n := 3) hts i_BitReader (hts _ tw_300)
  obtain ⟨c1, i1, k1⟩ := u_known (C := R_BitWriter) (T := F_BitWriter) (N := 4) (n := 4) hts i_BitWriter (hts _ tw_115)
  obtain ⟨c2, i2, k2⟩ := u_known (C := R_Bytes) (T := F_Bytes) (N := 2) (n := 2) hts i_Bytes (hts _ tw_91)
  obtain ⟨c3, i3, k3⟩ := u_known (C := R_Code) (T := F_Code) (N := 3) (n := 3) hts i_Code (hts _ tw_184)
  obtain ⟨c4, i4, k4⟩ := u_known (C := R_Header) (T := F_Header) (N := 10) (n := 10) hts i_Header (hts _ tw_178)
  obtain ⟨c5, i5, k5⟩ := u_known (C := R_Lists) (T := F_Lists) (N := 6) (n := 6) hts i_Lists (hts _ tw_151)
  obtain ⟨c6, i6, k6⟩ := u_known (C := R_Matches) (T := F_Matches) (N := 3) (n := 3) hts i_Matches (hts _ tw_134)
  obtain ⟨c7, i7, k7⟩ := u_known (C := R_Packer) (T := F_Packer) (N := 14) (n := 14) hts i_Packer (hts _ tw_109)
  obtain ⟨c8, i8, k8⟩ := u_known (C := R_Table) (T := F_Table) (N := 3) (n := 3) hts i_Table (hts _ tw_316)
  obtain ⟨c9, i9, k9⟩ := u_known (C := R_Unpacker) (T := F_Unpacker) (N := 10) (n := 10) hts i_Unpacker (hts _ tw_294)
  obtain ⟨c10, i10, k10⟩ := u_known (C := R_P) (T := F_P) (N := 10) (n := 10) hts i_P (hts _ tw_83)
  obtain ⟨c11, i11, k11⟩ := u_known (C := R_Tree) (T := F_Tree) (N := 2) (n := 2) hts i_Tree (hts _ tw_782)
  obtain ⟨c12, i12, k12⟩ := u_known (C := R_M) (T := F_M) (N := 46) (n := 46) hts i_M (hts _ tw_774)
  obtain ⟨cI, kI, qI, fI, gI, hI⟩ := Cond.arrayClass_spec (hts _ tw_149)
  obtain ⟨cB, kB, qB, fB, gB, hB⟩ := Cond.arrayClass_spec (hts _ tw_106)
  have hao : (Cond.arrayOver (.array .byte)).before #[Value.ref b] s = true := hts0 _ (List.mem_of_getElem? (i := 157) rfl)
  obtain ⟨cB2, cG, kG, fB2, -, gG, hG, fG⟩ := arrayOverA_spec hao
  have hs := flat_of_before _ hgv
  have harr : (Cond.arrayOf (.static "PieceRow" "LENGTH_ORDER" "[I") .int).before #[Value.ref b] s = true := hs _ (by decide +kernel)
  have hlen := va_eqt (hs (.eq (.length (.static "PieceRow" "LENGTH_ORDER" "[I")) (.int 19)) (by decide +kernel))
  have hel : ∀ j : Nat, j < 19 → (Term.elem (.static "PieceRow" "LENGTH_ORDER" "[I") (.int (Int32.ofNat j))).eval #[Value.ref b] s none [] s = some (.int (tb_order j)) := fun j hj => match j, hj with
    | 0, _ => va_eqt (hs (.eq (.elem (.static "PieceRow" "LENGTH_ORDER" "[I") (.int 0)) (.int 16)) (by decide +kernel))
    | 1, _ => va_eqt (hs (.eq (.elem (.static "PieceRow" "LENGTH_ORDER" "[I") (.int 1)) (.int 17)) (by decide +kernel))
    | 2, _ => va_eqt (hs (.eq (.elem (.static "PieceRow" "LENGTH_ORDER" "[I") (.int 2)) (.int 18)) (by decide +kernel))
    | 3, _ => va_eqt (hs (.eq (.elem (.static "PieceRow" "LENGTH_ORDER" "[I") (.int 3)) (.int 0)) (by decide +kernel))
    | 4, _ => va_eqt (hs (.eq (.elem (.static "PieceRow" "LENGTH_ORDER" "[I") (.int 4)) (.int 8)) (by decide +kernel))
    | 5, _ => va_eqt (hs (.eq (.elem (.static "PieceRow" "LENGTH_ORDER" "[I") (.int 5)) (.int 7)) (by decide +kernel))
    | 6, _ => va_eqt (hs (.eq (.elem (.static "PieceRow" "LENGTH_ORDER" "[I") (.int 6)) (.int 9)) (by decide +kernel))
    | 7, _ => va_eqt (hs (.eq (.elem (.static "PieceRow" "LENGTH_ORDER" "[I") (.int 7)) (.int 6)) (by decide +kernel))
    | 8, _ => va_eqt (hs (.eq (.elem (.static "PieceRow" "LENGTH_ORDER" "[I") (.int 8)) (.int 10)) (by decide +kernel))
    | 9, _ => va_eqt (hs (.eq (.elem (.static "PieceRow" "LENGTH_ORDER" "[I") (.int 9)) (.int 5)) (by decide +kernel))
    | 10, _ => va_eqt (hs (.eq (.elem (.static "PieceRow" "LENGTH_ORDER" "[I") (.int 10)) (.int 11)) (by decide +kernel))
    | 11, _ => va_eqt (hs (.eq (.elem (.static "PieceRow" "LENGTH_ORDER" "[I") (.int 11)) (.int 4)) (by decide +kernel))
    | 12, _ => va_eqt (hs (.eq (.elem (.static "PieceRow" "LENGTH_ORDER" "[I") (.int 12)) (.int 12)) (by decide +kernel))
    | 13, _ => va_eqt (hs (.eq (.elem (.static "PieceRow" "LENGTH_ORDER" "[I") (.int 13)) (.int 3)) (by decide +kernel))
    | 14, _ => va_eqt (hs (.eq (.elem (.static "PieceRow" "LENGTH_ORDER" "[I") (.int 14)) (.int 13)) (by decide +kernel))
    | 15, _ => va_eqt (hs (.eq (.elem (.static "PieceRow" "LENGTH_ORDER" "[I") (.int 15)) (.int 2)) (by decide +kernel))
    | 16, _ => va_eqt (hs (.eq (.elem (.static "PieceRow" "LENGTH_ORDER" "[I") (.int 16)) (.int 14)) (by decide +kernel))
    | 17, _ => va_eqt (hs (.eq (.elem (.static "PieceRow" "LENGTH_ORDER" "[I") (.int 17)) (.int 1)) (by decide +kernel))
    | 18, _ => va_eqt (hs (.eq (.elem (.static "PieceRow" "LENGTH_ORDER" "[I") (.int 18)) (.int 15)) (by decide +kernel))
    | k + 19, hk => absurd hk (by omega)
  have hA : ∀ a : Nat, a < s.heap.size → ¬ (fun q : Nat => s.heap.size ≤ q) a := fun a h => Nat.not_le.mpr h
  obtain ⟨t, ht, hT⟩ := va_Tof (f := fun k => .int (tb_order k)) (by decide) harr hlen hel hA
  have hZ := va_Zref (hts0 (.laysStatic "PieceRow" "LENGTH_ORDER" "[I") (List.mem_of_getElem? (i := 571) rfl)) (hts _ tw_66) ht hA
  refine ⟨((fun k => match k with
    | 0 => c0
    | 1 => c1
    | 2 => c2
    | 3 => c3
    | 4 => c4
    | 5 => c5
    | 6 => c6
    | 7 => c7
    | 8 => c8
    | 9 => c9
    | 10 => c10
    | 11 => c11
    | _ => c12, fun k => match k with
    | 0 => i0
    | 1 => i1
    | 2 => i2
    | 3 => i3
    | 4 => i4
    | 5 => i5
    | 6 => i6
    | 7 => i7
    | 8 => i8
    | 9 => i9
    | 10 => i10
    | 11 => i11
    | _ => i12), cI, cB, cG, t), ⟨fun k q hq => ?_, fun k q hq => ?_⟩, ⟨hZ, hT⟩, ?_⟩
  · match k, hq with
    | 0, hq => cases hq; exact k0
    | 1, hq => cases hq; exact k1
    | 2, hq => cases hq; exact k2
    | 3, hq => cases hq; exact k3
    | 4, hq => cases hq; exact k4
    | 5, hq => cases hq; exact k5
    | 6, hq => cases hq; exact k6
    | 7, hq => cases hq; exact k7
    | 8, hq => cases hq; exact k8
    | 9, hq => cases hq; exact k9
    | 10, hq => cases hq; exact k10
    | 11, hq => cases hq; exact k11
    | 12, hq => cases hq; exact k12
    | k + 13, hq => simp [vwCl] at hq
  · match k, hq with
    | 0, hq => cases hq; exact ⟨fun N z => ⟨(fun k h => by cases h), kI, gI, qI, hI⟩, fI⟩
    | 1, hq => cases hq; exact ⟨fun N z => ⟨(fun k h => by cases h), kB, gB, qB, hB⟩, fB⟩
    | 2, hq => cases hq; exact ⟨fun N z => ⟨(fun k h => by cases h), kG, gG, cB2, hG⟩, fG⟩
    | k + 3, hq => simp [xTy] at hq
  · refine ⟨fun q hq => va_Nw.of rfl (hts0 _ (x_nMin q hq)), fun q hq => va_Nw.of rfl (hts0 _ (x_nFin q hq)), ⟨cB2, cG, kG, fB2, gG, hG, fG⟩⟩
/-- the law from its entry, out of the pure statement (the pure statement is a hypothesis here) -/
theorem whole_open (hpure : ∀ (L : Nat) (xs : Nat → Int32), L ≤ 2048 → ∃ F, Law F L xs = some (1, ())) {p : Program} {e : Env} {s : State} {m : MethodId} {below : List Frame} {meth : Method} {c : Code} (l : Launch) {b L : Nat} {xs : Nat → Int32} (hL : L ≤ 2048) (C0 : lw_At p s m meth c b L xs) : W p l e room_1 s m #[Value.ref b] below meth c s.heap [] 0 0 (lw_Z below #[Value.ref b] s) (entryFrame m ([Value.ref b] : List Value).toArray 4) := by
  obtain ⟨E, hK, hI, hN⟩ := x_start C0
  obtain ⟨F, hm⟩ := hpure L xs hL
  exact law_walk l E F C0 _ rfl hK hI hN hm
