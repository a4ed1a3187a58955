/-! the start: tables made once -/
theorem e_fixed : ∀ i, i < 288 → P_fixedLength 200000 (nI i) = some (nI (lF i), ()) := by decide +kernel
theorem l5_5 {i : Nat} : l5 i = 5 := by
  unfold l5 lF
  rw [if_neg (by omega), if_neg (by omega), if_neg (by omega), if_neg (by omega)]
theorem t_packInit : Tt (Packer_init 200000) (fun u => FixC u.2.1 u.2.2.1 u.2.2.2.2.1 u.2.2.2.2.2.1) := by
  unfold Packer_init
  refine Tt_R0.2 (Tt_o (a := ((), ())) rfl (Tt_R0.2 (Tt_o (a := ((), ())) rfl (Tt_R0.2 (Tt_o (a := ((), ())) rfl (Tt_R0.2 (Tt_o (a := ((), ())) rfl (Tt_R0.2 (Tt_o (a := ((), ())) rfl (Tt_R0.2 (Tt_o (a := ((), ())) rfl (Tt_R0.2 (Tt_o (a := ((), ())) rfl (Tt_R0.2 (Tt_o (a := ((), ())) rfl ?_)))))))))))))))
  refine Tt_W7 (fun mm ls _ _ _ _ _ x2 => ∃ j, x2 = nI j ∧ j ≤ 288 ∧ mm = 288 - j ∧ ∀ i, i < j → ls i = nI (lF i)) ?_ 200000 288 _ _ _ _ _ _ _ (by omega) ⟨0, rfl, by omega, rfl, fun i hi => absurd hi (by omega)⟩
  rintro K mm ls cs nx dl dc dn x2 ⟨j, rfl, hj, rfl, hl⟩ ih
  unfold Packer_init_140
  by_cases z : 288 ≤ j
  · have e : j = 288 := by omega
    subst e
    refine Tt_p (by decide) ?_
    unfold Packer_init_171
    refine Tt_R1.2 (Tt_m (t_fill (by omega)) ?_)
    rintro ⟨_, dl2⟩ h2
    dsimp only at h2 ⊢
    have d5 : ∀ i, i < 32 → dl2 i = nI (l5 i) := by
      intro i hi
      rw [h2 i, if_pos hi, l5_5]
      rfl
    refine Tt_R2.2 (Tt_m (t_assign (f := lF) (by omega) hl (fun i hi => len_F.1 i hi)) ?_)
    rintro ⟨_, nx3, cs3⟩ h3
    dsimp only at h3 ⊢
    refine Tt_R2.2 (Tt_m (t_assign (f := l5) (by omega) d5 (fun i hi => len_F.2.1 i hi)) ?_)
    rintro ⟨_, nx4, cs4⟩ h4
    dsimp only at h4 ⊢
    refine Tt_Si ⟨fun s hs => ⟨hl s hs, ?_⟩, fun d hd => ⟨d5 d hd, ?_⟩⟩
    · dsimp only
      rw [h3 s hs (by have := (lF_b s).1; omega)]
      unfold cAll
      rw [if_pos hs]
    · dsimp only
      rw [h4 d hd (by rw [l5_5]; omega)]
      unfold cAll
      rw [if_neg (by omega), show 288 + d - 288 = d by omega]
      rfl
  · refine Tt_n (by first | decide | (simp (disch := omega) only [i_0, i_1, i_2, i_3, i_4, i_5, i_6, i_7, i_8, i_9, i_10, i_11, i_13, i_14, i_15, i_16, i_17, i_18, i_19, i_24, i_29, i_30, i_31, i_32, i_138, i_143, i_144, i_254, i_255, i_256, i_257, i_258, i_261, i_264, i_265, i_279, i_280, i_284, i_285, i_286, i_288, i_319, i_320, i_338, i_339, i_575, i_576, i_599, i_600, i_4096, i_8191, i_8192, i_8249, i_8250, i_8256, i_9000, i_16384, i_32767, i_32768, i_65520, i_65521, i_65535, i_65536, i_65999, i_66000, i_1300, i_120, i_156, nI_leI, nI_ltI, nI_eq, nI_add, n_neg, not_false_eq_true, not_true_eq_false] <;> omega)) (Tt_R0.2 (Tt_o (e_fixed j (by omega)) (Tt_g (by omega) (by omega) (Tt_l (Tt_l ?_)))))
    dsimp only
    rw [nI_1, nI_clamp (by omega)]
    refine ih (288 - (j + 1)) _ _ _ _ _ _ _ (by omega) ⟨j + 1, rfl, by omega, rfl, fun i hi => ?_⟩
    by_cases e : i = j
    · rw [e, pk_us]
    · rw [pk_un e]
      exact hl i (by omega)
theorem t_unInit : Tt (Unpacker_init 200000) (fun u => TabOK u.2.1 u.2.2.2.1 lF 288 ∧ TabOK u.2.2.2.2.1 u.2.2.2.2.2.2.1 l5 32) := by
  unfold Unpacker_init
  refine Tt_R0.2 (Tt_o (a := ((), ())) rfl (Tt_R0.2 (Tt_o (a := ((), ())) rfl (Tt_R0.2 (Tt_o (a := ((), ())) rfl (Tt_R0.2 (Tt_o (a := ((), ())) rfl (Tt_R0.2 (Tt_o (a := ((), ())) rfl (Tt_R0.2 (Tt_o (a := ((), ())) rfl ?_)))))))))))
  refine Tt_W8 (fun mm _ _ _ _ _ _ ls x2 => ∃ j, x2 = nI j ∧ j ≤ 288 ∧ mm = 288 - j ∧ ∀ i, i < j → ls i = nI (lF i)) ?_ 200000 288 _ _ _ _ _ _ _ _ (by omega) ⟨0, rfl, by omega, rfl, fun i hi => absurd hi (by omega)⟩
  rintro K mm a1 a2 a3 a4 a5 a6 ls x2 ⟨j, rfl, hj, rfl, hl⟩ ih
  unfold Unpacker_init_99
  by_cases z : 288 ≤ j
  · have e : j = 288 := by omega
    subst e
    refine Tt_p (by decide) ?_
    unfold Unpacker_init_122
    refine Tt_R3.2 (Tt_m (t_makeC (a := 0) (n := 288) (mb := 0) (f := lF) rfl rfl rfl (by omega) (by omega) (by omega) (by omega) (by omega) (fun i hi => by rw [Nat.zero_add]; exact hl i hi) (len_F.1)) ?_)
    rintro ⟨r, sy, co, of⟩ ⟨g1, _⟩
    dsimp only at g1 ⊢
    obtain ⟨_, hT1⟩ := g1 gd_F
    refine Tt_R1.2 (Tt_m (t_fill (by omega)) ?_)
    rintro ⟨_, ls2⟩ h2
    dsimp only at h2 ⊢
    refine Tt_R3.2 (Tt_m (t_makeC (a := 0) (n := 32) (mb := 0) (f := l5) rfl rfl rfl (by omega) (by omega) (by omega) (by omega) (by omega) (fun i hi => by rw [Nat.zero_add, h2 i, if_pos (by omega), l5_5]; rfl) (len_F.2.1)) ?_)
    rintro ⟨r2, sy2, co2, of2⟩ ⟨g3, _⟩
    dsimp only at g3 ⊢
    obtain ⟨_, hT2⟩ := g3 gd_5
    exact Tt_Si ⟨hT1, hT2⟩
  · refine Tt_n (by first | decide | (simp (disch := omega) only [i_0, i_1, i_2, i_3, i_4, i_5, i_6, i_7, i_8, i_9, i_10, i_11, i_13, i_14, i_15, i_16, i_17, i_18, i_19, i_24, i_29, i_30, i_31, i_32, i_138, i_143, i_144, i_254, i_255, i_256, i_257, i_258, i_261, i_264, i_265, i_279, i_280, i_284, i_285, i_286, i_288, i_319, i_320, i_338, i_339, i_575, i_576, i_599, i_600, i_4096, i_8191, i_8192, i_8249, i_8250, i_8256, i_9000, i_16384, i_32767, i_32768, i_65520, i_65521, i_65535, i_65536, i_65999, i_66000, i_1300, i_120, i_156, nI_leI, nI_ltI, nI_eq, nI_add, n_neg, not_false_eq_true, not_true_eq_false] <;> omega)) (Tt_R0.2 (Tt_o (e_fixed j (by omega)) (Tt_g (by omega) (by omega) (Tt_l (Tt_l ?_)))))
    dsimp only
    rw [nI_1, nI_clamp (by omega)]
    refine ih (288 - (j + 1)) _ _ _ _ _ _ _ _ (by omega) ⟨j + 1, rfl, by omega, rfl, fun i hi => ?_⟩
    by_cases e : i = j
    · rw [e, pk_us]
    · rw [pk_un e]
      exact hl i (by omega)
theorem t_init : Tt (P_init 200000) (fun u => FixC u.2.1 u.2.2.1 u.2.2.2.2.1 u.2.2.2.2.2.1 ∧ TabOK u.2.2.2.2.2.2.2.1 u.2.2.2.2.2.2.2.2.2.1 lF 288 ∧ TabOK u.2.2.2.2.2.2.2.2.2.2.1 u.2.2.2.2.2.2.2.2.2.2.2.2.1 l5 32) := by
  unfold P_init
  refine Tt_R0.2 (Tt_o (a := ((), ())) rfl (Tt_R0.2 (Tt_o (a := ((), ())) rfl (Tt_R6.2 (Tt_m t_packInit ?_)))))
  rintro ⟨_, a1, a2, a3, a4, a5, a6⟩ hF
  dsimp only at hF ⊢
  refine Tt_R0.2 (Tt_o (a := ((), ())) rfl (Tt_R7.2 (Tt_m t_unInit ?_)))
  rintro ⟨_, b1, b2, b3, b4, b5, b6, b7⟩ hT
  dsimp only at hT ⊢
  exact Tt_Si ⟨hF, hT.1, hT.2⟩
/-! the states of both, side by side -/
def SOK (cz pl k l : Nat) (b : Nat → Nat) (len : Nat) (bi : Nat → Nat) (kn kl : Nat) (ks B : Nat → Nat) : Prop := cz ≤ 1 ∧ pl ≤ 1 ∧ len ≤ 66000 ∧ l ≤ 8192 ∧ KnO kn kl ks B ∧ (cz = 0 → AOK (k, l, b, len, bi))
def SC (cz pl k l : Nat) (b : Nat → Nat) (len : Nat) (bi : Nat → Nat) (kn kl : Nat) (ks B : Nat → Nat) (p0 p1 p2 p3 p4 : Int32) (p5 : Nat → Int32) (p6 : Int32) (p7 p8 : Nat → Int32) (p43 : Int32) (p44 : Nat → Int32) : Prop := p0 = nI cz ∧ p3 = nI pl ∧ p43 = nI l ∧ p4 = nI len ∧ Row p5 0 len bi ∧ KnC kn kl ks B p1 p6 p8 p7 ∧ (cz = 0 → p2 = nI k ∧ Row p44 0 l b)
def SM (cz pl k l : Nat) (b : Nat → Nat) (len : Nat) (bi : Nat → Nat) (kn kl : Nat) (ks B : Nat → Nat) (m0 m1 m4 m5 m7 m8 m10 : Int32) (m21 m30 m32 m33 m34 m35 m38 : Nat → Int32) : Prop := m0 = nI cz ∧ m5 = nI pl ∧ m1 = nI len ∧ Row m21 0 len bi ∧ m38 0 = nI 0 ∧ KnM kn kl ks B m8 m7 m34 m30 m32 m33 ∧ (cz = 0 → m10 = nI (8192 * k + l) ∧ m4 = nI k ∧ Row m35 (8192 * k) l b ∧ m38 k = nI len)
theorem q_begin {cz pl k l len kn kl : Nat} {b bi ks B : Nat → Nat} {p0 p1 p2 p3 p4 p6 p43 : Int32} {p5 p7 p8 p44 : Nat → Int32} {m0 m1 m4 m5 m7 m8 m10 : Int32} {m21 m30 m32 m33 m34 m35 m38 : Nat → Int32} {x : Int32} (h : SOK cz pl k l b len bi kn kl ks B) (hC : SC cz pl k l b len bi kn kl ks B p0 p1 p2 p3 p4 p5 p6 p7 p8 p43 p44) (hM : SM cz pl k l b len bi kn kl ks B m0 m1 m4 m5 m7 m8 m10 m21 m30 m32 m33 m34 m35 m38) (hx : x = nI 0 ∨ x = nI 1) : ∃ cz pl k l b len bi kn kl ks B, SOK cz pl k l b len bi kn kl ks B ∧ Tt (P_begin 200000 p2 p3 p0 p43 p4 x) (fun u => SC cz pl k l b len bi kn kl ks B u.2.2.2.1 p1 u.2.1 u.2.2.1 u.2.2.2.2.2 p5 p6 p7 p8 u.2.2.2.2.1 p44) ∧ Tt (M_begin 200000 m5 m0 m10 m4 m1 x) (fun u => SM cz pl k l b len bi kn kl ks B u.2.2.1 u.2.2.2.2.2 u.2.2.2.2.1 u.2.1 m7 m8 u.2.2.2.1 m21 m30 m32 m33 m34 m35 m38) := by
  obtain ⟨h1, h2, h3, h4, h5, h6⟩ := h
  obtain ⟨rfl, rfl, rfl, rfl, c5, c6, c7⟩ := hC
  obtain ⟨rfl, rfl, rfl, m4', m5', m6, m7'⟩ := hM
  have zr : ∀ (c : Nat → Int32) a, Row c a 0 (fun _ => 0) := fun c a => ⟨fun i hi => absurd hi (by omega), fun _ => (by show 0 < 256; omega)⟩
  obtain ⟨q, hq, e⟩ : ∃ q, q ≤ 1 ∧ x = nI q := by
    rcases hx with e | e
    · exact ⟨0, by omega, e⟩
    · exact ⟨1, by omega, e⟩
  refine ⟨0, q, 0, 0, fun _ => 0, 0, fun _ => 0, kn, kl, ks, B, ⟨by omega, hq, by omega, by omega, h5, fun _ => ⟨Nat.zero_le _, by show 0 < 8192; omega, fun _ => rfl, fun _ => (by show 0 < 256; omega), by show 0 ≤ 8194 * 0; omega, fun _ => (by show 0 < 256; omega)⟩⟩, ?_, ?_⟩
  · unfold P_begin
    exact Tt_z hx (Tt_R1.2 (Tt_o (e_keep0 (by omega)) (Tt_R1.2 (Tt_o (e_keep0 (by omega)) (Tt_Si ⟨rfl, e, rfl, rfl, zr _ _, c6, fun _ => ⟨rfl, zr _ _⟩⟩)))))
  · unfold M_begin
    exact Tt_z hx (Tt_Si ⟨rfl, e, rfl, zr _ _, m5', m6, fun _ => ⟨rfl, rfl, zr _ _, m5'⟩⟩)
theorem S_CRl {cz pl k l len kn kl : Nat} {b bi ks B : Nat → Nat} {p0 p1 p2 p3 p4 p6 p43 : Int32} {p5 p7 p8 p44 : Nat → Int32} (hC : SC cz pl k l b len bi kn kl ks B p0 p1 p2 p3 p4 p5 p6 p7 p8 p43 p44) (hz : cz = 0) : CRl (k, l, b, len, bi) p2 p43 p44 p4 p5 := by
  obtain ⟨c1, c2, c3, c4, c5, c6, c7⟩ := hC
  exact ⟨(c7 hz).1, c3, (c7 hz).2, c4, c5⟩
theorem S_MRl {cz pl k l len kn kl : Nat} {b bi ks B : Nat → Nat} {m0 m1 m4 m5 m7 m8 m10 : Int32} {m21 m30 m32 m33 m34 m35 m38 : Nat → Int32} (hM : SM cz pl k l b len bi kn kl ks B m0 m1 m4 m5 m7 m8 m10 m21 m30 m32 m33 m34 m35 m38) (hz : cz = 0) : MRl (k, l, b, len, bi) m10 m4 m1 m35 m21 m38 := by
  obtain ⟨c1, c2, c3, c4, c5, c6, c7⟩ := hM
  obtain ⟨d1, d2, d3, d4⟩ := c7 hz
  exact ⟨d1, d2, c3, d3, c4, d4, c5⟩
theorem AOK_len {s : ASt} (h : AOK s) : s.2.2.2.1 ≤ 66000 := by
  obtain ⟨h1, h2, h3, h4, h5, h6⟩ := h
  omega
theorem q_put {fs fd fc fdc : Nat → Int32} {tc ex ol oo ooc many hrl htc hsl hdl hcl : Int32} {late before od sc dc toks msl lc ls ib it mdl msn msc mdn mdc hrow hcs htd hcle hnx hco : Nat → Int32} {pr : Nat → Nat → Int32} {pb tok st : Int32} {pla pbe pk tl tv cnt rk lns we wb itM lr sp mo fx co : Nat → Int32} {cz pl k l len kn kl : Nat} {b bi ks B : Nat → Nat} {p0 p1 p2 p3 p4 p6 p43 : Int32} {p5 p7 p8 p44 : Nat → Int32} {m0 m1 m4 m5 m7 m8 m10 : Int32} {m21 m30 m32 m33 m34 m35 m38 : Nat → Int32} {x1 : Int64} {x3 : Int32} (hF : FixC fs fc fd fdc) (h : SOK cz pl k l b len bi kn kl ks B) (hC : SC cz pl k l b len bi kn kl ks B p0 p1 p2 p3 p4 p5 p6 p7 p8 p43 p44) (hM : SM cz pl k l b len bi kn kl ks B m0 m1 m4 m5 m7 m8 m10 m21 m30 m32 m33 m34 m35 m38) : ∃ r cz pl k l b len bi kn kl ks B, SOK cz pl k l b len bi kn kl ks B ∧ Tt (P_put 200000 8192 286 30 286 30 288 32 19 19 288 32 66000 p3 p0 fs fd fc fdc p2 p43 p44 tc ex ol oo ooc late before od sc dc toks msl many lc ls ib it pr mdl msn msc mdn mdc hrl htc hsl hdl hcl hrow hcs htd hcle hnx hco p4 p5 x1 x3) (fun u => u.1 = r ∧ SC cz pl k l b len bi kn kl ks B p0 p1 u.2.1 p3 u.2.2.2.2.2.2.2.2.2.2.2.2.2.2.2.2.2.2.2.2.2.2.2.2.2.2.2.2.2.2.2.2.2.2.2.2.2.2.1 u.2.2.2.2.2.2.2.2.2.2.2.2.2.2.2.2.2.2.2.2.2.2.2.2.2.2.2.2.2.2.2.2.2.2.2.2.2.2.2 p6 p7 p8 u.2.2.1 u.2.2.2.1) ∧ Tt (M_put 200000 m5 m0 m10 m4 m1 pb tok st m35 pla pbe pk tl tv cnt rk lns we wb itM lr sp mo fx co m21 m38 x1 x3) (fun u => u.1 = r ∧ SM cz pl k l b len bi kn kl ks B m0 u.2.2.2.1 u.2.2.1 m5 m7 m8 u.2.1 u.2.2.2.2.2.2.2.2.2.2.2.2.2.2.2.2.2.2.2.2.2.2.2.2.1 m30 m32 m33 m34 u.2.2.2.2.2.2.2.1 u.2.2.2.2.2.2.2.2.2.2.2.2.2.2.2.2.2.2.2.2.2.2.2.2.2) := by
  by_cases hz : cz = 0
  · have hC1 := S_CRl hC hz
    have hM1 := S_MRl hM hz
    obtain ⟨h1, h2, h3, h4, h5, h6⟩ := h
    obtain ⟨rfl, rfl, c3, c4, c5, c6, c7⟩ := hC
    obtain ⟨rfl, rfl, c3', c4', c5', c6', c7'⟩ := hM
    subst hz
    obtain ⟨r, ⟨k', l', b', len', bi'⟩, ho, tP, tM⟩ := t_put (pl := pl) (fs := fs) (fd := fd) (fc := fc) (fdc := fdc) (tc := tc) (ex := ex) (ol := ol) (oo := oo) (ooc := ooc) (late := late) (before := before) (od := od) (sc := sc) (dc := dc) (toks := toks) (msl := msl) (many := many) (lc := lc) (ls := ls) (ib := ib) (it := it) (pr := pr) (mdl := mdl) (msn := msn) (msc := msc) (mdn := mdn) (mdc := mdc) (hrl := hrl) (htc := htc) (hsl := hsl) (hdl := hdl) (hcl := hcl) (hrow := hrow) (hcs := hcs) (htd := htd) (hcle := hcle) (hnx := hnx) (hco := hco) (pb := pb) (tok := tok) (st := st) (pla := pla) (pbe := pbe) (pk := pk) (tl := tl) (tv := tv) (cnt := cnt) (rk := rk) (lns := lns) (we := we) (wb := wb) (itM := itM) (lr := lr) (sp := sp) (mo := mo) (fx := fx) (co := co) (x1 := x1) (x3 := x3) hC1 hM1 (h6 rfl) h2 hF
    refine ⟨r, 0, pl, k', l', b', len', bi', kn, kl, ks, B, ⟨by omega, h2, AOK_len ho, by have := ho.2.1; dsimp only at this; omega, h5, fun _ => ho⟩, Tt_m tP ?_, Tt_m tM ?_⟩
    · rintro u ⟨g1, g2, g3, g4, g5, g6⟩
      exact ⟨g1, rfl, rfl, g3, g5, g6, c6, fun _ => ⟨g2, g4⟩⟩
    · rintro u ⟨g1, g2, g3, g4, g5, g6, g7, g8⟩
      exact ⟨g1, rfl, rfl, g4, g6, g8, c6', fun _ => ⟨g2, g3, g5, g7⟩⟩
  · have hC2 := hC
    have hM2 := hM
    obtain ⟨c1, c2, _⟩ := hC
    obtain ⟨c1', c2', _⟩ := hM
    have h1 := h.1
    refine ⟨-1, cz, pl, k, l, b, len, bi, kn, kl, ks, B, h, ?_, ?_⟩
    · unfold P_put
      have nz : ¬ p0 = 0 := by rw [c1]; exact (by first | decide | (simp (disch := omega) only [i_0, i_1, i_2, i_3, i_4, i_5, i_6, i_7, i_8, i_9, i_10, i_11, i_13, i_14, i_15, i_16, i_17, i_18, i_19, i_24, i_29, i_30, i_31, i_32, i_138, i_143, i_144, i_254, i_255, i_256, i_257, i_258, i_261, i_264, i_265, i_279, i_280, i_284, i_285, i_286, i_288, i_319, i_320, i_338, i_339, i_575, i_576, i_599, i_600, i_4096, i_8191, i_8192, i_8249, i_8250, i_8256, i_9000, i_16384, i_32767, i_32768, i_65520, i_65521, i_65535, i_65536, i_65999, i_66000, i_1300, i_120, i_156, nI_leI, nI_ltI, nI_eq, nI_add, n_neg, not_false_eq_true, not_true_eq_false] <;> omega))
      by_cases w1 : x3 < 1
      · exact Tt_p w1 (Tt_Si ⟨rfl, hC2⟩)
      · refine Tt_n w1 ?_
        by_cases w2 : 8 < x3
        · exact Tt_p w2 (Tt_Si ⟨rfl, hC2⟩)
        · exact Tt_n w2 (Tt_n nz (Tt_Si ⟨rfl, hC2⟩))
    · unfold M_put
      have nz : ¬ m0 = 0 := by rw [c1']; exact (by first | decide | (simp (disch := omega) only [i_0, i_1, i_2, i_3, i_4, i_5, i_6, i_7, i_8, i_9, i_10, i_11, i_13, i_14, i_15, i_16, i_17, i_18, i_19, i_24, i_29, i_30, i_31, i_32, i_138, i_143, i_144, i_254, i_255, i_256, i_257, i_258, i_261, i_264, i_265, i_279, i_280, i_284, i_285, i_286, i_288, i_319, i_320, i_338, i_339, i_575, i_576, i_599, i_600, i_4096, i_8191, i_8192, i_8249, i_8250, i_8256, i_9000, i_16384, i_32767, i_32768, i_65520, i_65521, i_65535, i_65536, i_65999, i_66000, i_1300, i_120, i_156, nI_leI, nI_ltI, nI_eq, nI_add, n_neg, not_false_eq_true, not_true_eq_false] <;> omega))
      by_cases w1 : x3 < 1
      · exact Tt_p w1 (Tt_Si ⟨rfl, hM2⟩)
      · refine Tt_n w1 ?_
        by_cases w2 : 8 < x3
        · exact Tt_p w2 (Tt_Si ⟨rfl, hM2⟩)
        · exact Tt_n w2 (Tt_n nz (Tt_Si ⟨rfl, hM2⟩))
theorem q_fill {fs fd fc fdc : Nat → Int32} {tc ex ol oo ooc many hrl htc hsl hdl hcl : Int32} {late before od sc dc toks msl lc ls ib it mdl msn msc mdn mdc hrow hcs htd hcle hnx hco : Nat → Int32} {pr : Nat → Nat → Int32} {pb tok st : Int32} {pla pbe pk tl tv cnt rk lns we wb itM lr sp mo fx co : Nat → Int32} {cz pl k l len kn kl : Nat} {b bi ks B : Nat → Nat} {p0 p1 p2 p3 p4 p6 p43 : Int32} {p5 p7 p8 p44 : Nat → Int32} {m0 m1 m4 m5 m7 m8 m10 : Int32} {m21 m30 m32 m33 m34 m35 m38 : Nat → Int32} {x1 x2 x3 : Int32} (hF : FixC fs fc fd fdc) (h : SOK cz pl k l b len bi kn kl ks B) (hC : SC cz pl k l b len bi kn kl ks B p0 p1 p2 p3 p4 p5 p6 p7 p8 p43 p44) (hM : SM cz pl k l b len bi kn kl ks B m0 m1 m4 m5 m7 m8 m10 m21 m30 m32 m33 m34 m35 m38) : ∃ r cz pl k l b len bi kn kl ks B, SOK cz pl k l b len bi kn kl ks B ∧ Tt (P_fill 200000 8192 286 30 286 30 288 32 19 19 288 32 66000 p3 p0 fs fd fc fdc p2 p43 p44 tc ex ol oo ooc late before od sc dc toks msl many lc ls ib it pr mdl msn msc mdn mdc hrl htc hsl hdl hcl hrow hcs htd hcle hnx hco p4 p5 x1 x2 x3) (fun u => u.1 = r ∧ SC cz pl k l b len bi kn kl ks B p0 p1 u.2.1 p3 u.2.2.2.2.2.2.2.2.2.2.2.2.2.2.2.2.2.2.2.2.2.2.2.2.2.2.2.2.2.2.2.2.2.2.2.2.2.2.1 u.2.2.2.2.2.2.2.2.2.2.2.2.2.2.2.2.2.2.2.2.2.2.2.2.2.2.2.2.2.2.2.2.2.2.2.2.2.2.2 p6 p7 p8 u.2.2.1 u.2.2.2.1) ∧ Tt (M_fill 200000 m5 m0 m10 m4 m1 pb tok st m35 pla pbe pk tl tv cnt rk lns we wb itM lr sp mo fx co m21 m38 x1 x2 x3) (fun u => u.1 = r ∧ SM cz pl k l b len bi kn kl ks B m0 u.2.2.2.1 u.2.2.1 m5 m7 m8 u.2.1 u.2.2.2.2.2.2.2.2.2.2.2.2.2.2.2.2.2.2.2.2.2.2.2.2.1 m30 m32 m33 m34 u.2.2.2.2.2.2.2.1 u.2.2.2.2.2.2.2.2.2.2.2.2.2.2.2.2.2.2.2.2.2.2.2.2.2) := by
  by_cases hz : cz = 0
  · have hC1 := S_CRl hC hz
    have hM1 := S_MRl hM hz
    obtain ⟨h1, h2, h3, h4, h5, h6⟩ := h
    obtain ⟨rfl, rfl, c3, c4, c5, c6, c7⟩ := hC
    obtain ⟨rfl, rfl, c3', c4', c5', c6', c7'⟩ := hM
    subst hz
    obtain ⟨r, ⟨k', l', b', len', bi'⟩, ho, tP, tM⟩ := t_fillAll (pl := pl) (fs := fs) (fd := fd) (fc := fc) (fdc := fdc) (tc := tc) (ex := ex) (ol := ol) (oo := oo) (ooc := ooc) (late := late) (before := before) (od := od) (sc := sc) (dc := dc) (toks := toks) (msl := msl) (many := many) (lc := lc) (ls := ls) (ib := ib) (it := it) (pr := pr) (mdl := mdl) (msn := msn) (msc := msc) (mdn := mdn) (mdc := mdc) (hrl := hrl) (htc := htc) (hsl := hsl) (hdl := hdl) (hcl := hcl) (hrow := hrow) (hcs := hcs) (htd := htd) (hcle := hcle) (hnx := hnx) (hco := hco) (pb := pb) (tok := tok) (st := st) (pla := pla) (pbe := pbe) (pk := pk) (tl := tl) (tv := tv) (cnt := cnt) (rk := rk) (lns := lns) (we := we) (wb := wb) (itM := itM) (lr := lr) (sp := sp) (mo := mo) (fx := fx) (co := co) (x1 := x1) (x2 := x2) (x3 := x3) hC1 hM1 (h6 rfl) h2 hF
    refine ⟨r, 0, pl, k', l', b', len', bi', kn, kl, ks, B, ⟨by omega, h2, AOK_len ho, by have := ho.2.1; dsimp only at this; omega, h5, fun _ => ho⟩, Tt_m tP ?_, Tt_m tM ?_⟩
    · rintro u ⟨g1, g2, g3, g4, g5, g6⟩
      exact ⟨g1, rfl, rfl, g3, g5, g6, c6, fun _ => ⟨g2, g4⟩⟩
    · rintro u ⟨g1, g2, g3, g4, g5, g6, g7, g8⟩
      exact ⟨g1, rfl, rfl, g4, g6, g8, c6', fun _ => ⟨g2, g3, g5, g7⟩⟩
  · have hC2 := hC
    have hM2 := hM
    obtain ⟨c1, c2, _⟩ := hC
    obtain ⟨c1', c2', _⟩ := hM
    have h1 := h.1
    refine ⟨-1, cz, pl, k, l, b, len, bi, kn, kl, ks, B, h, ?_, ?_⟩
    · unfold P_fill
      have nz : ¬ p0 = 0 := by rw [c1]; exact (by first | decide | (simp (disch := omega) only [i_0, i_1, i_2, i_3, i_4, i_5, i_6, i_7, i_8, i_9, i_10, i_11, i_13, i_14, i_15, i_16, i_17, i_18, i_19, i_24, i_29, i_30, i_31, i_32, i_138, i_143, i_144, i_254, i_255, i_256, i_257, i_258, i_261, i_264, i_265, i_279, i_280, i_284, i_285, i_286, i_288, i_319, i_320, i_338, i_339, i_575, i_576, i_599, i_600, i_4096, i_8191, i_8192, i_8249, i_8250, i_8256, i_9000, i_16384, i_32767, i_32768, i_65520, i_65521, i_65535, i_65536, i_65999, i_66000, i_1300, i_120, i_156, nI_leI, nI_ltI, nI_eq, nI_add, n_neg, not_false_eq_true, not_true_eq_false] <;> omega))
      by_cases w1 : x1 < 0
      · exact Tt_p w1 (Tt_Si ⟨rfl, hC2⟩)
      by_cases w2 : 2 < x1
      · exact Tt_n w1 (Tt_p w2 (Tt_Si ⟨rfl, hC2⟩))
      by_cases w3 : x3 < 1
      · exact Tt_n w1 (Tt_n w2 (Tt_p w3 (Tt_Si ⟨rfl, hC2⟩)))
      by_cases w4 : 65536 < x3
      · exact Tt_n w1 (Tt_n w2 (Tt_n w3 (Tt_p w4 (Tt_Si ⟨rfl, hC2⟩))))
      · exact Tt_n w1 (Tt_n w2 (Tt_n w3 (Tt_n w4 (Tt_n nz (Tt_Si ⟨rfl, hC2⟩)))))
    · unfold M_fill
      have nz : ¬ m0 = 0 := by rw [c1']; exact (by first | decide | (simp (disch := omega) only [i_0, i_1, i_2, i_3, i_4, i_5, i_6, i_7, i_8, i_9, i_10, i_11, i_13, i_14, i_15, i_16, i_17, i_18, i_19, i_24, i_29, i_30, i_31, i_32, i_138, i_143, i_144, i_254, i_255, i_256, i_257, i_258, i_261, i_264, i_265, i_279, i_280, i_284, i_285, i_286, i_288, i_319, i_320, i_338, i_339, i_575, i_576, i_599, i_600, i_4096, i_8191, i_8192, i_8249, i_8250, i_8256, i_9000, i_16384, i_32767, i_32768, i_65520, i_65521, i_65535, i_65536, i_65999, i_66000, i_1300, i_120, i_156, nI_leI, nI_ltI, nI_eq, nI_add, n_neg, not_false_eq_true, not_true_eq_false] <;> omega))
      by_cases w1 : x1 < 0
      · exact Tt_p w1 (Tt_Si ⟨rfl, hM2⟩)
      by_cases w2 : 2 < x1
      · exact Tt_n w1 (Tt_p w2 (Tt_Si ⟨rfl, hM2⟩))
      by_cases w3 : x3 < 1
      · exact Tt_n w1 (Tt_n w2 (Tt_p w3 (Tt_Si ⟨rfl, hM2⟩)))
      by_cases w4 : 65536 < x3
      · exact Tt_n w1 (Tt_n w2 (Tt_n w3 (Tt_p w4 (Tt_Si ⟨rfl, hM2⟩))))
      · exact Tt_n w1 (Tt_n w2 (Tt_n w3 (Tt_n w4 (Tt_n nz (Tt_Si ⟨rfl, hM2⟩)))))
theorem q_close {fs fd fc fdc : Nat → Int32} {tc ex ol oo ooc many hrl htc hsl hdl hcl : Int32} {late before od sc dc toks msl lc ls ib it mdl msn msc mdn mdc hrow hcs htd hcle hnx hco : Nat → Int32} {pr : Nat → Nat → Int32} {pb tok st : Int32} {pla pbe pk tl tv cnt rk lns we wb itM lr sp mo fx co : Nat → Int32} {cz pl k l len kn kl : Nat} {b bi ks B : Nat → Nat} {p0 p1 p2 p3 p4 p6 p43 : Int32} {p5 p7 p8 p44 : Nat → Int32} {m0 m1 m4 m5 m7 m8 m10 : Int32} {m21 m30 m32 m33 m34 m35 m38 : Nat → Int32} (hF : FixC fs fc fd fdc) (h : SOK cz pl k l b len bi kn kl ks B) (hC : SC cz pl k l b len bi kn kl ks B p0 p1 p2 p3 p4 p5 p6 p7 p8 p43 p44) (hM : SM cz pl k l b len bi kn kl ks B m0 m1 m4 m5 m7 m8 m10 m21 m30 m32 m33 m34 m35 m38) : ∃ r cz pl k l b len bi kn kl ks B, SOK cz pl k l b len bi kn kl ks B ∧ Tt (P_close 200000 8192 286 30 286 30 288 32 19 19 288 32 66000 p3 p44 fs fd fc fdc p2 p0 p43 tc ex ol oo ooc late before od sc dc toks msl many lc ls ib it pr mdl msn msc mdn mdc hrl htc hsl hdl hcl hrow hcs htd hcle hnx hco p4 p5) (fun u => u.1 = r ∧ SC cz pl k l b len bi kn kl ks B u.2.2.1 p1 u.2.1 p3 u.2.2.2.2.2.2.2.2.2.2.2.2.2.2.2.2.2.2.2.2.2.2.2.2.2.2.2.2.2.2.2.2.2.2.2.2.2.2.1 u.2.2.2.2.2.2.2.2.2.2.2.2.2.2.2.2.2.2.2.2.2.2.2.2.2.2.2.2.2.2.2.2.2.2.2.2.2.2.2 p6 p7 p8 u.2.2.2.1 p44) ∧ Tt (M_close 200000 m5 m10 m35 m0 m4 m1 pb tok st pla pbe pk tl tv cnt rk lns we wb itM lr sp mo fx co m21 m38) (fun u => u.1 = r ∧ SM cz pl k l b len bi kn kl ks B u.2.1 u.2.2.2.1 u.2.2.1 m5 m7 m8 m10 u.2.2.2.2.2.2.2.2.2.2.2.2.2.2.2.2.2.2.2.2.2.2.2.1 m30 m32 m33 m34 m35 u.2.2.2.2.2.2.2.2.2.2.2.2.2.2.2.2.2.2.2.2.2.2.2.2) := by
  by_cases hz : cz = 0
  · have hC1 := S_CRl hC hz
    have hM1 := S_MRl hM hz
    obtain ⟨h1, h2, h3, h4, h5, h6⟩ := h
    obtain ⟨rfl, rfl, c3, c4, c5, c6, c7⟩ := hC
    obtain ⟨rfl, rfl, c3', c4', c5', c6', c7'⟩ := hM
    subst hz
    obtain ⟨r, len', bi', hl', tP, tM⟩ := t_close (pl := pl) (fs := fs) (fd := fd) (fc := fc) (fdc := fdc) (tc := tc) (ex := ex) (ol := ol) (oo := oo) (ooc := ooc) (late := late) (before := before) (od := od) (sc := sc) (dc := dc) (toks := toks) (msl := msl) (many := many) (lc := lc) (ls := ls) (ib := ib) (it := it) (pr := pr) (mdl := mdl) (msn := msn) (msc := msc) (mdn := mdn) (mdc := mdc) (hrl := hrl) (htc := htc) (hsl := hsl) (hdl := hdl) (hcl := hcl) (hrow := hrow) (hcs := hcs) (htd := htd) (hcle := hcle) (hnx := hnx) (hco := hco) (pb := pb) (tok := tok) (st := st) (pla := pla) (pbe := pbe) (pk := pk) (tl := tl) (tv := tv) (cnt := cnt) (rk := rk) (lns := lns) (we := we) (wb := wb) (itM := itM) (lr := lr) (sp := sp) (mo := mo) (fx := fx) (co := co) hC1 hM1 (h6 rfl) h2 hF
    refine ⟨r, 1, pl, 0, 0, fun _ => 0, len', bi', kn, kl, ks, B, ⟨by omega, h2, hl', by omega, h5, fun q => absurd q (by omega)⟩, Tt_m tP ?_, Tt_m tM ?_⟩
    · rintro u ⟨g1, g2, g3, g4, g5⟩
      exact ⟨g1, g2, rfl, g3, g4, g5, c6, fun q => absurd q (by omega)⟩
    · rintro u ⟨g1, g2, g3, g4, g5⟩
      exact ⟨g1, g2, rfl, g3, g4, g5, c6', fun q => absurd q (by omega)⟩
  · have hC2 := hC
    have hM2 := hM
    obtain ⟨c1, c2, _⟩ := hC
    obtain ⟨c1', c2', _⟩ := hM
    have h1 := h.1
    refine ⟨-1, cz, pl, k, l, b, len, bi, kn, kl, ks, B, h, ?_, ?_⟩
    · unfold P_close
      have nz : ¬ p0 = 0 := by rw [c1]; exact (by first | decide | (simp (disch := omega) only [i_0, i_1, i_2, i_3, i_4, i_5, i_6, i_7, i_8, i_9, i_10, i_11, i_13, i_14, i_15, i_16, i_17, i_18, i_19, i_24, i_29, i_30, i_31, i_32, i_138, i_143, i_144, i_254, i_255, i_256, i_257, i_258, i_261, i_264, i_265, i_279, i_280, i_284, i_285, i_286, i_288, i_319, i_320, i_338, i_339, i_575, i_576, i_599, i_600, i_4096, i_8191, i_8192, i_8249, i_8250, i_8256, i_9000, i_16384, i_32767, i_32768, i_65520, i_65521, i_65535, i_65536, i_65999, i_66000, i_1300, i_120, i_156, nI_leI, nI_ltI, nI_eq, nI_add, n_neg, not_false_eq_true, not_true_eq_false] <;> omega))
      exact Tt_n nz (Tt_Si ⟨rfl, hC2⟩)
    · unfold M_close
      have nz : ¬ m0 = 0 := by rw [c1']; exact (by first | decide | (simp (disch := omega) only [i_0, i_1, i_2, i_3, i_4, i_5, i_6, i_7, i_8, i_9, i_10, i_11, i_13, i_14, i_15, i_16, i_17, i_18, i_19, i_24, i_29, i_30, i_31, i_32, i_138, i_143, i_144, i_254, i_255, i_256, i_257, i_258, i_261, i_264, i_265, i_279, i_280, i_284, i_285, i_286, i_288, i_319, i_320, i_338, i_339, i_575, i_576, i_599, i_600, i_4096, i_8191, i_8192, i_8249, i_8250, i_8256, i_9000, i_16384, i_32767, i_32768, i_65520, i_65521, i_65535, i_65536, i_65999, i_66000, i_1300, i_120, i_156, nI_leI, nI_ltI, nI_eq, nI_add, n_neg, not_false_eq_true, not_true_eq_false] <;> omega))
      exact Tt_n nz (Tt_Si ⟨rfl, hM2⟩)
theorem q_patch {cz pl k l len kn kl : Nat} {b bi ks B : Nat → Nat} {p0 p1 p2 p3 p4 p6 p43 : Int32} {p5 p7 p8 p44 : Nat → Int32} {m0 m1 m4 m5 m7 m8 m10 : Int32} {m21 m30 m32 m33 m34 m35 m38 : Nat → Int32} {x1 x2 : Int32} (h : SOK cz pl k l b len bi kn kl ks B) (hC : SC cz pl k l b len bi kn kl ks B p0 p1 p2 p3 p4 p5 p6 p7 p8 p43 p44) (hM : SM cz pl k l b len bi kn kl ks B m0 m1 m4 m5 m7 m8 m10 m21 m30 m32 m33 m34 m35 m38) : ∃ r cz pl k l b len bi kn kl ks B, SOK cz pl k l b len bi kn kl ks B ∧ Tt (P_patch 200000 66000 p0 p4 p5 x1 x2) (fun u => u.1 = r ∧ SC cz pl k l b len bi kn kl ks B p0 p1 p2 p3 p4 u.2 p6 p7 p8 p43 p44) ∧ Tt (M_patch 200000 m0 m1 m21 x1 x2) (fun u => u.1 = r ∧ SM cz pl k l b len bi kn kl ks B m0 m1 m4 m5 m7 m8 m10 u.2 m30 m32 m33 m34 m35 m38) := by
  obtain ⟨h1, h2, h3, h4, h5, h6⟩ := h
  obtain ⟨rfl, rfl, c3, rfl, c5, c6, c7⟩ := hC
  obtain ⟨rfl, rfl, rfl, c4', c5', c6', c7'⟩ := hM
  obtain ⟨r, bi', e, tP, tM⟩ := t_patchK (x1 := x1) (x2 := x2) c5 c4' h3 h1
  refine ⟨r, cz, pl, k, l, b, len, bi', kn, kl, ks, B, ⟨h1, h2, h3, h4, h5, fun q => by rw [e q]; exact h6 q⟩, Tt_m tP ?_, Tt_m tM ?_⟩
  · rintro u ⟨g1, g2, g3⟩
    exact ⟨g1, rfl, rfl, c3, rfl, g2, c6, c7⟩
  · rintro u ⟨g1, g2, g3⟩
    exact ⟨g1, rfl, rfl, rfl, g2, c5', c6', c7'⟩
theorem Row_cut {c : Nat → Int32} {len len' : Nat} {bi : Nat → Nat} (h : Row c 0 len bi) (hl : len' ≤ len) : Row c 0 len' bi := ⟨fun i hi => h.1 i (by omega), h.2⟩
theorem q_cut {cz pl k l len kn kl : Nat} {b bi ks B : Nat → Nat} {p0 p1 p2 p3 p4 p6 p43 : Int32} {p5 p7 p8 p44 : Nat → Int32} {m0 m1 m4 m5 m7 m8 m10 : Int32} {m21 m30 m32 m33 m34 m35 m38 : Nat → Int32} {x1 : Int32} (h : SOK cz pl k l b len bi kn kl ks B) (hC : SC cz pl k l b len bi kn kl ks B p0 p1 p2 p3 p4 p5 p6 p7 p8 p43 p44) (hM : SM cz pl k l b len bi kn kl ks B m0 m1 m4 m5 m7 m8 m10 m21 m30 m32 m33 m34 m35 m38) : ∃ r cz pl k l b len bi kn kl ks B, SOK cz pl k l b len bi kn kl ks B ∧ Tt (P_cut 200000 p0 p4 x1) (fun u => u.1 = r ∧ SC cz pl k l b len bi kn kl ks B p0 p1 p2 p3 u.2 p5 p6 p7 p8 p43 p44) ∧ Tt (M_cut 200000 m0 m1 x1) (fun u => u.1 = r ∧ SM cz pl k l b len bi kn kl ks B m0 u.2 m4 m5 m7 m8 m10 m21 m30 m32 m33 m34 m35 m38) := by
  obtain ⟨h1, h2, h3, h4, h5, h6⟩ := h
  obtain ⟨rfl, rfl, c3, rfl, c5, c6, c7⟩ := hC
  obtain ⟨rfl, rfl, rfl, c4', c5', c6', c7'⟩ := hM
  obtain ⟨r, len', e1, e, tP, tM⟩ := t_cutK (x1 := x1) h3 h1
  refine ⟨r, cz, pl, k, l, b, len', bi, kn, kl, ks, B, ⟨h1, h2, by omega, h4, h5, fun q => by rw [e q]; exact h6 q⟩, Tt_m tP ?_, Tt_m tM ?_⟩
  · rintro u ⟨g1, g2⟩
    exact ⟨g1, rfl, rfl, c3, g2, Row_cut c5 e1, c6, c7⟩
  · rintro u ⟨g1, g2⟩
    exact ⟨g1, rfl, rfl, g2, Row_cut c4' e1, c5', c6', fun q => by rw [e q]; exact c7' q⟩
theorem q_read {cF yF cG yG : Nat → Int32} {vos vfa vat ven : Int32} {cl y1 c1 o1 y2 c2 o2 y3 c3 o3 : Nat → Int32} {vsf vsb vr vw vm rm n2 n3 n1 : Int32} {pc fx T2 T3 RL T1 LR : Nat → Int32} {cz pl k l len kn kl : Nat} {b bi ks B : Nat → Nat} {p0 p1 p2 p3 p4 p6 p43 : Int32} {p5 p7 p8 p44 : Nat → Int32} {m0 m1 m4 m5 m7 m8 m10 : Int32} {m21 m30 m32 m33 m34 m35 m38 : Nat → Int32} (hF : TabOK cF yF lF 288) (hG : TabOK cG yG l5 32) (h : SOK cz pl k l b len bi kn kl ks B) (hC : SC cz pl k l b len bi kn kl ks B p0 p1 p2 p3 p4 p5 p6 p7 p8 p43 p44) (hM : SM cz pl k l b len bi kn kl ks B m0 m1 m4 m5 m7 m8 m10 m21 m30 m32 m33 m34 m35 m38) : ∃ r cz pl k l b len bi kn kl ks B, SOK cz pl k l b len bi kn kl ks B ∧ Tt (P_read 200000 66000 65536 288 32 19 288 32 p0 p4 p5 cF yF cG yG p1 p6 p8 p7 vos vfa vat ven cl y1 c1 o1 y2 c2 o2 y3 c3 o3) (fun u => u.1 = r ∧ SC cz pl k l b len bi kn kl ks B p0 u.2.1 p2 p3 p4 p5 u.2.2.1 u.2.2.2.2.1 u.2.2.2.1 p43 p44) ∧ Tt (M_read 200000 m0 m1 m21 m8 m7 vsf vsb vr vw vm rm pc fx n2 T2 n3 T3 RL n1 T1 LR m34 m30 m32 m33) (fun u => u.1 = r ∧ SM cz pl k l b len bi kn kl ks B m0 m1 m4 m5 u.2.2.1 u.2.1 m10 m21 u.2.2.2.2.2.2.2.2.2.2.2.2.2.2.2.2.2.2.2.2.1 u.2.2.2.2.2.2.2.2.2.2.2.2.2.2.2.2.2.2.2.2.2.1 u.2.2.2.2.2.2.2.2.2.2.2.2.2.2.2.2.2.2.2.2.2.2 u.2.2.2.2.2.2.2.2.2.2.2.2.2.2.2.2.2.2.2.1 m35 m38) := by
  by_cases hz : cz = 0
  · have hC2 := hC
    have hM2 := hM
    obtain ⟨c1, c2, _⟩ := hC
    obtain ⟨c1', c2', _⟩ := hM
    refine ⟨-1, cz, pl, k, l, b, len, bi, kn, kl, ks, B, h, ?_, ?_⟩
    · unfold P_read
      exact Tt_p (by rw [c1, hz]; rfl) (Tt_Si ⟨rfl, hC2⟩)
    · unfold M_read
      exact Tt_p (by rw [c1', hz]; rfl) (Tt_Si ⟨rfl, hM2⟩)
  · obtain ⟨h1, h2, h3, h4, h5, h6⟩ := h
    have e : cz = 1 := by omega
    subst e
    obtain ⟨rfl, rfl, d3, rfl, d5, d6, d7⟩ := hC
    obtain ⟨rfl, rfl, rfl, d4', d5', d6', d7'⟩ := hM
    have kl6 : kl ≤ 65536 := by
      have a1 := h5.1
      have a2 := h5.2.2.2.2.2.2
      omega
    obtain ⟨r, kn', kl', ks', B', hO, tP, tM⟩ := t_read (N1 := 19) (vkp := p1) (vkl := p6) (cks := p8) (ckd := p7) (vos := vos) (vfa := vfa) (vat := vat) (ven := ven) (cl := cl) (y1 := y1) (c1 := c1) (o1 := o1) (y2 := y2) (c2 := c2) (o2 := o2) (y3 := y3) (c3 := c3) (o3 := o3) (vrs := m8) (vrp := m7) (rS := m34) (rA := m30) (rM := m32) (rR := m33) (vsf := vsf) (vsb := vsb) (vr := vr) (vw := vw) (vm := vm) (rm := rm) (pc := pc) (fx := fx) (n2 := n2) (T2 := T2) (n3 := n3) (T3 := T3) (RL := RL) (n1 := n1) (T1 := T1) (LR := LR) d5 d4' h3 kl6 d6.2.1 (by omega) (by omega) hF hG
    refine ⟨r, 1, pl, k, l, b, len, bi, kn', kl', ks', B', ⟨by omega, h2, h3, h4, hO, fun q => absurd q (by omega)⟩, Tt_m tP ?_, Tt_m tM ?_⟩
    · rintro u ⟨g1, g2⟩
      exact ⟨g1, rfl, rfl, d3, rfl, d5, g2, fun q => absurd q (by omega)⟩
    · rintro u ⟨g1, g2⟩
      exact ⟨g1, rfl, rfl, rfl, d4', d5', g2, fun q => absurd q (by omega)⟩
/-! the law: every call answers alike -/
theorem Tt_R13 {ρ δ A1 A2 A3 A4 A5 A6 A7 A8 A9 A10 A11 A12 A13 : Type} {x : Option (ρ × A1 × A2 × A3 × A4 × A5 × A6 × A7 × A8 × A9 × A10 × A11 × A12 × A13)} {k : ρ → A1 → A2 → A3 → A4 → A5 → A6 → A7 → A8 → A9 → A10 → A11 → A12 → A13 → Option δ} {Q : δ → Prop} : Tt (mR13 x k) Q ↔ Tt x (fun u => Tt (k u.1 u.2.1 u.2.2.1 u.2.2.2.1 u.2.2.2.2.1 u.2.2.2.2.2.1 u.2.2.2.2.2.2.1 u.2.2.2.2.2.2.2.1 u.2.2.2.2.2.2.2.2.1 u.2.2.2.2.2.2.2.2.2.1 u.2.2.2.2.2.2.2.2.2.2.1 u.2.2.2.2.2.2.2.2.2.2.2.1 u.2.2.2.2.2.2.2.2.2.2.2.2.1 u.2.2.2.2.2.2.2.2.2.2.2.2.2) Q) := by
  cases x with
  | none => exact ⟨fun h => absurd h Tt_0, fun h => absurd h Tt_0⟩
  | some u => rw [Tt_S]; exact Iff.rfl
theorem Tt_R18 {ρ δ A1 A2 A3 A4 A5 A6 A7 A8 A9 A10 A11 A12 A13 A14 A15 A16 A17 A18 : Type} {x : Option (ρ × A1 × A2 × A3 × A4 × A5 × A6 × A7 × A8 × A9 × A10 × A11 × A12 × A13 × A14 × A15 × A16 × A17 × A18)} {k : ρ → A1 → A2 → A3 → A4 → A5 → A6 → A7 → A8 → A9 → A10 → A11 → A12 → A13 → A14 → A15 → A16 → A17 → A18 → Option δ} {Q : δ → Prop} : Tt (mR18 x k) Q ↔ Tt x (fun u => Tt (k u.1 u.2.1 u.2.2.1 u.2.2.2.1 u.2.2.2.2.1 u.2.2.2.2.2.1 u.2.2.2.2.2.2.1 u.2.2.2.2.2.2.2.1 u.2.2.2.2.2.2.2.2.1 u.2.2.2.2.2.2.2.2.2.1 u.2.2.2.2.2.2.2.2.2.2.1 u.2.2.2.2.2.2.2.2.2.2.2.1 u.2.2.2.2.2.2.2.2.2.2.2.2.1 u.2.2.2.2.2.2.2.2.2.2.2.2.2.1 u.2.2.2.2.2.2.2.2.2.2.2.2.2.2.1 u.2.2.2.2.2.2.2.2.2.2.2.2.2.2.2.1 u.2.2.2.2.2.2.2.2.2.2.2.2.2.2.2.2.1 u.2.2.2.2.2.2.2.2.2.2.2.2.2.2.2.2.2.1 u.2.2.2.2.2.2.2.2.2.2.2.2.2.2.2.2.2.2) Q) := by
  cases x with
  | none => exact ⟨fun h => absurd h Tt_0, fun h => absurd h Tt_0⟩
  | some u => rw [Tt_S]; exact Iff.rfl
theorem Tt_R24 {ρ δ A1 A2 A3 A4 A5 A6 A7 A8 A9 A10 A11 A12 A13 A14 A15 A16 A17 A18 A19 A20 A21 A22 A23 A24 : Type} {x : Option (ρ × A1 × A2 × A3 × A4 × A5 × A6 × A7 × A8 × A9 × A10 × A11 × A12 × A13 × A14 × A15 × A16 × A17 × A18 × A19 × A20 × A21 × A22 × A23 × A24)} {k : ρ → A1 → A2 → A3 → A4 → A5 → A6 → A7 → A8 → A9 → A10 → A11 → A12 → A13 → A14 → A15 → A16 → A17 → A18 → A19 → A20 → A21 → A22 → A23 → A24 → Option δ} {Q : δ → Prop} : Tt (mR24 x k) Q ↔ Tt x (fun u => Tt (k u.1 u.2.1 u.2.2.1 u.2.2.2.1 u.2.2.2.2.1 u.2.2.2.2.2.1 u.2.2.2.2.2.2.1 u.2.2.2.2.2.2.2.1 u.2.2.2.2.2.2.2.2.1 u.2.2.2.2.2.2.2.2.2.1 u.2.2.2.2.2.2.2.2.2.2.1 u.2.2.2.2.2.2.2.2.2.2.2.1 u.2.2.2.2.2.2.2.2.2.2.2.2.1 u.2.2.2.2.2.2.2.2.2.2.2.2.2.1 u.2.2.2.2.2.2.2.2.2.2.2.2.2.2.1 u.2.2.2.2.2.2.2.2.2.2.2.2.2.2.2.1 u.2.2.2.2.2.2.2.2.2.2.2.2.2.2.2.2.1 u.2.2.2.2.2.2.2.2.2.2.2.2.2.2.2.2.2.1 u.2.2.2.2.2.2.2.2.2.2.2.2.2.2.2.2.2.2.1 u.2.2.2.2.2.2.2.2.2.2.2.2.2.2.2.2.2.2.2.1 u.2.2.2.2.2.2.2.2.2.2.2.2.2.2.2.2.2.2.2.2.1 u.2.2.2.2.2.2.2.2.2.2.2.2.2.2.2.2.2.2.2.2.2.1 u.2.2.2.2.2.2.2.2.2.2.2.2.2.2.2.2.2.2.2.2.2.2.1 u.2.2.2.2.2.2.2.2.2.2.2.2.2.2.2.2.2.2.2.2.2.2.2.1 u.2.2.2.2.2.2.2.2.2.2.2.2.2.2.2.2.2.2.2.2.2.2.2.2) Q) := by
  cases x with
  | none => exact ⟨fun h => absurd h Tt_0, fun h => absurd h Tt_0⟩
  | some u => rw [Tt_S]; exact Iff.rfl
theorem Tt_R39 {ρ δ A1 A2 A3 A4 A5 A6 A7 A8 A9 A10 A11 A12 A13 A14 A15 A16 A17 A18 A19 A20 A21 A22 A23 A24 A25 A26 A27 A28 A29 A30 A31 A32 A33 A34 A35 A36 A37 A38 A39 : Type} {x : Option (ρ × A1 × A2 × A3 × A4 × A5 × A6 × A7 × A8 × A9 × A10 × A11 × A12 × A13 × A14 × A15 × A16 × A17 × A18 × A19 × A20 × A21 × A22 × A23 × A24 × A25 × A26 × A27 × A28 × A29 × A30 × A31 × A32 × A33 × A34 × A35 × A36 × A37 × A38 × A39)} {k : ρ → A1 → A2 → A3 → A4 → A5 → A6 → A7 → A8 → A9 → A10 → A11 → A12 → A13 → A14 → A15 → A16 → A17 → A18 → A19 → A20 → A21 → A22 → A23 → A24 → A25 → A26 → A27 → A28 → A29 → A30 → A31 → A32 → A33 → A34 → A35 → A36 → A37 → A38 → A39 → Option δ} {Q : δ → Prop} : Tt (mR39 x k) Q ↔ Tt x (fun u => Tt (k u.1 u.2.1 u.2.2.1 u.2.2.2.1 u.2.2.2.2.1 u.2.2.2.2.2.1 u.2.2.2.2.2.2.1 u.2.2.2.2.2.2.2.1 u.2.2.2.2.2.2.2.2.1 u.2.2.2.2.2.2.2.2.2.1 u.2.2.2.2.2.2.2.2.2.2.1 u.2.2.2.2.2.2.2.2.2.2.2.1 u.2.2.2.2.2.2.2.2.2.2.2.2.1 u.2.2.2.2.2.2.2.2.2.2.2.2.2.1 u.2.2.2.2.2.2.2.2.2.2.2.2.2.2.1 u.2.2.2.2.2.2.2.2.2.2.2.2.2.2.2.1 u.2.2.2.2.2.2.2.2.2.2.2.2.2.2.2.2.1 u.2.2.2.2.2.2.2.2.2.2.2.2.2.2.2.2.2.1 u.2.2.2.2.2.2.2.2.2.2.2.2.2.2.2.2.2.2.1 u.2.2.2.2.2.2.2.2.2.2.2.2.2.2.2.2.2.2.2.1 u.2.2.2.2.2.2.2.2.2.2.2.2.2.2.2.2.2.2.2.2.1 u.2.2.2.2.2.2.2.2.2.2.2.2.2.2.2.2.2.2.2.2.2.1 u.2.2.2.2.2.2.2.2.2.2.2.2.2.2.2.2.2.2.2.2.2.2.1 u.2.2.2.2.2.2.2.2.2.2.2.2.2.2.2.2.2.2.2.2.2.2.2.1 u.2.2.2.2.2.2.2.2.2.2.2.2.2.2.2.2.2.2.2.2.2.2.2.2.1 u.2.2.2.2.2.2.2.2.2.2.2.2.2.2.2.2.2.2.2.2.2.2.2.2.2.1 u.2.2.2.2.2.2.2.2.2.2.2.2.2.2.2.2.2.2.2.2.2.2.2.2.2.2.1 u.2.2.2.2.2.2.2.2.2.2.2.2.2.2.2.2.2.2.2.2.2.2.2.2.2.2.2.1 u.2.2.2.2.2.2.2.2.2.2.2.2.2.2.2.2.2.2.2.2.2.2.2.2.2.2.2.2.1 u.2.2.2.2.2.2.2.2.2.2.2.2.2.2.2.2.2.2.2.2.2.2.2.2.2.2.2.2.2.1 u.2.2.2.2.2.2.2.2.2.2.2.2.2.2.2.2.2.2.2.2.2.2.2.2.2.2.2.2.2.2.1 u.2.2.2.2.2.2.2.2.2.2.2.2.2.2.2.2.2.2.2.2.2.2.2.2.2.2.2.2.2.2.2.1 u.2.2.2.2.2.2.2.2.2.2.2.2.2.2.2.2.2.2.2.2.2.2.2.2.2.2.2.2.2.2.2.2.1 u.2.2.2.2.2.2.2.2.2.2.2.2.2.2.2.2.2.2.2.2.2.2.2.2.2.2.2.2.2.2.2.2.2.1 u.2.2.2.2.2.2.2.2.2.2.2.2.2.2.2.2.2.2.2.2.2.2.2.2.2.2.2.2.2.2.2.2.2.2.1 u.2.2.2.2.2.2.2.2.2.2.2.2.2.2.2.2.2.2.2.2.2.2.2.2.2.2.2.2.2.2.2.2.2.2.2.1 u.2.2.2.2.2.2.2.2.2.2.2.2.2.2.2.2.2.2.2.2.2.2.2.2.2.2.2.2.2.2.2.2.2.2.2.2.1 u.2.2.2.2.2.2.2.2.2.2.2.2.2.2.2.2.2.2.2.2.2.2.2.2.2.2.2.2.2.2.2.2.2.2.2.2.2.1 u.2.2.2.2.2.2.2.2.2.2.2.2.2.2.2.2.2.2.2.2.2.2.2.2.2.2.2.2.2.2.2.2.2.2.2.2.2.2.1 u.2.2.2.2.2.2.2.2.2.2.2.2.2.2.2.2.2.2.2.2.2.2.2.2.2.2.2.2.2.2.2.2.2.2.2.2.2.2.2) Q) := by
  cases x with
  | none => exact ⟨fun h => absurd h Tt_0, fun h => absurd h Tt_0⟩
  | some u => rw [Tt_S]; exact Iff.rfl
theorem Tt_gx {β : Type} {x : Int32} {n N : Nat} {k : Option β} {Q : β → Prop} (e : x = nI n) (h : n < N) (hN : N < 2 ^ 31) (q : Tt k Q) : Tt (mG x N k) Q := by
  subst e
  exact Tt_g h hN q
def Rl (uP : TP) (uM : TM) : Prop := ∃ cz pl k l b len bi kn kl ks B, SOK cz pl k l b len bi kn kl ks B ∧ SC cz pl k l b len bi kn kl ks B uP.1 uP.2.1 uP.2.2.1 uP.2.2.2.1 uP.2.2.2.2.1 uP.2.2.2.2.2.1 uP.2.2.2.2.2.2.1 uP.2.2.2.2.2.2.2.1 uP.2.2.2.2.2.2.2.2.1 uP.2.2.2.2.2.2.2.2.2.2.2.2.2.2.2.2.2.2.2.2.2.2.2.2.2.2.2.2.2.2.2.2.2.2.2.2.2.2.2.2.2.2.2.1 uP.2.2.2.2.2.2.2.2.2.2.2.2.2.2.2.2.2.2.2.2.2.2.2.2.2.2.2.2.2.2.2.2.2.2.2.2.2.2.2.2.2.2.2.2.1 ∧ SM cz pl k l b len bi kn kl ks B uM.1 uM.2.1 uM.2.2.2.2.1 uM.2.2.2.2.2.1 uM.2.2.2.2.2.2.2.1 uM.2.2.2.2.2.2.2.2.1 uM.2.2.2.2.2.2.2.2.2.2.1 uM.2.2.2.2.2.2.2.2.2.2.2.2.2.2.2.2.2.2.2.2.2.1 uM.2.2.2.2.2.2.2.2.2.2.2.2.2.2.2.2.2.2.2.2.2.2.2.2.2.2.2.2.2.2.1 uM.2.2.2.2.2.2.2.2.2.2.2.2.2.2.2.2.2.2.2.2.2.2.2.2.2.2.2.2.2.2.2.2.1 uM.2.2.2.2.2.2.2.2.2.2.2.2.2.2.2.2.2.2.2.2.2.2.2.2.2.2.2.2.2.2.2.2.2.1 uM.2.2.2.2.2.2.2.2.2.2.2.2.2.2.2.2.2.2.2.2.2.2.2.2.2.2.2.2.2.2.2.2.2.2.1 uM.2.2.2.2.2.2.2.2.2.2.2.2.2.2.2.2.2.2.2.2.2.2.2.2.2.2.2.2.2.2.2.2.2.2.2.1 uM.2.2.2.2.2.2.2.2.2.2.2.2.2.2.2.2.2.2.2.2.2.2.2.2.2.2.2.2.2.2.2.2.2.2.2.2.2.2.1
set_option maxHeartbeats 4000000 in
set_option maxRecDepth 100000 in
theorem law_step {L j : Nat} {xs c2 c3 c5 c6 c8 c10 c11 c13 : Nat → Int32} {K : TP → TM → Int32 → Option (Int32 × Unit)} {uP : TP} {uM : TM} (hL : L ≤ 2048) (hF : FixC c2 c3 c5 c6) (hT1 : TabOK c8 c10 lF 288) (hT2 : TabOK c11 c13 l5 32) (hj : j ≤ L) (hR : Rl uP uM) (go : j + 4 ≤ L → ∀ uP' uM' x, x = nI (j + 4) → Rl uP' uM' → Tt (K uP' uM' x) (fun u => u = (1, ()))) : Tt (Law_18 200000 L xs c2 c3 c5 c6 c8 c10 c11 c13 K uP uM (nI j)) (fun u => u = (1, ())) := by
  have hR0 := hR
  obtain ⟨cz, pl, k, l, b, len, bi, kn, kl, ks, B, hO, hC, hM⟩ := hR
  have i1 : nI j + 1 = nI (j + 1) := nI_1 j
  have i2 : nI j + 2 = nI (j + 2) := nI_add j 2
  have i3 : nI j + 3 = nI (j + 3) := nI_add j 3
  have i4 : nI j + 4 = nI (j + 4) := nI_add j 4
  unfold Law_18
  by_cases z : j + 4 ≤ L
  · have go := go z
    have L1 : L < 2 ^ 31 := by omega
    have e4 : nI L - 4 = nI (L - 4) := pk_sub (b := 4) (by omega)
    refine Tt_n (by rw [e4, nI_ltI (by omega) (by omega)]; omega) (Tt_g (by omega) L1 (Tt_l ?_))
    generalize xs (nI j).toNatClampNeg &&& 15 = w
    by_cases w0 : w = 0
    · refine Tt_p w0 (Tt_l (Tt_gx i1 (by omega) L1 ?_))
      by_cases hx : xs (nI j + 1).toNatClampNeg = 0
      · obtain ⟨cz, pl, k, l, b, len, bi, kn, kl, ks, B, hO, tP, tM⟩ := q_begin (x := 0) hO hC hM (Or.inl rfl)
        refine Tt_p hx (Tt_R5.2 (Tt_m tP ?_))
        intro u hu
        refine Tt_l (Tt_gx i1 (by omega) L1 (Tt_p hx (Tt_R5.2 (Tt_m tM ?_))))
        intro v hv
        exact Tt_l (go _ _ _ i4 ⟨cz, pl, k, l, b, len, bi, kn, kl, ks, B, hO, hu, hv⟩)
      · obtain ⟨cz, pl, k, l, b, len, bi, kn, kl, ks, B, hO, tP, tM⟩ := q_begin (x := 1) hO hC hM (Or.inr rfl)
        refine Tt_n hx (Tt_R5.2 (Tt_m tP ?_))
        intro u hu
        refine Tt_l (Tt_gx i1 (by omega) L1 (Tt_n hx (Tt_R5.2 (Tt_m tM ?_))))
        intro v hv
        exact Tt_l (go _ _ _ i4 ⟨cz, pl, k, l, b, len, bi, kn, kl, ks, B, hO, hu, hv⟩)
    refine Tt_n w0 ?_
    by_cases w1 : w = 1
    · refine Tt_p w1 (Tt_l (Tt_gx i1 (by omega) L1 (Tt_l (Tt_gx i2 (by omega) L1 (Tt_l (Tt_gx i3 (by omega) L1 (Tt_l (Tt_l ?_))))))))
      obtain ⟨r, cz, pl, k, l, b, len, bi, kn, kl, ks, B, hO, tP, tM⟩ := q_put (tc := uP.2.2.2.2.2.2.2.2.2.2.1) (ex := uP.2.2.2.2.2.2.2.2.2.1) (ol := uP.2.2.2.2.2.2.2.2.2.2.2.2.2.2.2.2.2.2.2.2.2.2.2.2.2.2.2.2.2.2.2.2.2.2.2.2.2.1) (oo := uP.2.2.2.2.2.2.2.2.2.2.2.2.2.2.2.2.2.2.2.2.2.2.2.2.2.2.2.2.2.2.2.2.2.2.2.2.2.2.1) (ooc := uP.2.2.2.2.2.2.2.2.2.2.2.2.2.2.2.2.2.2.2.2.2.2.2.2.2.2.2.2.2.2.2.2.2.2.2.2.2.2.2.1) (late := uP.2.2.2.2.2.2.2.2.2.2.2.2.2.2.2.2.2.2.2.2.2.2.2.2.2.2.2.2.2.2.2.2.2.2.2.2.1) (before := uP.2.2.2.2.2.2.2.2.2.2.2.2.2.2.2.2.2.2.2.2.2.2.2.2.2.2.2.2.2.2.2.2.2.2.2.1) (od := uP.2.2.2.2.2.2.2.2.2.2.2.2.2.2.2.2.2.2.2.2.2.2.2.2.2.2.2.2.2.2.2.2.2.2.2.2.2.2.2.2.1) (sc := uP.2.2.2.2.2.2.2.2.2.2.2.2.2.2.2.2.2.2.2.2.2.2.2.2.2.2.2.2.2.2.2.2.2.2.2.2.2.2.2.2.2.1) (dc := uP.2.2.2.2.2.2.2.2.2.2.2.1) (toks := uP.2.2.2.2.2.2.2.2.2.2.2.2.2.2.2.2.2.2.2.2.2.2.2.2.2.2.2.2.2.2.2.2.2.2.2.2.2.2.2.2.2.2.1) (msl := uP.2.2.2.2.2.2.2.2.2.2.2.2.2.2.2.2.2.2.2.2.2.2.2.2.2.2.2.2.2.2.2.2.2.1) (many := uP.2.2.2.2.2.2.2.2.2.2.2.2.2.2.2.2.2.2.2.2.2.2.2.1) (lc := uP.2.2.2.2.2.2.2.2.2.2.2.2.2.2.2.2.2.2.2.2.2.2.2.2.1) (ls := uP.2.2.2.2.2.2.2.2.2.2.2.2.2.2.2.2.2.2.2.2.2.2.2.2.2.2.2.2.1) (ib := uP.2.2.2.2.2.2.2.2.2.2.2.2.2.2.2.2.2.2.2.2.2.2.2.2.2.2.1) (it := uP.2.2.2.2.2.2.2.2.2.2.2.2.2.2.2.2.2.2.2.2.2.2.2.2.2.1) (pr := uP.2.2.2.2.2.2.2.2.2.2.2.2.2.2.2.2.2.2.2.2.2.2.2.2.2.2.2.1) (mdl := uP.2.2.2.2.2.2.2.2.2.2.2.2.2.2.2.2.2.2.2.2.2.2.2.2.2.2.2.2.2.2.1) (msn := uP.2.2.2.2.2.2.2.2.2.2.2.2.2.2.2.2.2.2.2.2.2.2.2.2.2.2.2.2.2.2.2.2.2.2.1) (msc := uP.2.2.2.2.2.2.2.2.2.2.2.2.2.2.2.2.2.2.2.2.2.2.2.2.2.2.2.2.2.2.2.2.1) (mdn := uP.2.2.2.2.2.2.2.2.2.2.2.2.2.2.2.2.2.2.2.2.2.2.2.2.2.2.2.2.2.2.2.1) (mdc := uP.2.2.2.2.2.2.2.2.2.2.2.2.2.2.2.2.2.2.2.2.2.2.2.2.2.2.2.2.2.1) (hrl := uP.2.2.2.2.2.2.2.2.2.2.2.2.2.2.1) (htc := uP.2.2.2.2.2.2.2.2.2.2.2.2.2.2.2.2.1) (hsl := uP.2.2.2.2.2.2.2.2.2.2.2.2.2.2.2.1) (hdl := uP.2.2.2.2.2.2.2.2.2.2.2.2.2.1) (hcl := uP.2.2.2.2.2.2.2.2.2.2.2.2.1) (hrow := uP.2.2.2.2.2.2.2.2.2.2.2.2.2.2.2.2.2.2.2.2.2.1) (hcs := uP.2.2.2.2.2.2.2.2.2.2.2.2.2.2.2.2.2.2.2.2.1) (htd := uP.2.2.2.2.2.2.2.2.2.2.2.2.2.2.2.2.2.2.2.2.2.2.1) (hcle := uP.2.2.2.2.2.2.2.2.2.2.2.2.2.2.2.2.2.2.1) (hnx := uP.2.2.2.2.2.2.2.2.2.2.2.2.2.2.2.2.2.2.2.1) (hco := uP.2.2.2.2.2.2.2.2.2.2.2.2.2.2.2.2.2.1) (pb := uM.2.2.2.1) (tok := uM.2.2.2.2.2.2.2.2.2.2.2.2.2.2.1) (st := uM.2.2.2.2.2.2.2.2.2.2.2.2.2.1) (pla := uM.2.2.2.2.2.2.2.2.2.2.2.2.2.2.2.2.2.2.2.2.2.2.2.2.2.2.2.1) (pbe := uM.2.2.2.2.2.2.2.2.2.2.2.2.2.2.2.2.2.2.2.2.2.2.2.2.2.2.1) (pk := uM.2.2.2.2.2.2.2.2.2.2.2.2.2.2.2.2.2.2.2.2.2.2.2.2.2.1) (tl := uM.2.2.2.2.2.2.2.2.2.2.2.2.2.2.2.2.2.2.2.2.2.2.2.2.2.2.2.2.2.2.2.2.2.2.2.2.2.2.2.2.2.2.2.1) (tv := uM.2.2.2.2.2.2.2.2.2.2.2.2.2.2.2.2.2.2.2.2.2.2.2.2.2.2.2.2.2.2.2.2.2.2.2.2.2.2.2.2.2.2.2.2.1) (cnt := uM.2.2.2.2.2.2.2.2.2.2.2.2.2.2.2.2.2.1) (rk := uM.2.2.2.2.2.2.2.2.2.2.2.2.2.2.2.2.2.2.2.2.2.2.2.2.2.2.2.2.2.1) (lns := uM.2.2.2.2.2.2.2.2.2.2.2.2.2.2.2.2.2.2.2.2.2.2.2.2.1) (we := uM.2.2.2.2.2.2.2.2.2.2.2.2.2.2.2.2.2.2.2.2.2.2.2.2.2.2.2.2.2.2.2.2.2.2.2.2.2.2.2.2.2.2.2.2.2.1) (wb := uM.2.2.2.2.2.2.2.2.2.2.2.2.2.2.2.2.2.2.2.2.2.2.2.2.2.2.2.2.2.2.2.2.2.2.2.2.2.2.2.2.2.2.2.2.2.2) (itM := uM.2.2.2.2.2.2.2.2.2.2.2.2.2.2.2.2.2.2.2.2.2.2.1) (lr := uM.2.2.2.2.2.2.2.2.2.2.2.2.2.2.2.2.2.2.2.2.2.2.2.1) (sp := uM.2.2.2.2.2.2.2.2.2.2.2.2.2.2.2.2.2.2.2.2.2.2.2.2.2.2.2.2.2.2.2.2.2.2.2.2.2.2.2.1) (mo := uM.2.2.2.2.2.2.2.2.2.2.2.2.2.2.2.2.2.2.2.2.2.2.2.2.2.2.2.2.2.2.2.2.2.2.2.2.2.2.2.2.1) (fx := uM.2.2.2.2.2.2.2.2.2.2.2.2.2.2.2.2.2.2.2.2.1) (co := uM.2.2.2.2.2.2.2.2.2.2.2.2.2.2.2.2.1) (x1 := ((xs (nI j + 1).toNatClampNeg).toInt64 <<< ((32 : Int32).toInt64 &&& 63)) ||| ((xs (nI j + 2).toNatClampNeg).toInt64 &&& 4294967295)) (x3 := xs (nI j + 3).toNatClampNeg) hF hO hC hM
      refine Tt_R39.2 (Tt_m tP ?_)
      rintro u ⟨hu1, hu⟩
      refine Tt_l (Tt_gx i1 (by omega) L1 (Tt_l (Tt_gx i2 (by omega) L1 (Tt_l (Tt_gx i3 (by omega) L1 (Tt_l (Tt_l (Tt_R25.2 (Tt_m tM ?_)))))))))
      rintro v ⟨hv1, hv⟩
      exact Tt_p (hu1.trans hv1.symm) (Tt_l (go _ _ _ i4 ⟨cz, pl, k, l, b, len, bi, kn, kl, ks, B, hO, hu, hv⟩))
    refine Tt_n w1 ?_
    by_cases w2 : w = 2
    · refine Tt_p w2 (Tt_l (Tt_gx i1 (by omega) L1 (Tt_l (Tt_gx i2 (by omega) L1 (Tt_l (Tt_gx i3 (by omega) L1 (Tt_l (Tt_l (Tt_l ?_)))))))))
      obtain ⟨r, cz, pl, k, l, b, len, bi, kn, kl, ks, B, hO, tP, tM⟩ := q_fill (tc := uP.2.2.2.2.2.2.2.2.2.2.1) (ex := uP.2.2.2.2.2.2.2.2.2.1) (ol := uP.2.2.2.2.2.2.2.2.2.2.2.2.2.2.2.2.2.2.2.2.2.2.2.2.2.2.2.2.2.2.2.2.2.2.2.2.2.1) (oo := uP.2.2.2.2.2.2.2.2.2.2.2.2.2.2.2.2.2.2.2.2.2.2.2.2.2.2.2.2.2.2.2.2.2.2.2.2.2.2.1) (ooc := uP.2.2.2.2.2.2.2.2.2.2.2.2.2.2.2.2.2.2.2.2.2.2.2.2.2.2.2.2.2.2.2.2.2.2.2.2.2.2.2.1) (late := uP.2.2.2.2.2.2.2.2.2.2.2.2.2.2.2.2.2.2.2.2.2.2.2.2.2.2.2.2.2.2.2.2.2.2.2.2.1) (before := uP.2.2.2.2.2.2.2.2.2.2.2.2.2.2.2.2.2.2.2.2.2.2.2.2.2.2.2.2.2.2.2.2.2.2.2.1) (od := uP.2.2.2.2.2.2.2.2.2.2.2.2.2.2.2.2.2.2.2.2.2.2.2.2.2.2.2.2.2.2.2.2.2.2.2.2.2.2.2.2.1) (sc := uP.2.2.2.2.2.2.2.2.2.2.2.2.2.2.2.2.2.2.2.2.2.2.2.2.2.2.2.2.2.2.2.2.2.2.2.2.2.2.2.2.2.1) (dc := uP.2.2.2.2.2.2.2.2.2.2.2.1) (toks := uP.2.2.2.2.2.2.2.2.2.2.2.2.2.2.2.2.2.2.2.2.2.2.2.2.2.2.2.2.2.2.2.2.2.2.2.2.2.2.2.2.2.2.1) (msl := uP.2.2.2.2.2.2.2.2.2.2.2.2.2.2.2.2.2.2.2.2.2.2.2.2.2.2.2.2.2.2.2.2.2.1) (many := uP.2.2.2.2.2.2.2.2.2.2.2.2.2.2.2.2.2.2.2.2.2.2.2.1) (lc := uP.2.2.2.2.2.2.2.2.2.2.2.2.2.2.2.2.2.2.2.2.2.2.2.2.1) (ls := uP.2.2.2.2.2.2.2.2.2.2.2.2.2.2.2.2.2.2.2.2.2.2.2.2.2.2.2.2.1) (ib := uP.2.2.2.2.2.2.2.2.2.2.2.2.2.2.2.2.2.2.2.2.2.2.2.2.2.2.1) (it := uP.2.2.2.2.2.2.2.2.2.2.2.2.2.2.2.2.2.2.2.2.2.2.2.2.2.1) (pr := uP.2.2.2.2.2.2.2.2.2.2.2.2.2.2.2.2.2.2.2.2.2.2.2.2.2.2.2.1) (mdl := uP.2.2.2.2.2.2.2.2.2.2.2.2.2.2.2.2.2.2.2.2.2.2.2.2.2.2.2.2.2.2.1) (msn := uP.2.2.2.2.2.2.2.2.2.2.2.2.2.2.2.2.2.2.2.2.2.2.2.2.2.2.2.2.2.2.2.2.2.2.1) (msc := uP.2.2.2.2.2.2.2.2.2.2.2.2.2.2.2.2.2.2.2.2.2.2.2.2.2.2.2.2.2.2.2.2.1) (mdn := uP.2.2.2.2.2.2.2.2.2.2.2.2.2.2.2.2.2.2.2.2.2.2.2.2.2.2.2.2.2.2.2.1) (mdc := uP.2.2.2.2.2.2.2.2.2.2.2.2.2.2.2.2.2.2.2.2.2.2.2.2.2.2.2.2.2.1) (hrl := uP.2.2.2.2.2.2.2.2.2.2.2.2.2.2.1) (htc := uP.2.2.2.2.2.2.2.2.2.2.2.2.2.2.2.2.1) (hsl := uP.2.2.2.2.2.2.2.2.2.2.2.2.2.2.2.1) (hdl := uP.2.2.2.2.2.2.2.2.2.2.2.2.2.1) (hcl := uP.2.2.2.2.2.2.2.2.2.2.2.2.1) (hrow := uP.2.2.2.2.2.2.2.2.2.2.2.2.2.2.2.2.2.2.2.2.2.1) (hcs := uP.2.2.2.2.2.2.2.2.2.2.2.2.2.2.2.2.2.2.2.2.1) (htd := uP.2.2.2.2.2.2.2.2.2.2.2.2.2.2.2.2.2.2.2.2.2.2.1) (hcle := uP.2.2.2.2.2.2.2.2.2.2.2.2.2.2.2.2.2.2.1) (hnx := uP.2.2.2.2.2.2.2.2.2.2.2.2.2.2.2.2.2.2.2.1) (hco := uP.2.2.2.2.2.2.2.2.2.2.2.2.2.2.2.2.2.1) (pb := uM.2.2.2.1) (tok := uM.2.2.2.2.2.2.2.2.2.2.2.2.2.2.1) (st := uM.2.2.2.2.2.2.2.2.2.2.2.2.2.1) (pla := uM.2.2.2.2.2.2.2.2.2.2.2.2.2.2.2.2.2.2.2.2.2.2.2.2.2.2.2.1) (pbe := uM.2.2.2.2.2.2.2.2.2.2.2.2.2.2.2.2.2.2.2.2.2.2.2.2.2.2.1) (pk := uM.2.2.2.2.2.2.2.2.2.2.2.2.2.2.2.2.2.2.2.2.2.2.2.2.2.1) (tl := uM.2.2.2.2.2.2.2.2.2.2.2.2.2.2.2.2.2.2.2.2.2.2.2.2.2.2.2.2.2.2.2.2.2.2.2.2.2.2.2.2.2.2.2.1) (tv := uM.2.2.2.2.2.2.2.2.2.2.2.2.2.2.2.2.2.2.2.2.2.2.2.2.2.2.2.2.2.2.2.2.2.2.2.2.2.2.2.2.2.2.2.2.1) (cnt := uM.2.2.2.2.2.2.2.2.2.2.2.2.2.2.2.2.2.1) (rk := uM.2.2.2.2.2.2.2.2.2.2.2.2.2.2.2.2.2.2.2.2.2.2.2.2.2.2.2.2.2.1) (lns := uM.2.2.2.2.2.2.2.2.2.2.2.2.2.2.2.2.2.2.2.2.2.2.2.2.1) (we := uM.2.2.2.2.2.2.2.2.2.2.2.2.2.2.2.2.2.2.2.2.2.2.2.2.2.2.2.2.2.2.2.2.2.2.2.2.2.2.2.2.2.2.2.2.2.1) (wb := uM.2.2.2.2.2.2.2.2.2.2.2.2.2.2.2.2.2.2.2.2.2.2.2.2.2.2.2.2.2.2.2.2.2.2.2.2.2.2.2.2.2.2.2.2.2.2) (itM := uM.2.2.2.2.2.2.2.2.2.2.2.2.2.2.2.2.2.2.2.2.2.2.1) (lr := uM.2.2.2.2.2.2.2.2.2.2.2.2.2.2.2.2.2.2.2.2.2.2.2.1) (sp := uM.2.2.2.2.2.2.2.2.2.2.2.2.2.2.2.2.2.2.2.2.2.2.2.2.2.2.2.2.2.2.2.2.2.2.2.2.2.2.2.1) (mo := uM.2.2.2.2.2.2.2.2.2.2.2.2.2.2.2.2.2.2.2.2.2.2.2.2.2.2.2.2.2.2.2.2.2.2.2.2.2.2.2.2.1) (fx := uM.2.2.2.2.2.2.2.2.2.2.2.2.2.2.2.2.2.2.2.2.1) (co := uM.2.2.2.2.2.2.2.2.2.2.2.2.2.2.2.2.1) (x1 := xs (nI j + 1).toNatClampNeg) (x2 := xs (nI j + 2).toNatClampNeg) (x3 := xs (nI j + 3).toNatClampNeg) hF hO hC hM
      refine Tt_R39.2 (Tt_m tP ?_)
      rintro u ⟨hu1, hu⟩
      refine Tt_l (Tt_gx i1 (by omega) L1 (Tt_l (Tt_gx i2 (by omega) L1 (Tt_l (Tt_gx i3 (by omega) L1 (Tt_l (Tt_l (Tt_l (Tt_R25.2 (Tt_m tM ?_))))))))))
      rintro v ⟨hv1, hv⟩
      exact Tt_p (hu1.trans hv1.symm) (Tt_l (go _ _ _ i4 ⟨cz, pl, k, l, b, len, bi, kn, kl, ks, B, hO, hu, hv⟩))
    refine Tt_n w2 ?_
    by_cases w3 : w = 3
    · refine Tt_p w3 ?_
      obtain ⟨r, tP, tM⟩ := t_refK (s := (k, l, b, len, bi)) (vp := uP.2.2.1) (vl := uP.2.2.2.2.2.2.2.2.2.2.2.2.2.2.2.2.2.2.2.2.2.2.2.2.2.2.2.2.2.2.2.2.2.2.2.2.2.2.2.2.2.2.2.1) (vi := uP.2.2.2.2.1) (vr := uM.2.2.2.2.2.2.2.2.2.2.1) (vpM := uM.2.2.2.2.1) (viM := uM.2.1) (pd := uP.2.2.2.2.2.2.2.2.2.2.2.2.2.2.2.2.2.2.2.2.2.2.2.2.2.2.2.2.2.2.2.2.2.2.2.2.2.2.2.2.2.2.2.2.1) (img := uP.2.2.2.2.2.1) (row := uM.2.2.2.2.2.2.2.2.2.2.2.2.2.2.2.2.2.2.2.2.2.2.2.2.2.2.2.2.2.2.2.2.2.2.2.1) (imgM := uM.2.2.2.2.2.2.2.2.2.2.2.2.2.2.2.2.2.2.2.2.2.1) (sts := uM.2.2.2.2.2.2.2.2.2.2.2.2.2.2.2.2.2.2.2.2.2.2.2.2.2.2.2.2.2.2.2.2.2.2.2.2.2.2.1) hO.1 (fun q => ⟨hO.2.2.2.2.2 q, S_CRl hC q, S_MRl hM q⟩)
      rw [← hC.1] at tP
      rw [← hM.1] at tM
      refine Tt_R0.2 (Tt_m tP ?_)
      intro u hu
      refine Tt_R0.2 (Tt_m tM ?_)
      intro v hv
      exact Tt_p ((lg_cmp_eq _ _).2 (hu.trans hv.symm)) (Tt_l (go _ _ _ i4 hR0))
    refine Tt_n w3 ?_
    by_cases w4 : w = 4
    · refine Tt_p w4 ?_
      obtain ⟨r, cz, pl, k, l, b, len, bi, kn, kl, ks, B, hO, tP, tM⟩ := q_close (tc := uP.2.2.2.2.2.2.2.2.2.2.1) (ex := uP.2.2.2.2.2.2.2.2.2.1) (ol := uP.2.2.2.2.2.2.2.2.2.2.2.2.2.2.2.2.2.2.2.2.2.2.2.2.2.2.2.2.2.2.2.2.2.2.2.2.2.1) (oo := uP.2.2.2.2.2.2.2.2.2.2.2.2.2.2.2.2.2.2.2.2.2.2.2.2.2.2.2.2.2.2.2.2.2.2.2.2.2.2.1) (ooc := uP.2.2.2.2.2.2.2.2.2.2.2.2.2.2.2.2.2.2.2.2.2.2.2.2.2.2.2.2.2.2.2.2.2.2.2.2.2.2.2.1) (late := uP.2.2.2.2.2.2.2.2.2.2.2.2.2.2.2.2.2.2.2.2.2.2.2.2.2.2.2.2.2.2.2.2.2.2.2.2.1) (before := uP.2.2.2.2.2.2.2.2.2.2.2.2.2.2.2.2.2.2.2.2.2.2.2.2.2.2.2.2.2.2.2.2.2.2.2.1) (od := uP.2.2.2.2.2.2.2.2.2.2.2.2.2.2.2.2.2.2.2.2.2.2.2.2.2.2.2.2.2.2.2.2.2.2.2.2.2.2.2.2.1) (sc := uP.2.2.2.2.2.2.2.2.2.2.2.2.2.2.2.2.2.2.2.2.2.2.2.2.2.2.2.2.2.2.2.2.2.2.2.2.2.2.2.2.2.1) (dc := uP.2.2.2.2.2.2.2.2.2.2.2.1) (toks := uP.2.2.2.2.2.2.2.2.2.2.2.2.2.2.2.2.2.2.2.2.2.2.2.2.2.2.2.2.2.2.2.2.2.2.2.2.2.2.2.2.2.2.1) (msl := uP.2.2.2.2.2.2.2.2.2.2.2.2.2.2.2.2.2.2.2.2.2.2.2.2.2.2.2.2.2.2.2.2.2.1) (many := uP.2.2.2.2.2.2.2.2.2.2.2.2.2.2.2.2.2.2.2.2.2.2.2.1) (lc := uP.2.2.2.2.2.2.2.2.2.2.2.2.2.2.2.2.2.2.2.2.2.2.2.2.1) (ls := uP.2.2.2.2.2.2.2.2.2.2.2.2.2.2.2.2.2.2.2.2.2.2.2.2.2.2.2.2.1) (ib := uP.2.2.2.2.2.2.2.2.2.2.2.2.2.2.2.2.2.2.2.2.2.2.2.2.2.2.1) (it := uP.2.2.2.2.2.2.2.2.2.2.2.2.2.2.2.2.2.2.2.2.2.2.2.2.2.1) (pr := uP.2.2.2.2.2.2.2.2.2.2.2.2.2.2.2.2.2.2.2.2.2.2.2.2.2.2.2.1) (mdl := uP.2.2.2.2.2.2.2.2.2.2.2.2.2.2.2.2.2.2.2.2.2.2.2.2.2.2.2.2.2.2.1) (msn := uP.2.2.2.2.2.2.2.2.2.2.2.2.2.2.2.2.2.2.2.2.2.2.2.2.2.2.2.2.2.2.2.2.2.2.1) (msc := uP.2.2.2.2.2.2.2.2.2.2.2.2.2.2.2.2.2.2.2.2.2.2.2.2.2.2.2.2.2.2.2.2.1) (mdn := uP.2.2.2.2.2.2.2.2.2.2.2.2.2.2.2.2.2.2.2.2.2.2.2.2.2.2.2.2.2.2.2.1) (mdc := uP.2.2.2.2.2.2.2.2.2.2.2.2.2.2.2.2.2.2.2.2.2.2.2.2.2.2.2.2.2.1) (hrl := uP.2.2.2.2.2.2.2.2.2.2.2.2.2.2.1) (htc := uP.2.2.2.2.2.2.2.2.2.2.2.2.2.2.2.2.1) (hsl := uP.2.2.2.2.2.2.2.2.2.2.2.2.2.2.2.1) (hdl := uP.2.2.2.2.2.2.2.2.2.2.2.2.2.1) (hcl := uP.2.2.2.2.2.2.2.2.2.2.2.2.1) (hrow := uP.2.2.2.2.2.2.2.2.2.2.2.2.2.2.2.2.2.2.2.2.2.1) (hcs := uP.2.2.2.2.2.2.2.2.2.2.2.2.2.2.2.2.2.2.2.2.1) (htd := uP.2.2.2.2.2.2.2.2.2.2.2.2.2.2.2.2.2.2.2.2.2.2.1) (hcle := uP.2.2.2.2.2.2.2.2.2.2.2.2.2.2.2.2.2.2.1) (hnx := uP.2.2.2.2.2.2.2.2.2.2.2.2.2.2.2.2.2.2.2.1) (hco := uP.2.2.2.2.2.2.2.2.2.2.2.2.2.2.2.2.2.1) (pb := uM.2.2.2.1) (tok := uM.2.2.2.2.2.2.2.2.2.2.2.2.2.2.1) (st := uM.2.2.2.2.2.2.2.2.2.2.2.2.2.1) (pla := uM.2.2.2.2.2.2.2.2.2.2.2.2.2.2.2.2.2.2.2.2.2.2.2.2.2.2.2.1) (pbe := uM.2.2.2.2.2.2.2.2.2.2.2.2.2.2.2.2.2.2.2.2.2.2.2.2.2.2.1) (pk := uM.2.2.2.2.2.2.2.2.2.2.2.2.2.2.2.2.2.2.2.2.2.2.2.2.2.1) (tl := uM.2.2.2.2.2.2.2.2.2.2.2.2.2.2.2.2.2.2.2.2.2.2.2.2.2.2.2.2.2.2.2.2.2.2.2.2.2.2.2.2.2.2.2.1) (tv := uM.2.2.2.2.2.2.2.2.2.2.2.2.2.2.2.2.2.2.2.2.2.2.2.2.2.2.2.2.2.2.2.2.2.2.2.2.2.2.2.2.2.2.2.2.1) (cnt := uM.2.2.2.2.2.2.2.2.2.2.2.2.2.2.2.2.2.1) (rk := uM.2.2.2.2.2.2.2.2.2.2.2.2.2.2.2.2.2.2.2.2.2.2.2.2.2.2.2.2.2.1) (lns := uM.2.2.2.2.2.2.2.2.2.2.2.2.2.2.2.2.2.2.2.2.2.2.2.2.1) (we := uM.2.2.2.2.2.2.2.2.2.2.2.2.2.2.2.2.2.2.2.2.2.2.2.2.2.2.2.2.2.2.2.2.2.2.2.2.2.2.2.2.2.2.2.2.2.1) (wb := uM.2.2.2.2.2.2.2.2.2.2.2.2.2.2.2.2.2.2.2.2.2.2.2.2.2.2.2.2.2.2.2.2.2.2.2.2.2.2.2.2.2.2.2.2.2.2) (itM := uM.2.2.2.2.2.2.2.2.2.2.2.2.2.2.2.2.2.2.2.2.2.2.1) (lr := uM.2.2.2.2.2.2.2.2.2.2.2.2.2.2.2.2.2.2.2.2.2.2.2.1) (sp := uM.2.2.2.2.2.2.2.2.2.2.2.2.2.2.2.2.2.2.2.2.2.2.2.2.2.2.2.2.2.2.2.2.2.2.2.2.2.2.2.1) (mo := uM.2.2.2.2.2.2.2.2.2.2.2.2.2.2.2.2.2.2.2.2.2.2.2.2.2.2.2.2.2.2.2.2.2.2.2.2.2.2.2.2.1) (fx := uM.2.2.2.2.2.2.2.2.2.2.2.2.2.2.2.2.2.2.2.2.1) (co := uM.2.2.2.2.2.2.2.2.2.2.2.2.2.2.2.2.1) hF hO hC hM
      refine Tt_R39.2 (Tt_m tP ?_)
      rintro u ⟨hu1, hu⟩
      refine Tt_R24.2 (Tt_m tM ?_)
      rintro v ⟨hv1, hv⟩
      exact Tt_p (hu1.trans hv1.symm) (Tt_l (go _ _ _ i4 ⟨cz, pl, k, l, b, len, bi, kn, kl, ks, B, hO, hu, hv⟩))
    refine Tt_n w4 ?_
    by_cases w5 : w = 5
    · refine Tt_p w5 (Tt_l (Tt_gx i1 (by omega) L1 (Tt_l ?_)))
      obtain ⟨r, tP, tM⟩ := t_sizeK (vi := nI len) (x := xs (nI j + 1).toNatClampNeg) hC.2.2.2.2.2.1 hM.2.2.2.2.2.1
      rw [← hC.2.2.2.1] at tP
      rw [← hM.2.2.1] at tM
      refine Tt_R0.2 (Tt_m tP ?_)
      intro u hu
      refine Tt_l (Tt_gx i1 (by omega) L1 (Tt_l (Tt_R0.2 (Tt_m tM ?_))))
      intro v hv
      exact Tt_p (hu.trans hv.symm) (Tt_l (go _ _ _ i4 hR0))
    refine Tt_n w5 ?_
    by_cases w6 : w = 6
    · refine Tt_p w6 (Tt_l (Tt_gx i1 (by omega) L1 (Tt_l ?_)))
      obtain ⟨r, tP, tM⟩ := t_wordK (x1 := xs (nI j + 1).toNatClampNeg) hC.2.2.2.2.1 hM.2.2.2.1 hO.2.2.1
      rw [← hC.2.2.2.1] at tP
      rw [← hM.2.2.1] at tM
      refine Tt_R0.2 (Tt_m tP ?_)
      intro u hu
      refine Tt_l (Tt_gx i1 (by omega) L1 (Tt_l (Tt_R0.2 (Tt_m tM ?_))))
      intro v hv
      exact Tt_p ((lg_cmp_eq _ _).2 (hu.trans hv.symm)) (Tt_l (go _ _ _ i4 hR0))
    refine Tt_n w6 ?_
    by_cases w7 : w = 7
    · refine Tt_p w7 (Tt_l (Tt_gx i1 (by omega) L1 (Tt_l (Tt_gx i2 (by omega) L1 (Tt_l (Tt_l ?_))))))
      obtain ⟨r, cz, pl, k, l, b, len, bi, kn, kl, ks, B, hO, tP, tM⟩ := q_patch (x1 := xs (nI j + 1).toNatClampNeg) (x2 := xs (nI j + 2).toNatClampNeg) hO hC hM
      refine Tt_R1.2 (Tt_m tP ?_)
      rintro u ⟨hu1, hu⟩
      refine Tt_l (Tt_gx i1 (by omega) L1 (Tt_l (Tt_gx i2 (by omega) L1 (Tt_l (Tt_l (Tt_R1.2 (Tt_m tM ?_)))))))
      rintro v ⟨hv1, hv⟩
      exact Tt_p (hu1.trans hv1.symm) (Tt_l (go _ _ _ i4 ⟨cz, pl, k, l, b, len, bi, kn, kl, ks, B, hO, hu, hv⟩))
    refine Tt_n w7 ?_
    by_cases w8 : w = 8
    · refine Tt_p w8 (Tt_l (Tt_gx i1 (by omega) L1 (Tt_l ?_)))
      obtain ⟨r, cz, pl, k, l, b, len, bi, kn, kl, ks, B, hO, tP, tM⟩ := q_cut (x1 := xs (nI j + 1).toNatClampNeg) hO hC hM
      refine Tt_R1.2 (Tt_m tP ?_)
      rintro u ⟨hu1, hu⟩
      refine Tt_l (Tt_gx i1 (by omega) L1 (Tt_l (Tt_R1.2 (Tt_m tM ?_))))
      rintro v ⟨hv1, hv⟩
      exact Tt_p (hu1.trans hv1.symm) (Tt_l (go _ _ _ i4 ⟨cz, pl, k, l, b, len, bi, kn, kl, ks, B, hO, hu, hv⟩))
    refine Tt_n w8 ?_
    by_cases w9 : w = 9
    · refine Tt_p w9 ?_
      obtain ⟨r, cz, pl, k, l, b, len, bi, kn, kl, ks, B, hO, tP, tM⟩ := q_read (vos := uP.2.2.2.2.2.2.2.2.2.2.2.2.2.2.2.2.2.2.2.2.2.2.2.2.2.2.2.2.2.2.2.2.2.2.2.2.2.2.2.2.2.2.2.2.2.2.1) (vfa := uP.2.2.2.2.2.2.2.2.2.2.2.2.2.2.2.2.2.2.2.2.2.2.2.2.2.2.2.2.2.2.2.2.2.2.2.2.2.2.2.2.2.2.2.2.2.1) (vat := uP.2.2.2.2.2.2.2.2.2.2.2.2.2.2.2.2.2.2.2.2.2.2.2.2.2.2.2.2.2.2.2.2.2.2.2.2.2.2.2.2.2.2.2.2.2.2.2.1) (ven := uP.2.2.2.2.2.2.2.2.2.2.2.2.2.2.2.2.2.2.2.2.2.2.2.2.2.2.2.2.2.2.2.2.2.2.2.2.2.2.2.2.2.2.2.2.2.2.2.2.1) (cl := uP.2.2.2.2.2.2.2.2.2.2.2.2.2.2.2.2.2.2.2.2.2.2.2.2.2.2.2.2.2.2.2.2.2.2.2.2.2.2.2.2.2.2.2.2.2.2.2.2.2.2.2.2.1) (y1 := uP.2.2.2.2.2.2.2.2.2.2.2.2.2.2.2.2.2.2.2.2.2.2.2.2.2.2.2.2.2.2.2.2.2.2.2.2.2.2.2.2.2.2.2.2.2.2.2.2.2.2.2.1) (c1 := uP.2.2.2.2.2.2.2.2.2.2.2.2.2.2.2.2.2.2.2.2.2.2.2.2.2.2.2.2.2.2.2.2.2.2.2.2.2.2.2.2.2.2.2.2.2.2.2.2.2.1) (o1 := uP.2.2.2.2.2.2.2.2.2.2.2.2.2.2.2.2.2.2.2.2.2.2.2.2.2.2.2.2.2.2.2.2.2.2.2.2.2.2.2.2.2.2.2.2.2.2.2.2.2.2.1) (y2 := uP.2.2.2.2.2.2.2.2.2.2.2.2.2.2.2.2.2.2.2.2.2.2.2.2.2.2.2.2.2.2.2.2.2.2.2.2.2.2.2.2.2.2.2.2.2.2.2.2.2.2.2.2.2.2.2.2.2.2) (c2 := uP.2.2.2.2.2.2.2.2.2.2.2.2.2.2.2.2.2.2.2.2.2.2.2.2.2.2.2.2.2.2.2.2.2.2.2.2.2.2.2.2.2.2.2.2.2.2.2.2.2.2.2.2.2.2.2.2.1) (o2 := uP.2.2.2.2.2.2.2.2.2.2.2.2.2.2.2.2.2.2.2.2.2.2.2.2.2.2.2.2.2.2.2.2.2.2.2.2.2.2.2.2.2.2.2.2.2.2.2.2.2.2.2.2.2.2.2.2.2.1) (y3 := uP.2.2.2.2.2.2.2.2.2.2.2.2.2.2.2.2.2.2.2.2.2.2.2.2.2.2.2.2.2.2.2.2.2.2.2.2.2.2.2.2.2.2.2.2.2.2.2.2.2.2.2.2.2.2.2.1) (c3 := uP.2.2.2.2.2.2.2.2.2.2.2.2.2.2.2.2.2.2.2.2.2.2.2.2.2.2.2.2.2.2.2.2.2.2.2.2.2.2.2.2.2.2.2.2.2.2.2.2.2.2.2.2.2.1) (o3 := uP.2.2.2.2.2.2.2.2.2.2.2.2.2.2.2.2.2.2.2.2.2.2.2.2.2.2.2.2.2.2.2.2.2.2.2.2.2.2.2.2.2.2.2.2.2.2.2.2.2.2.2.2.2.2.1) (vsf := uM.2.2.2.2.2.2.2.2.2.2.2.2.1) (vsb := uM.2.2.2.2.2.2.2.2.2.2.2.1) (vr := uM.2.2.2.2.2.2.1) (vw := uM.2.2.2.2.2.2.2.2.2.2.2.2.2.2.2.1) (vm := uM.2.2.1) (rm := uM.2.2.2.2.2.2.2.2.2.1) (pc := uM.2.2.2.2.2.2.2.2.2.2.2.2.2.2.2.2.2.2.2.2.2.2.2.2.2.2.2.2.1) (fx := uM.2.2.2.2.2.2.2.2.2.2.2.2.2.2.2.2.2.2.2.2.1) (n2 := uM.2.2.2.2.2.2.2.2.2.2.2.2.2.2.2.2.2.2.2.2.2.2.2.2.2.2.2.2.2.2.2.2.2.2.2.2.2.2.2.2.2.1) (T2 := uM.2.2.2.2.2.2.2.2.2.2.2.2.2.2.2.2.2.2.2.2.2.2.2.2.2.2.2.2.2.2.2.2.2.2.2.2.2.2.2.2.2.2.1) (n3 := uM.2.2.2.2.2.2.2.2.2.2.2.2.2.2.2.2.2.2.1) (T3 := uM.2.2.2.2.2.2.2.2.2.2.2.2.2.2.2.2.2.2.2.1) (RL := uM.2.2.2.2.2.2.2.2.2.2.2.2.2.2.2.2.2.2.2.2.2.2.2.2.2.2.2.2.2.2.2.1) (n1 := uM.2.2.2.2.2.2.2.2.2.2.2.2.2.2.2.2.2.2.2.2.2.2.2.2.2.2.2.2.2.2.2.2.2.2.2.2.1) (T1 := uM.2.2.2.2.2.2.2.2.2.2.2.2.2.2.2.2.2.2.2.2.2.2.2.2.2.2.2.2.2.2.2.2.2.2.2.2.2.1) (LR := uM.2.2.2.2.2.2.2.2.2.2.2.2.2.2.2.2.2.2.2.2.2.2.2.1) hT1 hT2 hO hC hM
      refine Tt_R18.2 (Tt_m tP ?_)
      rintro u ⟨hu1, hu⟩
      refine Tt_R22.2 (Tt_m tM ?_)
      rintro v ⟨hv1, hv⟩
      exact Tt_p (hu1.trans hv1.symm) (Tt_l (go _ _ _ i4 ⟨cz, pl, k, l, b, len, bi, kn, kl, ks, B, hO, hu, hv⟩))
    refine Tt_n w9 ?_
    by_cases w10 : w = 10
    · refine Tt_p w10 (Tt_l (Tt_gx i1 (by omega) L1 (Tt_l (Tt_gx i2 (by omega) L1 (Tt_l ?_)))))
      obtain ⟨r, tP, tM⟩ := t_byteAtK (x1 := ((xs (nI j + 1).toNatClampNeg).toInt64 <<< ((32 : Int32).toInt64 &&& 63)) ||| ((xs (nI j + 2).toNatClampNeg).toInt64 &&& 4294967295)) hO.2.2.2.2.1 hC.2.2.2.2.2.1 hM.2.2.2.2.2.1
      refine Tt_R0.2 (Tt_m tP ?_)
      intro u hu
      refine Tt_l (Tt_gx i1 (by omega) L1 (Tt_l (Tt_gx i2 (by omega) L1 (Tt_l (Tt_R0.2 (Tt_m tM ?_))))))
      intro v hv
      exact Tt_p (hu.trans hv.symm) (Tt_l (go _ _ _ i4 hR0))
    refine Tt_n w10 ?_
    by_cases w11 : w = 11
    · refine Tt_p w11 (Tt_l (Tt_gx i1 (by omega) L1 (Tt_l ?_)))
      obtain ⟨r, tP, tM⟩ := t_startK (x := xs (nI j + 1).toNatClampNeg) hO.2.2.2.2.1 hC.2.2.2.2.2.1 hM.2.2.2.2.2.1
      refine Tt_R0.2 (Tt_m tP ?_)
      intro u hu
      refine Tt_l (Tt_gx i1 (by omega) L1 (Tt_l (Tt_R0.2 (Tt_m tM ?_))))
      intro v hv
      exact Tt_p (hu.trans hv.symm) (Tt_l (go _ _ _ i4 hR0))
    refine Tt_n w11 ?_
    exact Tt_l (go _ _ _ i4 hR0)
  · refine Tt_p ?_ (Tt_Si rfl)
    by_cases y : 4 ≤ L
    · have e4 : nI L - 4 = nI (L - 4) := pk_sub (b := 4) (by omega)
      rw [e4, nI_ltI (by omega) (by omega)]
      omega
    · have n0 : nI L - 4 < 0 := by
        rcases (show L = 0 ∨ L = 1 ∨ L = 2 ∨ L = 3 by omega) with rfl | rfl | rfl | rfl <;> decide
      exact Int32.lt_of_lt_of_le n0 (nI_pos' (by omega))
set_option maxHeartbeats 4000000 in
set_option maxRecDepth 100000 in
theorem law_all (L : Nat) (xs : Nat → Int32) (hL : L ≤ 2048) : ∃ F, Law F L xs = some (1, ()) := by
  refine ⟨200000, ?_⟩
  have key : Tt (Law 200000 L xs) (fun u => u = (1, ())) := by
    unfold Law
    refine Tt_R13.2 (Tt_m t_init ?_)
    rintro u ⟨hF, hT1, hT2⟩
    refine Tt_R0.2 (Tt_o (a := ((), ())) rfl ?_)
    refine Tt_W3 (fun mm uP uM x3 => Rl uP uM ∧ ∃ j, x3 = nI j ∧ j ≤ L ∧ mm = L - j) ?_ 200000 L _ _ _ (by omega) ⟨?_, 0, rfl, by omega, rfl⟩
    · rintro K mm uP uM x3 ⟨hR, j, rfl, hj, rfl⟩ ih
      refine law_step hL hF hT1 hT2 hj hR ?_
      rintro z uP' uM' _ rfl hR'
      exact ih (L - (j + 4)) _ _ _ (by omega) ⟨hR', j + 4, rfl, z, rfl⟩
    · have zr : ∀ (c : Nat → Int32) a, Row c a 0 (fun _ => 0) := fun c a => ⟨fun i hi => absurd hi (by omega), fun _ => (by show 0 < 256; omega)⟩
      exact ⟨0, 0, 0, 0, fun _ => 0, 0, fun _ => 0, 0, 0, fun _ => 0, fun _ => 0, ⟨by omega, by omega, by omega, by omega, KnO_0, fun _ => ⟨Nat.zero_le _, by show 0 < 8192; omega, fun _ => rfl, fun _ => (by show 0 < 256; omega), by show 0 ≤ 8194 * 0; omega, fun _ => (by show 0 < 256; omega)⟩⟩, ⟨rfl, rfl, rfl, rfl, zr _ _, KnC_0, fun _ => ⟨rfl, zr _ _⟩⟩, ⟨rfl, rfl, rfl, zr _ _, rfl, KnM_0, fun _ => ⟨rfl, rfl, zr _ _, rfl⟩⟩⟩
  obtain ⟨a, h, rfl⟩ := key
  exact h
