/-! the row that is open: what stands in it -/
abbrev ASt := Nat × Nat × (Nat → Nat) × Nat × (Nat → Nat)
def aAdd (pl v : Nat) (s : ASt) : ASt := if s.2.1 + 1 = 8192 then (s.1 + 1, 0, fun _ => 0, s.2.2.2.1 + 2 + clN pl (push s.2.2.1 s.2.1 v) 8192, clB pl (push s.2.2.1 s.2.1 v) 8192 s.2.2.2.1 s.2.2.2.2) else (s.1, s.2.1 + 1, push s.2.2.1 s.2.1 v, s.2.2.2.1, s.2.2.2.2)
def AOK (s : ASt) : Prop := s.1 ≤ 8 ∧ s.2.1 < 8192 ∧ (s.1 = 8 → s.2.1 = 0) ∧ (∀ i, s.2.2.1 i < 256) ∧ s.2.2.2.1 ≤ 8194 * s.1 ∧ ∀ i, s.2.2.2.2 i < 256
def tot (s : ASt) : Nat := 8192 * s.1 + s.2.1
def CRl (s : ASt) (vp vl : Int32) (pd : Nat → Int32) (vi : Int32) (img : Nat → Int32) : Prop := vp = nI s.1 ∧ vl = nI s.2.1 ∧ Row pd 0 s.2.1 s.2.2.1 ∧ vi = nI s.2.2.2.1 ∧ Row img 0 s.2.2.2.1 s.2.2.2.2
def MRl (s : ASt) (vr vp vi : Int32) (row img sts : Nat → Int32) : Prop := vr = nI (tot s) ∧ vp = nI s.1 ∧ vi = nI s.2.2.2.1 ∧ Row row (8192 * s.1) s.2.1 s.2.2.1 ∧ Row img 0 s.2.2.2.1 s.2.2.2.2 ∧ sts s.1 = nI s.2.2.2.1 ∧ sts 0 = nI 0
theorem aAdd_t {pl v : Nat} {s : ASt} : tot (aAdd pl v s) = tot s + 1 := by
  unfold aAdd tot
  by_cases z : s.2.1 + 1 = 8192
  · rw [if_pos z]
    dsimp only
    omega
  · rw [if_neg z]
    dsimp only
    omega
theorem aAdd_ok {pl v : Nat} {s : ASt} (h : AOK s) (hk : tot s < 65536) (hv : v < 256) : AOK (aAdd pl v s) := by
  obtain ⟨h1, h2, h3, h4, h5, h6⟩ := h
  unfold tot at hk
  unfold aAdd AOK
  have cb := clN_b pl (push s.2.2.1 s.2.1 v) 8192
  by_cases z : s.2.1 + 1 = 8192
  · rw [if_pos z]
    dsimp only
    exact ⟨by omega, by omega, fun _ => rfl, fun _ => (by show 0 < 256; omega), by omega, fun i => clB_b (by omega) (push_b h4 hv) h6 i⟩
  · rw [if_neg z]
    dsimp only
    exact ⟨by omega, by omega, fun _ => by omega, push_b h4 hv, by omega, h6⟩
def aPs (pl : Nat) (f : Nat → Nat) (s : ASt) : Nat → ASt
  | 0 => s
  | j + 1 => aAdd pl (f j) (aPs pl f s j)
theorem aPs_t {pl : Nat} {f : Nat → Nat} {s : ASt} : ∀ j, tot (aPs pl f s j) = tot s + j := by
  intro j
  induction j with
  | zero => rfl
  | succ j ih =>
    show tot (aAdd pl (f j) (aPs pl f s j)) = _
    rw [aAdd_t, ih]
    omega
theorem aPs_ok {pl : Nat} {f : Nat → Nat} {s : ASt} (h : AOK s) (hf : ∀ i, f i < 256) : ∀ j, tot s + j ≤ 65536 → AOK (aPs pl f s j) := by
  intro j
  induction j with
  | zero => intro _; exact h
  | succ j ih =>
    intro hj
    exact aAdd_ok (ih (by omega)) (by rw [aPs_t]; omega) (hf j)
theorem Row_push {c : Nat → Int32} {a l v : Nat} {b : Nat → Nat} {x : Int32} (h : Row c a l b) (hv : v < 256) (hx : x = sx v) : Row (upd c (a + l) x) a (l + 1) (push b l v) := by
  refine ⟨fun i hi => ?_, push_b h.2 hv⟩
  show _ = sx (if i = l then v else b i)
  by_cases e : i = l
  · rw [e, pk_us, if_pos rfl, hx]
  · rw [pk_un (by omega), if_neg e]
    exact h.1 i (by omega)
/-! one byte more, by the program and by the reference -/
theorem t_oneC {β : Type} {kk : Int32 → Int32 → (Nat → Int32) → Int32 → Int32 → Int32 → Int32 → Int32 → (Nat → Int32) → (Nat → Int32) → (Nat → Int32) → (Nat → Int32) → (Nat → Int32) → (Nat → Int32) → (Nat → Int32) → Int32 → (Nat → Int32) → (Nat → Int32) → (Nat → Int32) → (Nat → Int32) → (Nat → Nat → Int32) → (Nat → Int32) → (Nat → Int32) → (Nat → Int32) → (Nat → Int32) → (Nat → Int32) → Int32 → Int32 → Int32 → Int32 → Int32 → (Nat → Int32) → (Nat → Int32) → (Nat → Int32) → (Nat → Int32) → (Nat → Int32) → (Nat → Int32) → Int32 → (Nat → Int32) → Option β} {Q : β → Prop} {fs fd fc fdc pd img : Nat → Int32} {tc ex ol oo ooc many hrl htc hsl hdl hcl : Int32} {late before od sc dc toks msl lc ls ib it mdl msn msc mdn mdc hrow hcs htd hcle hnx hco : Nat → Int32} {pr : Nat → Nat → Int32} {s : ASt} {pl : Nat} {vp vl vi x : Int32} (h : CRl s vp vl pd vi img) (ho : AOK s) (hk : tot s < 65536) (hpl : pl ≤ 1) (hF : FixC fs fc fd fdc) (hQ : ∀ vp vl pd tc ex ol oo ooc late before od sc dc toks msl many lc ls ib it pr mdl msn msc mdn mdc hrl htc hsl hdl hcl hrow hcs htd hcle hnx hco vi img, CRl (aAdd pl (bo x) s) vp vl pd vi img → Tt (kk vp vl pd tc ex ol oo ooc late before od sc dc toks msl many lc ls ib it pr mdl msn msc mdn mdc hrl htc hsl hdl hcl hrow hcs htd hcle hnx hco vi img) Q) : Tt (mR2 (Bytes_add 200000 8192 vl pd x) fun _ vl5 pd6 => mR0 (Bytes_length 200000 vl5) fun r_8 => mC (r_8 = 8192) (mR38 (P_closePiece 200000 8192 286 30 286 30 288 32 19 19 288 32 66000 (nI pl) pd6 fs fd fc fdc vp vl5 tc ex ol oo ooc late before od sc dc toks msl many lc ls ib it pr mdl msn msc mdn mdc hrl htc hsl hdl hcl hrow hcs htd hcle hnx hco vi img) fun _ vp9 vl10 tc ex ol oo ooc late before od sc dc toks msl many lc ls ib it pr mdl msn msc mdn mdc hrl htc hsl hdl hcl hrow hcs htd hcle hnx hco vi45 img46 => kk vp9 vl10 pd6 tc ex ol oo ooc late before od sc dc toks msl many lc ls ib it pr mdl msn msc mdn mdc hrl htc hsl hdl hcl hrow hcs htd hcle hnx hco vi45 img46) (kk vp vl5 pd6 tc ex ol oo ooc late before od sc dc toks msl many lc ls ib it pr mdl msn msc mdn mdc hrl htc hsl hdl hcl hrow hcs htd hcle hnx hco vi img)) Q := by
  obtain ⟨k, l, b, len, bi⟩ := s
  obtain ⟨h1, h2, h3, h4, h5, h6⟩ := ho
  obtain ⟨g1, g2, g3, g4, g5⟩ := h
  unfold tot at hk
  dsimp only at h1 h2 h3 h4 h5 h6 g1 g2 g3 g4 g5 hk
  subst g1 g2 g4
  have ad : Tt (Bytes_add 200000 8192 (nI l) pd x) (fun u => u.2.1 = nI (l + 1) ∧ Row u.2.2 0 (l + 1) (push b l (bo x))) := by
    unfold Bytes_add
    refine Tt_n (by first | decide | (simp (disch := omega) only [i_0, i_1, i_2, i_3, i_4, i_5, i_6, i_7, i_8, i_9, i_10, i_11, i_13, i_14, i_15, i_16, i_17, i_18, i_19, i_24, i_29, i_30, i_31, i_32, i_138, i_143, i_144, i_254, i_255, i_256, i_257, i_258, i_261, i_264, i_265, i_279, i_280, i_284, i_285, i_286, i_288, i_319, i_320, i_338, i_339, i_575, i_576, i_599, i_600, i_4096, i_8191, i_8192, i_8249, i_8250, i_8256, i_9000, i_16384, i_32767, i_32768, i_65520, i_65521, i_65535, i_65536, i_65999, i_66000, i_1300, i_120, i_156, nI_leI, nI_ltI, nI_eq, nI_add, n_neg, not_false_eq_true, not_true_eq_false] <;> omega)) (Tt_g (by omega) (by omega) (Tt_l (Tt_l (Tt_Si ⟨nI_1 l, ?_⟩))))
    dsimp only
    rw [nI_clamp (by omega)]
    have := Row_push g3 (bo_lt x) (bo_n x)
    rw [Nat.zero_add] at this
    exact this
  refine Tt_R2.2 (Tt_m ad ?_)
  rintro ⟨_, vl5, pd6⟩ ⟨rfl, hR⟩
  dsimp only at hR ⊢
  have el : Bytes_length 200000 (nI (l + 1)) = some (nI (l + 1), ()) := rfl
  refine Tt_R0.2 (Tt_o el ?_)
  dsimp only
  unfold aAdd at hQ
  dsimp only at hQ
  by_cases z : l + 1 = 8192
  · rw [if_pos z] at hQ
    rw [z] at hR ⊢
    refine Tt_p rfl (Tt_R38.2 (Tt_m (t_closeC hR (by omega) (by omega) g5 (by omega) hpl hF) ?_))
    rintro ⟨_, vp9, vl10, tc, ex, ol, oo, ooc, late, before, od, sc, dc, toks, msl, many, lc, ls, ib, it, pr, mdl, msn, msc, mdn, mdc, hrl, htc, hsl, hdl, hcl, hrow, hcs, htd, hcle, hnx, hco, vi45, img46⟩ ⟨q1, q2, q3, q4⟩
    dsimp only at q1 q2 q3 q4 ⊢
    exact hQ _ _ _ _ _ _ _ _ _ _ _ _ _ _ _ _ _ _ _ _ _ _ _ _ _ _ _ _ _ _ _ _ _ _ _ _ _ _ _ ⟨by rw [q1]; exact nI_1 k, q2, ⟨fun i hi => absurd hi (by dsimp only; omega), fun _ => (by show 0 < 256; omega)⟩, q3, q4⟩
  · rw [if_neg z] at hQ
    exact Tt_n (by first | decide | (simp (disch := omega) only [i_0, i_1, i_2, i_3, i_4, i_5, i_6, i_7, i_8, i_9, i_10, i_11, i_13, i_14, i_15, i_16, i_17, i_18, i_19, i_24, i_29, i_30, i_31, i_32, i_138, i_143, i_144, i_254, i_255, i_256, i_257, i_258, i_261, i_264, i_265, i_279, i_280, i_284, i_285, i_286, i_288, i_319, i_320, i_338, i_339, i_575, i_576, i_599, i_600, i_4096, i_8191, i_8192, i_8249, i_8250, i_8256, i_9000, i_16384, i_32767, i_32768, i_65520, i_65521, i_65535, i_65536, i_65999, i_66000, i_1300, i_120, i_156, nI_leI, nI_ltI, nI_eq, nI_add, n_neg, not_false_eq_true, not_true_eq_false] <;> omega)) (hQ _ _ _ _ _ _ _ _ _ _ _ _ _ _ _ _ _ _ _ _ _ _ _ _ _ _ _ _ _ _ _ _ _ _ _ _ _ _ _ ⟨rfl, rfl, hR, rfl, g5⟩)
abbrev PbT := Unit × Int32 × Int32 × Int32 × Int32 × Int32 × Int32 × (Nat → Int32) × (Nat → Int32) × (Nat → Int32) × (Nat → Int32) × (Nat → Int32) × (Nat → Int32) × (Nat → Int32) × (Nat → Int32) × (Nat → Int32) × (Nat → Int32) × (Nat → Int32) × (Nat → Int32) × (Nat → Int32) × (Nat → Int32) × (Nat → Int32) × (Nat → Int32) × (Nat → Int32) × (Nat → Int32) × (Nat → Int32)
theorem t_putByte {row img sts : Nat → Int32} {pb tok st : Int32} {pla pbe pk tl tv cnt rk lns we wb it lr sp mo fx co : Nat → Int32} {s : ASt} {pl : Nat} {vr vp vi x : Int32} (h : MRl s vr vp vi row img sts) (ho : AOK s) (hk : tot s < 65536) (hpl : pl ≤ 1) : Tt (M_putByte 200000 (nI pl) vr vp vi pb tok st row pla pbe pk tl tv cnt rk lns we wb it lr sp mo fx co img sts x) (fun u : PbT => MRl (aAdd pl (bo x) s) u.2.1 u.2.2.1 u.2.2.2.1 u.2.2.2.2.2.2.2.1 u.2.2.2.2.2.2.2.2.2.2.2.2.2.2.2.2.2.2.2.2.2.2.2.2.1 u.2.2.2.2.2.2.2.2.2.2.2.2.2.2.2.2.2.2.2.2.2.2.2.2.2) := by
  obtain ⟨k, l, b, len, bi⟩ := s
  obtain ⟨h1, h2, h3, h4, h5, h6⟩ := ho
  obtain ⟨g1, g2, g3, g4, g5, g6, g7⟩ := h
  unfold tot at hk g1
  dsimp only at h1 h2 h3 h4 h5 h6 g1 g2 g3 g4 g5 g6 g7 hk
  subst g1 g2 g3
  have hR := Row_push g4 (bo_lt x) (bo_n x)
  unfold M_putByte aAdd
  refine Tt_g (by omega) (by omega) (Tt_l (Tt_l ?_))
  rw [nI_1, nI_clamp (by omega)]
  have e1 : nI (8192 * k + l + 1) - nI (8192 * k + l + 1) / 8192 * 8192 = nI ((8192 * k + l + 1) % 8192) := n_rm (d := 8192) (by omega) (by omega) (by omega)
  rw [e1]
  dsimp only
  by_cases z : l + 1 = 8192
  · rw [if_pos z]
    rw [z] at hR
    refine Tt_p (by rw [show (8192 * k + l + 1) % 8192 = 0 by omega]; rfl) (Tt_R23.2 ?_)
    rw [show 8192 * k + l + 1 = 8192 * k + 8192 by omega]
    refine Tt_m (t_closeM hR (by omega) (by omega) (by omega) g5 (by omega) hpl) ?_
    rintro ⟨_, vp3, vi4, pb, tok, st, pla, pbe, pk, tl, tv, cnt, rk, lns, we, wb, it, lr, sp, mo, fx, co, img24, sts25⟩ ⟨q1, q2, q3, q4⟩
    dsimp only at q1 q2 q3 q4 ⊢
    refine Tt_Si ⟨congrArg nI (show 8192 * k + 8192 = 8192 * (k + 1) + 0 by omega), q1, q2, ⟨fun i hi => absurd hi (by dsimp only; omega), fun _ => (by show 0 < 256; omega)⟩, q3, ?_, ?_⟩
    · dsimp only
      rw [q4, pk_us]
    · dsimp only
      rw [q4, pk_un (by omega)]
      exact g7
  · rw [if_neg z]
    refine Tt_n ?_ (Tt_Si ⟨congrArg nI (show 8192 * k + l + 1 = 8192 * k + (l + 1) by omega), rfl, rfl, hR, g5, g6, g7⟩)
    rw [show (8192 * k + l + 1) % 8192 = l + 1 by omega]
    exact (by first | decide | (simp (disch := omega) only [i_0, i_1, i_2, i_3, i_4, i_5, i_6, i_7, i_8, i_9, i_10, i_11, i_13, i_14, i_15, i_16, i_17, i_18, i_19, i_24, i_29, i_30, i_31, i_32, i_138, i_143, i_144, i_254, i_255, i_256, i_257, i_258, i_261, i_264, i_265, i_279, i_280, i_284, i_285, i_286, i_288, i_319, i_320, i_338, i_339, i_575, i_576, i_599, i_600, i_4096, i_8191, i_8192, i_8249, i_8250, i_8256, i_9000, i_16384, i_32767, i_32768, i_65520, i_65521, i_65535, i_65536, i_65999, i_66000, i_1300, i_120, i_156, nI_leI, nI_ltI, nI_eq, nI_add, n_neg, not_false_eq_true, not_true_eq_false] <;> omega))
/-! bytes of a long, from the lowest -/
theorem sar_low (X : BitVec 64) : ∀ j, j < 8 → (X.sshiftRight (8 * j)).toNat % 256 = X.toNat / 2 ^ (8 * j) % 256 := by
  intro j hj
  cases hm : X.msb
  · rw [BitVec.sshiftRight_eq_of_msb_false hm, BitVec.toNat_ushiftRight, Nat.shiftRight_eq_div_pow]
  · rw [BitVec.sshiftRight_eq_of_msb_true hm, BitVec.toNat_not, BitVec.toNat_ushiftRight, Nat.shiftRight_eq_div_pow, BitVec.toNat_not]
    have := X.isLt
    rcases (show j = 0 ∨ j = 1 ∨ j = 2 ∨ j = 3 ∨ j = 4 ∨ j = 5 ∨ j = 6 ∨ j = 7 by omega) with rfl | rfl | rfl | rfl | rfl | rfl | rfl | rfl <;> simp only [Nat.reduceMul, Nat.reducePow] at * <;> omega
theorem am_u : ∀ j, j < 8 → (((8 * nI j).toInt64.toUInt64 &&& Int64.toUInt64 63).toBitVec % 64#64).toNat = 8 * j := by decide +kernel
theorem am_s : ∀ j, j < 8 → (((8 * nI j).toInt64 &&& 63).toBitVec.smod 64).toNat = 8 * j := by decide +kernel
theorem se_low (Y : BitVec 64) : (BitVec.signExtend 32 Y).toNat % 256 = Y.toNat % 256 := by
  rw [BitVec.signExtend_eq_setWidth_of_le _ (by omega), BitVec.toNat_setWidth]
  omega
theorem bo_put (x : Int64) {j : Nat} (hj : j < 8) : bo (((x.toUInt64 >>> ((8 * nI j).toInt64.toUInt64 &&& Int64.toUInt64 63)).toInt64).toInt32) = bo ((x >>> ((8 * nI j).toInt64 &&& 63)).toInt32) := by
  unfold bo
  show (BitVec.signExtend 32 (x.toBitVec >>> (((8 * nI j).toInt64.toUInt64 &&& Int64.toUInt64 63).toBitVec % 64#64).toNat)).toNat % 256 = (BitVec.signExtend 32 (x.toBitVec.sshiftRight (((8 * nI j).toInt64 &&& 63).toBitVec.smod 64).toNat)).toNat % 256
  rw [am_u j hj, am_s j hj, se_low, se_low, sar_low _ j hj, BitVec.toNat_ushiftRight, Nat.shiftRight_eq_div_pow]
/-! put -/
theorem e_open {vp vl : Int32} {s : ASt} (h1 : vp = nI s.1) (h2 : vl = nI s.2.1) : P_openLength 200000 vp vl = some (nI (tot s), ()) := by
  subst h1 h2
  have e1 : (8192 : Int32) * nI s.1 = nI (8192 * s.1) := pk_mul 8192 s.1
  unfold P_openLength
  show some ((8192 : Int32) * nI s.1 + nI s.2.1, ()) = _
  rw [e1, nI_add]
  rfl
theorem n_of {x : Int32} (h : ¬ x < 0) : ∃ k, k < 2 ^ 31 ∧ x = nI k := by
  refine ⟨x.toInt.toNat, ?_, ?_⟩
  · have := x.toInt_lt
    omega
  · have h0 : 0 ≤ x.toInt := by
      have := Int32.le_iff_toInt_le (x := 0) (y := x)
      have q := Int32.not_lt.1 h
      exact this.1 q
    apply Int32.toInt_inj.1
    have hl := x.toInt_lt
    rw [nI_toInt (by omega)]
    omega
def QPt (r : Int32) (s : ASt) (u : Int32 × Int32 × Int32 × (Nat → Int32) × Int32 × Int32 × Int32 × Int32 × Int32 × (Nat → Int32) × (Nat → Int32) × (Nat → Int32) × (Nat → Int32) × (Nat → Int32) × (Nat → Int32) × (Nat → Int32) × Int32 × (Nat → Int32) × (Nat → Int32) × (Nat → Int32) × (Nat → Int32) × (Nat → Nat → Int32) × (Nat → Int32) × (Nat → Int32) × (Nat → Int32) × (Nat → Int32) × (Nat → Int32) × Int32 × Int32 × Int32 × Int32 × Int32 × (Nat → Int32) × (Nat → Int32) × (Nat → Int32) × (Nat → Int32) × (Nat → Int32) × (Nat → Int32) × Int32 × (Nat → Int32)) : Prop := u.1 = r ∧ CRl s u.2.1 u.2.2.1 u.2.2.2.1 u.2.2.2.2.2.2.2.2.2.2.2.2.2.2.2.2.2.2.2.2.2.2.2.2.2.2.2.2.2.2.2.2.2.2.2.2.2.2.1 u.2.2.2.2.2.2.2.2.2.2.2.2.2.2.2.2.2.2.2.2.2.2.2.2.2.2.2.2.2.2.2.2.2.2.2.2.2.2.2
def QMt (r : Int32) (s : ASt) (u : Int32 × Int32 × Int32 × Int32 × Int32 × Int32 × Int32 × (Nat → Int32) × (Nat → Int32) × (Nat → Int32) × (Nat → Int32) × (Nat → Int32) × (Nat → Int32) × (Nat → Int32) × (Nat → Int32) × (Nat → Int32) × (Nat → Int32) × (Nat → Int32) × (Nat → Int32) × (Nat → Int32) × (Nat → Int32) × (Nat → Int32) × (Nat → Int32) × (Nat → Int32) × (Nat → Int32) × (Nat → Int32)) : Prop := u.1 = r ∧ MRl s u.2.1 u.2.2.1 u.2.2.2.1 u.2.2.2.2.2.2.2.1 u.2.2.2.2.2.2.2.2.2.2.2.2.2.2.2.2.2.2.2.2.2.2.2.2.1 u.2.2.2.2.2.2.2.2.2.2.2.2.2.2.2.2.2.2.2.2.2.2.2.2.2
theorem t_put {fs fd fc fdc pd img : Nat → Int32} {tc ex ol oo ooc many hrl htc hsl hdl hcl : Int32} {late before od sc dc toks msl lc ls ib it mdl msn msc mdn mdc hrow hcs htd hcle hnx hco : Nat → Int32} {pr : Nat → Nat → Int32} {row imgM sts : Nat → Int32} {pb tok st : Int32} {pla pbe pk tl tv cnt rk lns we wb itM lr sp mo fx co : Nat → Int32} {s : ASt} {pl : Nat} {vp vl vi vr vpM viM x3 : Int32} {x1 : Int64} (hC : CRl s vp vl pd vi img) (hM : MRl s vr vpM viM row imgM sts) (ho : AOK s) (hpl : pl ≤ 1) (hF : FixC fs fc fd fdc) : ∃ r s', AOK s' ∧ Tt (P_put 200000 8192 286 30 286 30 288 32 19 19 288 32 66000 (nI pl) (nI 0) fs fd fc fdc vp vl pd tc ex ol oo ooc late before od sc dc toks msl many lc ls ib it pr mdl msn msc mdn mdc hrl htc hsl hdl hcl hrow hcs htd hcle hnx hco vi img x1 x3) (QPt r s') ∧ Tt (M_put 200000 (nI pl) (nI 0) vr vpM viM pb tok st row pla pbe pk tl tv cnt rk lns we wb itM lr sp mo fx co imgM sts x1 x3) (QMt r s') := by
  have same : ∀ r : Int32, (x3 < 1 ∨ ¬ x3 < 1 ∧ 8 < x3) → r = -1 → ∃ r s', AOK s' ∧ Tt (P_put 200000 8192 286 30 286 30 288 32 19 19 288 32 66000 (nI pl) (nI 0) fs fd fc fdc vp vl pd tc ex ol oo ooc late before od sc dc toks msl many lc ls ib it pr mdl msn msc mdn mdc hrl htc hsl hdl hcl hrow hcs htd hcle hnx hco vi img x1 x3) (QPt r s') ∧ Tt (M_put 200000 (nI pl) (nI 0) vr vpM viM pb tok st row pla pbe pk tl tv cnt rk lns we wb itM lr sp mo fx co imgM sts x1 x3) (QMt r s') := by
    rintro r (w | ⟨w1, w2⟩) rfl
    · exact ⟨-1, s, ho, by unfold P_put; exact Tt_p w (Tt_Si ⟨rfl, hC⟩), by unfold M_put; exact Tt_p w (Tt_Si ⟨rfl, hM⟩)⟩
    · exact ⟨-1, s, ho, by unfold P_put; exact Tt_n w1 (Tt_p w2 (Tt_Si ⟨rfl, hC⟩)), by unfold M_put; exact Tt_n w1 (Tt_p w2 (Tt_Si ⟨rfl, hM⟩))⟩
  by_cases w1 : x3 < 1
  · exact same (-1) (Or.inl w1) rfl
  by_cases w2 : 8 < x3
  · exact same (-1) (Or.inr ⟨w1, w2⟩) rfl
  obtain ⟨m, hm, rfl⟩ : ∃ m, m < 2 ^ 31 ∧ x3 = nI m := n_of (fun q => w1 (Int32.lt_trans q (by decide)))
  have w2' : ¬ nI 8 < nI m := w2
  rw [nI_ltI (by omega) (by omega)] at w2'
  have kb : s.1 ≤ 8 ∧ s.2.1 < 8192 ∧ (s.1 = 8 → s.2.1 = 0) := ⟨ho.1, ho.2.1, ho.2.2.1⟩
  have tb : tot s ≤ 65536 := by unfold tot; omega
  by_cases w3 : tot s + m ≤ 65536
  · refine ⟨nI (tot s + m), aPs pl (fun j => bo ((x1 >>> ((8 * nI j).toInt64 &&& 63)).toInt32)) s m, aPs_ok ho (fun j => bo_lt _) m w3, ?_, ?_⟩
    · unfold P_put
      have e6 : (65536 : Int32) - nI (tot s) = nI (65536 - tot s) := pk_sub (a := 65536) (by omega)
      refine Tt_n w1 (Tt_n w2 (Tt_p rfl (Tt_R0.2 (Tt_o (e_open hC.1 hC.2.1) ?_))))
      dsimp only
      rw [e6]
      refine Tt_p (by first | decide | (simp (disch := omega) only [i_0, i_1, i_2, i_3, i_4, i_5, i_6, i_7, i_8, i_9, i_10, i_11, i_13, i_14, i_15, i_16, i_17, i_18, i_19, i_24, i_29, i_30, i_31, i_32, i_138, i_143, i_144, i_254, i_255, i_256, i_257, i_258, i_261, i_264, i_265, i_279, i_280, i_284, i_285, i_286, i_288, i_319, i_320, i_338, i_339, i_575, i_576, i_599, i_600, i_4096, i_8191, i_8192, i_8249, i_8250, i_8256, i_9000, i_16384, i_32767, i_32768, i_65520, i_65521, i_65535, i_65536, i_65999, i_66000, i_1300, i_120, i_156, nI_leI, nI_ltI, nI_eq, nI_add, n_neg, not_false_eq_true, not_true_eq_false] <;> omega)) ?_
      refine Tt_W40 (fun mm vp vl pd _ _ _ _ _ _ _ _ _ _ _ _ _ _ _ _ _ _ _ _ _ _ _ _ _ _ _ _ _ _ _ _ _ _ vi img x4 => ∃ j, x4 = nI j ∧ j ≤ m ∧ mm = m - j ∧ CRl (aPs pl (fun j => bo ((x1 >>> ((8 * nI j).toInt64 &&& 63)).toInt32)) s j) vp vl pd vi img) ?_ 200000 m _ _ _ _ _ _ _ _ _ _ _ _ _ _ _ _ _ _ _ _ _ _ _ _ _ _ _ _ _ _ _ _ _ _ _ _ _ _ _ _ (by omega) ⟨0, rfl, by omega, rfl, hC⟩
      clear hC
      rintro K mm vp vl pd tc ex ol oo ooc late before od sc dc toks msl many lc ls ib it pr mdl msn msc mdn mdc hrl htc hsl hdl hcl hrow hcs htd hcle hnx hco vi img x4 ⟨j, rfl, hj, rfl, hC⟩ ih
      unfold P_put_37
      by_cases z : m ≤ j
      · have e : j = m := by omega
        subst e
        refine Tt_p (by first | decide | (simp (disch := omega) only [i_0, i_1, i_2, i_3, i_4, i_5, i_6, i_7, i_8, i_9, i_10, i_11, i_13, i_14, i_15, i_16, i_17, i_18, i_19, i_24, i_29, i_30, i_31, i_32, i_138, i_143, i_144, i_254, i_255, i_256, i_257, i_258, i_261, i_264, i_265, i_279, i_280, i_284, i_285, i_286, i_288, i_319, i_320, i_338, i_339, i_575, i_576, i_599, i_600, i_4096, i_8191, i_8192, i_8249, i_8250, i_8256, i_9000, i_16384, i_32767, i_32768, i_65520, i_65521, i_65535, i_65536, i_65999, i_66000, i_1300, i_120, i_156, nI_leI, nI_ltI, nI_eq, nI_add, n_neg, not_false_eq_true, not_true_eq_false] <;> omega)) ?_
        unfold P_put_81
        refine Tt_R0.2 (Tt_o (e_open hC.1 hC.2.1) (Tt_Si ⟨?_, hC⟩))
        dsimp only
        rw [aPs_t]
      · refine Tt_n (by first | decide | (simp (disch := omega) only [i_0, i_1, i_2, i_3, i_4, i_5, i_6, i_7, i_8, i_9, i_10, i_11, i_13, i_14, i_15, i_16, i_17, i_18, i_19, i_24, i_29, i_30, i_31, i_32, i_138, i_143, i_144, i_254, i_255, i_256, i_257, i_258, i_261, i_264, i_265, i_279, i_280, i_284, i_285, i_286, i_288, i_319, i_320, i_338, i_339, i_575, i_576, i_599, i_600, i_4096, i_8191, i_8192, i_8249, i_8250, i_8256, i_9000, i_16384, i_32767, i_32768, i_65520, i_65521, i_65535, i_65536, i_65999, i_66000, i_1300, i_120, i_156, nI_leI, nI_ltI, nI_eq, nI_add, n_neg, not_false_eq_true, not_true_eq_false] <;> omega)) (Tt_l ?_)
        refine t_oneC (kk := fun vp vl pd tc ex ol oo ooc late before od sc dc toks msl many lc ls ib it pr mdl msn msc mdn mdc hrl htc hsl hdl hcl hrow hcs htd hcle hnx hco vi img => P_put_75 200000 K vp vl pd tc ex ol oo ooc late before od sc dc toks msl many lc ls ib it pr mdl msn msc mdn mdc hrl htc hsl hdl hcl hrow hcs htd hcle hnx hco vi img (nI j)) hC (aPs_ok ho (fun j => bo_lt _) j (by omega)) (by rw [aPs_t]; omega) hpl hF ?_
        intro vp vl pd tc ex ol oo ooc late before od sc dc toks msl many lc ls ib it pr mdl msn msc mdn mdc hrl htc hsl hdl hcl hrow hcs htd hcle hnx hco vi img hC2
        unfold P_put_75
        refine Tt_l ?_
        rw [nI_1]
        rw [bo_put x1 (by omega)] at hC2
        exact ih (m - (j + 1)) _ _ _ _ _ _ _ _ _ _ _ _ _ _ _ _ _ _ _ _ _ _ _ _ _ _ _ _ _ _ _ _ _ _ _ _ _ _ _ _ (by omega) ⟨j + 1, rfl, by omega, rfl, hC2⟩
    · unfold M_put
      refine Tt_n w1 (Tt_n w2 (Tt_p rfl ?_))
      rw [hM.1, nI_add]
      refine Tt_p (by first | decide | (simp (disch := omega) only [i_0, i_1, i_2, i_3, i_4, i_5, i_6, i_7, i_8, i_9, i_10, i_11, i_13, i_14, i_15, i_16, i_17, i_18, i_19, i_24, i_29, i_30, i_31, i_32, i_138, i_143, i_144, i_254, i_255, i_256, i_257, i_258, i_261, i_264, i_265, i_279, i_280, i_284, i_285, i_286, i_288, i_319, i_320, i_338, i_339, i_575, i_576, i_599, i_600, i_4096, i_8191, i_8192, i_8249, i_8250, i_8256, i_9000, i_16384, i_32767, i_32768, i_65520, i_65521, i_65535, i_65536, i_65999, i_66000, i_1300, i_120, i_156, nI_leI, nI_ltI, nI_eq, nI_add, n_neg, not_false_eq_true, not_true_eq_false] <;> omega)) ?_
      rw [← hM.1]
      refine Tt_W26 (fun mm vr vp vi _ _ _ row _ _ _ _ _ _ _ _ _ _ _ _ _ _ _ _ img sts x4 => ∃ j, x4 = nI j ∧ j ≤ m ∧ mm = m - j ∧ MRl (aPs pl (fun j => bo ((x1 >>> ((8 * nI j).toInt64 &&& 63)).toInt32)) s j) vr vp vi row img sts) ?_ 200000 m _ _ _ _ _ _ _ _ _ _ _ _ _ _ _ _ _ _ _ _ _ _ _ _ _ _ (by omega) ⟨0, rfl, by omega, rfl, hM⟩
      clear hM
      rintro K mm vr vp vi pb tok st row pla pbe pk tl tv cnt rk lns we wb itM lr sp mo fx co img sts x4 ⟨j, rfl, hj, rfl, hM⟩ ih
      unfold M_put_37
      by_cases z : m ≤ j
      · have e : j = m := by omega
        subst e
        refine Tt_p (by first | decide | (simp (disch := omega) only [i_0, i_1, i_2, i_3, i_4, i_5, i_6, i_7, i_8, i_9, i_10, i_11, i_13, i_14, i_15, i_16, i_17, i_18, i_19, i_24, i_29, i_30, i_31, i_32, i_138, i_143, i_144, i_254, i_255, i_256, i_257, i_258, i_261, i_264, i_265, i_279, i_280, i_284, i_285, i_286, i_288, i_319, i_320, i_338, i_339, i_575, i_576, i_599, i_600, i_4096, i_8191, i_8192, i_8249, i_8250, i_8256, i_9000, i_16384, i_32767, i_32768, i_65520, i_65521, i_65535, i_65536, i_65999, i_66000, i_1300, i_120, i_156, nI_leI, nI_ltI, nI_eq, nI_add, n_neg, not_false_eq_true, not_true_eq_false] <;> omega)) (Tt_Si ⟨?_, hM⟩)
        dsimp only
        rw [hM.1, aPs_t]
      · refine Tt_n (by first | decide | (simp (disch := omega) only [i_0, i_1, i_2, i_3, i_4, i_5, i_6, i_7, i_8, i_9, i_10, i_11, i_13, i_14, i_15, i_16, i_17, i_18, i_19, i_24, i_29, i_30, i_31, i_32, i_138, i_143, i_144, i_254, i_255, i_256, i_257, i_258, i_261, i_264, i_265, i_279, i_280, i_284, i_285, i_286, i_288, i_319, i_320, i_338, i_339, i_575, i_576, i_599, i_600, i_4096, i_8191, i_8192, i_8249, i_8250, i_8256, i_9000, i_16384, i_32767, i_32768, i_65520, i_65521, i_65535, i_65536, i_65999, i_66000, i_1300, i_120, i_156, nI_leI, nI_ltI, nI_eq, nI_add, n_neg, not_false_eq_true, not_true_eq_false] <;> omega)) (Tt_l (Tt_R25.2 (Tt_m (t_putByte hM (aPs_ok ho (fun j => bo_lt _) j (by omega)) (by rw [aPs_t]; omega) hpl) ?_)))
        rintro ⟨_, vr2, vp3, vi4, pb, tok, st, row, pla, pbe, pk, tl, tv, cnt, rk, lns, we, wb, itM, lr, sp, mo, fx, co, img, sts⟩ hM2
        dsimp only at hM2 ⊢
        refine Tt_l ?_
        rw [nI_1]
        exact ih (m - (j + 1)) _ _ _ _ _ _ _ _ _ _ _ _ _ _ _ _ _ _ _ _ _ _ _ _ _ _ (by omega) ⟨j + 1, rfl, by omega, rfl, hM2⟩
  · refine ⟨-3, s, ho, ?_, ?_⟩
    · unfold P_put
      have e6 : (65536 : Int32) - nI (tot s) = nI (65536 - tot s) := pk_sub (a := 65536) (by omega)
      refine Tt_n w1 (Tt_n w2 (Tt_p rfl (Tt_R0.2 (Tt_o (e_open hC.1 hC.2.1) ?_))))
      dsimp only
      rw [e6]
      exact Tt_n (by first | decide | (simp (disch := omega) only [i_0, i_1, i_2, i_3, i_4, i_5, i_6, i_7, i_8, i_9, i_10, i_11, i_13, i_14, i_15, i_16, i_17, i_18, i_19, i_24, i_29, i_30, i_31, i_32, i_138, i_143, i_144, i_254, i_255, i_256, i_257, i_258, i_261, i_264, i_265, i_279, i_280, i_284, i_285, i_286, i_288, i_319, i_320, i_338, i_339, i_575, i_576, i_599, i_600, i_4096, i_8191, i_8192, i_8249, i_8250, i_8256, i_9000, i_16384, i_32767, i_32768, i_65520, i_65521, i_65535, i_65536, i_65999, i_66000, i_1300, i_120, i_156, nI_leI, nI_ltI, nI_eq, nI_add, n_neg, not_false_eq_true, not_true_eq_false] <;> omega)) (Tt_Si ⟨rfl, hC⟩)
    · unfold M_put
      refine Tt_n w1 (Tt_n w2 (Tt_p rfl ?_))
      refine Tt_n ?_ (Tt_Si ⟨rfl, hM⟩)
      rw [hM.1, nI_add]
      exact (by first | decide | (simp (disch := omega) only [i_0, i_1, i_2, i_3, i_4, i_5, i_6, i_7, i_8, i_9, i_10, i_11, i_13, i_14, i_15, i_16, i_17, i_18, i_19, i_24, i_29, i_30, i_31, i_32, i_138, i_143, i_144, i_254, i_255, i_256, i_257, i_258, i_261, i_264, i_265, i_279, i_280, i_284, i_285, i_286, i_288, i_319, i_320, i_338, i_339, i_575, i_576, i_599, i_600, i_4096, i_8191, i_8192, i_8249, i_8250, i_8256, i_9000, i_16384, i_32767, i_32768, i_65520, i_65521, i_65535, i_65536, i_65999, i_66000, i_1300, i_120, i_156, nI_leI, nI_ltI, nI_eq, nI_add, n_neg, not_false_eq_true, not_true_eq_false] <;> omega))
/-! fill -/
def fX (b : Int32) : Nat → Int32
  | 0 => b
  | j + 1 => 1103515245 * fX b j + 12345
def fB (kd b : Int32) (j : Nat) : Int32 := if kd = 0 then b else if kd = 1 then fX b (j + 1) >>> ((16 : Int32) &&& 31) else 97 + ((fX b (j + 1) >>> ((16 : Int32) &&& 31)) &&& 3)
theorem t_fillAll {fs fd fc fdc pd img : Nat → Int32} {tc ex ol oo ooc many hrl htc hsl hdl hcl : Int32} {late before od sc dc toks msl lc ls ib it mdl msn msc mdn mdc hrow hcs htd hcle hnx hco : Nat → Int32} {pr : Nat → Nat → Int32} {row imgM sts : Nat → Int32} {pb tok st : Int32} {pla pbe pk tl tv cnt rk lns we wb itM lr sp mo fx co : Nat → Int32} {s : ASt} {pl : Nat} {vp vl vi vr vpM viM x1 x2 x3 : Int32} (hC : CRl s vp vl pd vi img) (hM : MRl s vr vpM viM row imgM sts) (ho : AOK s) (hpl : pl ≤ 1) (hF : FixC fs fc fd fdc) : ∃ r s', AOK s' ∧ Tt (P_fill 200000 8192 286 30 286 30 288 32 19 19 288 32 66000 (nI pl) (nI 0) fs fd fc fdc vp vl pd tc ex ol oo ooc late before od sc dc toks msl many lc ls ib it pr mdl msn msc mdn mdc hrl htc hsl hdl hcl hrow hcs htd hcle hnx hco vi img x1 x2 x3) (QPt r s') ∧ Tt (M_fill 200000 (nI pl) (nI 0) vr vpM viM pb tok st row pla pbe pk tl tv cnt rk lns we wb itM lr sp mo fx co imgM sts x1 x2 x3) (QMt r s') := by
  by_cases w1 : x1 < 0
  · exact ⟨-1, s, ho, by unfold P_fill; exact Tt_p w1 (Tt_Si ⟨rfl, hC⟩), by unfold M_fill; exact Tt_p w1 (Tt_Si ⟨rfl, hM⟩)⟩
  by_cases w2 : 2 < x1
  · exact ⟨-1, s, ho, by unfold P_fill; exact Tt_n w1 (Tt_p w2 (Tt_Si ⟨rfl, hC⟩)), by unfold M_fill; exact Tt_n w1 (Tt_p w2 (Tt_Si ⟨rfl, hM⟩))⟩
  by_cases w3 : x3 < 1
  · exact ⟨-1, s, ho, by unfold P_fill; exact Tt_n w1 (Tt_n w2 (Tt_p w3 (Tt_Si ⟨rfl, hC⟩))), by unfold M_fill; exact Tt_n w1 (Tt_n w2 (Tt_p w3 (Tt_Si ⟨rfl, hM⟩)))⟩
  by_cases w4 : 65536 < x3
  · exact ⟨-1, s, ho, by unfold P_fill; exact Tt_n w1 (Tt_n w2 (Tt_n w3 (Tt_p w4 (Tt_Si ⟨rfl, hC⟩)))), by unfold M_fill; exact Tt_n w1 (Tt_n w2 (Tt_n w3 (Tt_p w4 (Tt_Si ⟨rfl, hM⟩))))⟩
  obtain ⟨m, hm, rfl⟩ : ∃ m, m < 2 ^ 31 ∧ x3 = nI m := n_of (fun q => w3 (Int32.lt_trans q (by decide)))
  have w4' : ¬ nI 65536 < nI m := w4
  rw [nI_ltI (by omega) (by omega)] at w4'
  have kb : s.1 ≤ 8 ∧ s.2.1 < 8192 ∧ (s.1 = 8 → s.2.1 = 0) := ⟨ho.1, ho.2.1, ho.2.2.1⟩
  have tb : tot s ≤ 65536 := by unfold tot; omega
  by_cases w5 : tot s + m ≤ 65536
  · refine ⟨nI (tot s + m), aPs pl (fun j => bo (fB x1 x2 j)) s m, aPs_ok ho (fun j => bo_lt _) m w5, ?_, ?_⟩
    · unfold P_fill
      have e6 : (65536 : Int32) - nI (tot s) = nI (65536 - tot s) := pk_sub (a := 65536) (by omega)
      refine Tt_n w1 (Tt_n w2 (Tt_n w3 (Tt_n w4 (Tt_p rfl (Tt_R0.2 (Tt_o (e_open hC.1 hC.2.1) ?_))))))
      dsimp only
      rw [e6]
      refine Tt_p (by first | decide | (simp (disch := omega) only [i_0, i_1, i_2, i_3, i_4, i_5, i_6, i_7, i_8, i_9, i_10, i_11, i_13, i_14, i_15, i_16, i_17, i_18, i_19, i_24, i_29, i_30, i_31, i_32, i_138, i_143, i_144, i_254, i_255, i_256, i_257, i_258, i_261, i_264, i_265, i_279, i_280, i_284, i_285, i_286, i_288, i_319, i_320, i_338, i_339, i_575, i_576, i_599, i_600, i_4096, i_8191, i_8192, i_8249, i_8250, i_8256, i_9000, i_16384, i_32767, i_32768, i_65520, i_65521, i_65535, i_65536, i_65999, i_66000, i_1300, i_120, i_156, nI_leI, nI_ltI, nI_eq, nI_add, n_neg, not_false_eq_true, not_true_eq_false] <;> omega)) ?_
      refine Tt_W41 (fun mm vp vl pd _ _ _ _ _ _ _ _ _ _ _ _ _ _ _ _ _ _ _ _ _ _ _ _ _ _ _ _ _ _ _ _ _ _ vi img x4 x5 => ∃ j, x5 = nI j ∧ x4 = fX x2 j ∧ j ≤ m ∧ mm = m - j ∧ CRl (aPs pl (fun j => bo (fB x1 x2 j)) s j) vp vl pd vi img) ?_ 200000 m _ _ _ _ _ _ _ _ _ _ _ _ _ _ _ _ _ _ _ _ _ _ _ _ _ _ _ _ _ _ _ _ _ _ _ _ _ _ _ _ _ (by omega) ⟨0, rfl, rfl, by omega, rfl, hC⟩
      clear hC
      rintro K mm vp vl pd tc ex ol oo ooc late before od sc dc toks msl many lc ls ib it pr mdl msn msc mdn mdc hrl htc hsl hdl hcl hrow hcs htd hcle hnx hco vi img x4 x5 ⟨j, rfl, rfl, hj, rfl, hC⟩ ih
      unfold P_fill_49
      by_cases z : m ≤ j
      · have e : j = m := by omega
        subst e
        refine Tt_p (by first | decide | (simp (disch := omega) only [i_0, i_1, i_2, i_3, i_4, i_5, i_6, i_7, i_8, i_9, i_10, i_11, i_13, i_14, i_15, i_16, i_17, i_18, i_19, i_24, i_29, i_30, i_31, i_32, i_138, i_143, i_144, i_254, i_255, i_256, i_257, i_258, i_261, i_264, i_265, i_279, i_280, i_284, i_285, i_286, i_288, i_319, i_320, i_338, i_339, i_575, i_576, i_599, i_600, i_4096, i_8191, i_8192, i_8249, i_8250, i_8256, i_9000, i_16384, i_32767, i_32768, i_65520, i_65521, i_65535, i_65536, i_65999, i_66000, i_1300, i_120, i_156, nI_leI, nI_ltI, nI_eq, nI_add, n_neg, not_false_eq_true, not_true_eq_false] <;> omega)) ?_
        unfold P_fill_127
        refine Tt_R0.2 (Tt_o (e_open hC.1 hC.2.1) (Tt_Si ⟨?_, hC⟩))
        dsimp only
        rw [aPs_t]
      · refine Tt_n (by first | decide | (simp (disch := omega) only [i_0, i_1, i_2, i_3, i_4, i_5, i_6, i_7, i_8, i_9, i_10, i_11, i_13, i_14, i_15, i_16, i_17, i_18, i_19, i_24, i_29, i_30, i_31, i_32, i_138, i_143, i_144, i_254, i_255, i_256, i_257, i_258, i_261, i_264, i_265, i_279, i_280, i_284, i_285, i_286, i_288, i_319, i_320, i_338, i_339, i_575, i_576, i_599, i_600, i_4096, i_8191, i_8192, i_8249, i_8250, i_8256, i_9000, i_16384, i_32767, i_32768, i_65520, i_65521, i_65535, i_65536, i_65999, i_66000, i_1300, i_120, i_156, nI_leI, nI_ltI, nI_eq, nI_add, n_neg, not_false_eq_true, not_true_eq_false] <;> omega)) (Tt_l ?_)
        have eX : 1103515245 * fX x2 j + 12345 = fX x2 (j + 1) := rfl
        rw [eX]
        have go : ∀ v, v = fB x1 x2 j → Tt (P_fill_101 200000 8192 286 30 286 30 288 32 19 19 288 32 66000 (nI pl) fs fd fc fdc K vp vl pd tc ex ol oo ooc late before od sc dc toks msl many lc ls ib it pr mdl msn msc mdn mdc hrl htc hsl hdl hcl hrow hcs htd hcle hnx hco vi img (fX x2 (j + 1)) (nI j) v) (QPt (nI (tot s + m)) (aPs pl (fun j => bo (fB x1 x2 j)) s m)) := by
          rintro _ rfl
          unfold P_fill_101
          refine t_oneC (kk := fun vp vl pd tc ex ol oo ooc late before od sc dc toks msl many lc ls ib it pr mdl msn msc mdn mdc hrl htc hsl hdl hcl hrow hcs htd hcle hnx hco vi img => P_fill_121 200000 K vp vl pd tc ex ol oo ooc late before od sc dc toks msl many lc ls ib it pr mdl msn msc mdn mdc hrl htc hsl hdl hcl hrow hcs htd hcle hnx hco vi img (fX x2 (j + 1)) (nI j)) hC (aPs_ok ho (fun j => bo_lt _) j (by omega)) (by rw [aPs_t]; omega) hpl hF ?_
          intro vp vl pd tc ex ol oo ooc late before od sc dc toks msl many lc ls ib it pr mdl msn msc mdn mdc hrl htc hsl hdl hcl hrow hcs htd hcle hnx hco vi img hC2
          unfold P_fill_121
          refine Tt_l ?_
          rw [nI_1]
          exact ih (m - (j + 1)) _ _ _ _ _ _ _ _ _ _ _ _ _ _ _ _ _ _ _ _ _ _ _ _ _ _ _ _ _ _ _ _ _ _ _ _ _ _ _ _ _ (by omega) ⟨j + 1, rfl, rfl, by omega, rfl, hC2⟩
        by_cases k0 : x1 = 0
        · exact Tt_p k0 (go _ (if_pos k0).symm)
        · refine Tt_n k0 ?_
          by_cases k1 : x1 = 1
          · exact Tt_p k1 (go _ (by unfold fB; rw [if_neg k0, if_pos k1]))
          · exact Tt_n k1 (go _ (by unfold fB; rw [if_neg k0, if_neg k1]))
    · unfold M_fill
      refine Tt_n w1 (Tt_n w2 (Tt_n w3 (Tt_n w4 (Tt_p rfl ?_))))
      rw [hM.1, nI_add]
      refine Tt_p (by first | decide | (simp (disch := omega) only [i_0, i_1, i_2, i_3, i_4, i_5, i_6, i_7, i_8, i_9, i_10, i_11, i_13, i_14, i_15, i_16, i_17, i_18, i_19, i_24, i_29, i_30, i_31, i_32, i_138, i_143, i_144, i_254, i_255, i_256, i_257, i_258, i_261, i_264, i_265, i_279, i_280, i_284, i_285, i_286, i_288, i_319, i_320, i_338, i_339, i_575, i_576, i_599, i_600, i_4096, i_8191, i_8192, i_8249, i_8250, i_8256, i_9000, i_16384, i_32767, i_32768, i_65520, i_65521, i_65535, i_65536, i_65999, i_66000, i_1300, i_120, i_156, nI_leI, nI_ltI, nI_eq, nI_add, n_neg, not_false_eq_true, not_true_eq_false] <;> omega)) ?_
      rw [← hM.1]
      refine Tt_W27 (fun mm vr vp vi _ _ _ row _ _ _ _ _ _ _ _ _ _ _ _ _ _ _ _ img sts x4 x5 => ∃ j, x5 = nI j ∧ x4 = fX x2 j ∧ j ≤ m ∧ mm = m - j ∧ MRl (aPs pl (fun j => bo (fB x1 x2 j)) s j) vr vp vi row img sts) ?_ 200000 m _ _ _ _ _ _ _ _ _ _ _ _ _ _ _ _ _ _ _ _ _ _ _ _ _ _ _ (by omega) ⟨0, rfl, rfl, by omega, rfl, hM⟩
      clear hM
      rintro K mm vr vp vi pb tok st row pla pbe pk tl tv cnt rk lns we wb itM lr sp mo fx co img sts x4 x5 ⟨j, rfl, rfl, hj, rfl, hM⟩ ih
      unfold M_fill_49
      by_cases z : m ≤ j
      · have e : j = m := by omega
        subst e
        refine Tt_p (by first | decide | (simp (disch := omega) only [i_0, i_1, i_2, i_3, i_4, i_5, i_6, i_7, i_8, i_9, i_10, i_11, i_13, i_14, i_15, i_16, i_17, i_18, i_19, i_24, i_29, i_30, i_31, i_32, i_138, i_143, i_144, i_254, i_255, i_256, i_257, i_258, i_261, i_264, i_265, i_279, i_280, i_284, i_285, i_286, i_288, i_319, i_320, i_338, i_339, i_575, i_576, i_599, i_600, i_4096, i_8191, i_8192, i_8249, i_8250, i_8256, i_9000, i_16384, i_32767, i_32768, i_65520, i_65521, i_65535, i_65536, i_65999, i_66000, i_1300, i_120, i_156, nI_leI, nI_ltI, nI_eq, nI_add, n_neg, not_false_eq_true, not_true_eq_false] <;> omega)) (Tt_Si ⟨?_, hM⟩)
        dsimp only
        rw [hM.1, aPs_t]
      · refine Tt_n (by first | decide | (simp (disch := omega) only [i_0, i_1, i_2, i_3, i_4, i_5, i_6, i_7, i_8, i_9, i_10, i_11, i_13, i_14, i_15, i_16, i_17, i_18, i_19, i_24, i_29, i_30, i_31, i_32, i_138, i_143, i_144, i_254, i_255, i_256, i_257, i_258, i_261, i_264, i_265, i_279, i_280, i_284, i_285, i_286, i_288, i_319, i_320, i_338, i_339, i_575, i_576, i_599, i_600, i_4096, i_8191, i_8192, i_8249, i_8250, i_8256, i_9000, i_16384, i_32767, i_32768, i_65520, i_65521, i_65535, i_65536, i_65999, i_66000, i_1300, i_120, i_156, nI_leI, nI_ltI, nI_eq, nI_add, n_neg, not_false_eq_true, not_true_eq_false] <;> omega)) (Tt_l ?_)
        have eX : 1103515245 * fX x2 j + 12345 = fX x2 (j + 1) := rfl
        rw [eX]
        have go : ∀ v, v = fB x1 x2 j → Tt (M_fill_99 200000 (nI pl) K vr vp vi pb tok st row pla pbe pk tl tv cnt rk lns we wb itM lr sp mo fx co img sts (fX x2 (j + 1)) (nI j) v) (QMt (nI (tot s + m)) (aPs pl (fun j => bo (fB x1 x2 j)) s m)) := by
          rintro _ rfl
          unfold M_fill_99
          refine Tt_R25.2 (Tt_m (t_putByte hM (aPs_ok ho (fun j => bo_lt _) j (by omega)) (by rw [aPs_t]; omega) hpl) ?_)
          rintro ⟨_, vr2, vp3, vi4, pb, tok, st, row, pla, pbe, pk, tl, tv, cnt, rk, lns, we, wb, itM, lr, sp, mo, fx, co, img, sts⟩ hM2
          dsimp only at hM2 ⊢
          refine Tt_l ?_
          rw [nI_1]
          exact ih (m - (j + 1)) _ _ _ _ _ _ _ _ _ _ _ _ _ _ _ _ _ _ _ _ _ _ _ _ _ _ _ (by omega) ⟨j + 1, rfl, rfl, by omega, rfl, hM2⟩
        by_cases k0 : x1 = 0
        · exact Tt_p k0 (go _ (if_pos k0).symm)
        · refine Tt_n k0 ?_
          by_cases k1 : x1 = 1
          · exact Tt_p k1 (go _ (by unfold fB; rw [if_neg k0, if_pos k1]))
          · exact Tt_n k1 (go _ (by unfold fB; rw [if_neg k0, if_neg k1]))
  · refine ⟨-3, s, ho, ?_, ?_⟩
    · unfold P_fill
      have e6 : (65536 : Int32) - nI (tot s) = nI (65536 - tot s) := pk_sub (a := 65536) (by omega)
      refine Tt_n w1 (Tt_n w2 (Tt_n w3 (Tt_n w4 (Tt_p rfl (Tt_R0.2 (Tt_o (e_open hC.1 hC.2.1) ?_))))))
      dsimp only
      rw [e6]
      exact Tt_n (by first | decide | (simp (disch := omega) only [i_0, i_1, i_2, i_3, i_4, i_5, i_6, i_7, i_8, i_9, i_10, i_11, i_13, i_14, i_15, i_16, i_17, i_18, i_19, i_24, i_29, i_30, i_31, i_32, i_138, i_143, i_144, i_254, i_255, i_256, i_257, i_258, i_261, i_264, i_265, i_279, i_280, i_284, i_285, i_286, i_288, i_319, i_320, i_338, i_339, i_575, i_576, i_599, i_600, i_4096, i_8191, i_8192, i_8249, i_8250, i_8256, i_9000, i_16384, i_32767, i_32768, i_65520, i_65521, i_65535, i_65536, i_65999, i_66000, i_1300, i_120, i_156, nI_leI, nI_ltI, nI_eq, nI_add, n_neg, not_false_eq_true, not_true_eq_false] <;> omega)) (Tt_Si ⟨rfl, hC⟩)
    · unfold M_fill
      refine Tt_n w1 (Tt_n w2 (Tt_n w3 (Tt_n w4 (Tt_p rfl ?_))))
      refine Tt_n ?_ (Tt_Si ⟨rfl, hM⟩)
      rw [hM.1, nI_add]
      exact (by first | decide | (simp (disch := omega) only [i_0, i_1, i_2, i_3, i_4, i_5, i_6, i_7, i_8, i_9, i_10, i_11, i_13, i_14, i_15, i_16, i_17, i_18, i_19, i_24, i_29, i_30, i_31, i_32, i_138, i_143, i_144, i_254, i_255, i_256, i_257, i_258, i_261, i_264, i_265, i_279, i_280, i_284, i_285, i_286, i_288, i_319, i_320, i_338, i_339, i_575, i_576, i_599, i_600, i_4096, i_8191, i_8192, i_8249, i_8250, i_8256, i_9000, i_16384, i_32767, i_32768, i_65520, i_65521, i_65535, i_65536, i_65999, i_66000, i_1300, i_120, i_156, nI_leI, nI_ltI, nI_eq, nI_add, n_neg, not_false_eq_true, not_true_eq_false] <;> omega))
/-! close -/
def QPc (r : Int32) (len : Nat) (bi : Nat → Nat) (u : Int32 × Int32 × Int32 × Int32 × Int32 × Int32 × Int32 × Int32 × Int32 × (Nat → Int32) × (Nat → Int32) × (Nat → Int32) × (Nat → Int32) × (Nat → Int32) × (Nat → Int32) × (Nat → Int32) × Int32 × (Nat → Int32) × (Nat → Int32) × (Nat → Int32) × (Nat → Int32) × (Nat → Nat → Int32) × (Nat → Int32) × (Nat → Int32) × (Nat → Int32) × (Nat → Int32) × (Nat → Int32) × Int32 × Int32 × Int32 × Int32 × Int32 × (Nat → Int32) × (Nat → Int32) × (Nat → Int32) × (Nat → Int32) × (Nat → Int32) × (Nat → Int32) × Int32 × (Nat → Int32)) : Prop := u.1 = r ∧ u.2.2.1 = nI 1 ∧ u.2.2.2.1 = nI 0 ∧ u.2.2.2.2.2.2.2.2.2.2.2.2.2.2.2.2.2.2.2.2.2.2.2.2.2.2.2.2.2.2.2.2.2.2.2.2.2.2.1 = nI len ∧ Row u.2.2.2.2.2.2.2.2.2.2.2.2.2.2.2.2.2.2.2.2.2.2.2.2.2.2.2.2.2.2.2.2.2.2.2.2.2.2.2 0 len bi
def QMc (r : Int32) (len : Nat) (bi : Nat → Nat) (u : Int32 × Int32 × Int32 × Int32 × Int32 × Int32 × Int32 × (Nat → Int32) × (Nat → Int32) × (Nat → Int32) × (Nat → Int32) × (Nat → Int32) × (Nat → Int32) × (Nat → Int32) × (Nat → Int32) × (Nat → Int32) × (Nat → Int32) × (Nat → Int32) × (Nat → Int32) × (Nat → Int32) × (Nat → Int32) × (Nat → Int32) × (Nat → Int32) × (Nat → Int32) × (Nat → Int32)) : Prop := u.1 = r ∧ u.2.1 = nI 1 ∧ u.2.2.2.1 = nI len ∧ Row u.2.2.2.2.2.2.2.2.2.2.2.2.2.2.2.2.2.2.2.2.2.2.2.1 0 len bi ∧ u.2.2.2.2.2.2.2.2.2.2.2.2.2.2.2.2.2.2.2.2.2.2.2.2 0 = nI 0
theorem t_close {fs fd fc fdc pd img : Nat → Int32} {tc ex ol oo ooc many hrl htc hsl hdl hcl : Int32} {late before od sc dc toks msl lc ls ib it mdl msn msc mdn mdc hrow hcs htd hcle hnx hco : Nat → Int32} {pr : Nat → Nat → Int32} {row imgM sts : Nat → Int32} {pb tok st : Int32} {pla pbe pk tl tv cnt rk lns we wb itM lr sp mo fx co : Nat → Int32} {s : ASt} {pl : Nat} {vp vl vi vr vpM viM : Int32} (hC : CRl s vp vl pd vi img) (hM : MRl s vr vpM viM row imgM sts) (ho : AOK s) (hpl : pl ≤ 1) (hF : FixC fs fc fd fdc) : ∃ r len bi, len ≤ 66000 ∧ Tt (P_close 200000 8192 286 30 286 30 288 32 19 19 288 32 66000 (nI pl) pd fs fd fc fdc vp (nI 0) vl tc ex ol oo ooc late before od sc dc toks msl many lc ls ib it pr mdl msn msc mdn mdc hrl htc hsl hdl hcl hrow hcs htd hcle hnx hco vi img) (QPc r len bi) ∧ Tt (M_close 200000 (nI pl) vr row (nI 0) vpM viM pb tok st pla pbe pk tl tv cnt rk lns we wb itM lr sp mo fx co imgM sts) (QMc r len bi) := by
  obtain ⟨k, l, b, len, bi⟩ := s
  obtain ⟨h1, h2, h3, h4, h5, h6⟩ := ho
  obtain ⟨g1, g2, g3, g4, g5⟩ := hC
  obtain ⟨m1, m2, m3, m4, m5, m6, m7⟩ := hM
  unfold tot at m1
  dsimp only at h1 h2 h3 h4 h5 h6 g1 g2 g3 g4 g5 m1 m2 m3 m4 m5 m6 m7
  subst g1 g2 g4 m1 m2 m3
  have el : ∀ v, Bytes_length 200000 v = some (v, ()) := fun _ => rfl
  by_cases z : l = 0
  · subst z
    refine ⟨nI k, len, bi, by omega, ?_, ?_⟩
    · unfold P_close P_close_23
      exact Tt_p rfl (Tt_R0.2 (Tt_o (el _) (Tt_p (by decide) (Tt_Si ⟨rfl, rfl, rfl, rfl, g5⟩))))
    · unfold M_close
      refine Tt_p rfl (Tt_R23.2 ?_)
      unfold M_closePiece
      have e1 : 8192 * nI k = nI (8192 * k) := pk_mul 8192 k
      refine Tt_l (Tt_l ?_)
      rw [e1, pk_sub (by omega), show 8192 * k + 0 - 8192 * k = 0 by omega]
      exact Tt_p rfl (Tt_Si (Tt_Si ⟨rfl, rfl, rfl, m5, m7⟩))
  · refine ⟨nI (k + 1), len + 2 + clN pl b l, clB pl b l len bi, ?_, ?_, ?_⟩
    · have := clN_b pl b l
      omega
    · unfold P_close P_close_23
      refine Tt_p rfl (Tt_R0.2 (Tt_o (el _) (Tt_n (by first | decide | (simp (disch := omega) only [i_0, i_1, i_2, i_3, i_4, i_5, i_6, i_7, i_8, i_9, i_10, i_11, i_13, i_14, i_15, i_16, i_17, i_18, i_19, i_24, i_29, i_30, i_31, i_32, i_138, i_143, i_144, i_254, i_255, i_256, i_257, i_258, i_261, i_264, i_265, i_279, i_280, i_284, i_285, i_286, i_288, i_319, i_320, i_338, i_339, i_575, i_576, i_599, i_600, i_4096, i_8191, i_8192, i_8249, i_8250, i_8256, i_9000, i_16384, i_32767, i_32768, i_65520, i_65521, i_65535, i_65536, i_65999, i_66000, i_1300, i_120, i_156, nI_leI, nI_ltI, nI_eq, nI_add, n_neg, not_false_eq_true, not_true_eq_false] <;> omega)) (Tt_R38.2 (Tt_m (t_closeC g3 (by omega) (by omega) g5 (by omega) hpl hF) ?_)))))
      rintro ⟨_, vp9, vl10, tc, ex, ol, oo, ooc, late, before, od, sc, dc, toks, msl, many, lc, ls, ib, it, pr, mdl, msn, msc, mdn, mdc, hrl, htc, hsl, hdl, hcl, hrow, hcs, htd, hcle, hnx, hco, vi45, img46⟩ ⟨q1, q2, q3, q4⟩
      dsimp only at q1 q2 q3 q4 ⊢
      exact Tt_Si ⟨by rw [q1]; exact nI_1 k, rfl, q2, q3, q4⟩
    · unfold M_close
      refine Tt_p rfl (Tt_R23.2 (Tt_m (t_closeM m4 (by omega) (by omega) (by omega) m5 (by omega) hpl) ?_))
      rintro ⟨_, vp3, vi4, pb, tok, st, pla, pbe, pk, tl, tv, cnt, rk, lns, we, wb, it, lr, sp, mo, fx, co, img24, sts25⟩ ⟨q1, q2, q3, q4⟩
      dsimp only at q1 q2 q3 q4 ⊢
      refine Tt_Si ⟨q1, rfl, q2, q3, ?_⟩
      dsimp only
      rw [q4, pk_un (by omega)]
      exact m7
