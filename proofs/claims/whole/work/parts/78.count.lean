/-! tokens and their counts: the program's tokens, the reference's counts -/
def sOf (b : Nat → Nat) (beg fin t : Nat) : Nat := if tL b beg fin t = 0 then tV b beg fin t else lsym (tL b beg fin t)
def dOf (b : Nat → Nat) (beg fin t : Nat) : Nat := if tL b beg fin t = 0 then 99 else dsym (tV b beg fin t)
def xOf (b : Nat → Nat) (beg fin t : Nat) : Nat := if tL b beg fin t = 0 then 0 else lex (lsym (tL b beg fin t)) + dex (dsym (tV b beg fin t))
def vOf (b : Nat → Nat) (beg fin t : Nat) : Nat := if tL b beg fin t = 0 then tV b beg fin t else tL b beg fin t * 65536 + tV b beg fin t
theorem t_addByte {tc ex x1 : Int32} {toks sc dc : Nat → Int32} {t v : Nat} (h1 : tc = nI t) (ht : t < 4096) (h2 : x1 = nI v) (hv : v < 256) : Tt (Packer_addToken 200000 tc ex toks sc dc x1) (fun u => u.2.1 = nI (t + 1) ∧ u.2.2.1 = ex ∧ u.2.2.2.1 = upd toks t (nI v) ∧ u.2.2.2.2.1 = upd sc v (sc v + 1) ∧ u.2.2.2.2.2 = dc) := by
  subst h1 h2
  unfold Packer_addToken Packer_addToken_32 Packer_addToken_43 Packer_addToken_59 Packer_addToken_83
  simp (disch := omega) only [Tt_L, Tt_S, Tt_C, Tt_Z, Tt_R0, Tt_R1, Tt_R2, Tt_R3, Tt_R4, Tt_R5, q10, eq_self, if_true, if_false, i_0, i_1, i_2, i_3, i_4, i_5, i_6, i_7, i_8, i_9, i_10, i_11, i_13, i_14, i_15, i_16, i_17, i_18, i_19, i_24, i_29, i_30, i_31, i_32, i_138, i_143, i_144, i_254, i_255, i_256, i_257, i_258, i_261, i_264, i_265, i_279, i_280, i_284, i_285, i_286, i_288, i_319, i_320, i_338, i_339, i_575, i_576, i_599, i_600, i_4096, i_8191, i_8192, i_8249, i_8250, i_8256, i_9000, i_16384, i_32767, i_32768, i_65520, i_65521, i_65535, i_65536, i_65999, i_66000, i_1300, i_120, i_156, nI_leI, n_neg, Tt_N, nI_clamp, nI_add, nI_eq]
  rw [if_neg (by omega), if_neg (by omega), if_neg (by omega)]
  exact ⟨ht, by omega, by omega, trivial, trivial, trivial, trivial, trivial⟩
theorem t_addMatch {tc ex x1 : Int32} {toks sc dc : Nat → Int32} {t L V : Nat} (h1 : tc = nI t) (ht : t < 4096) (h2 : x1 = nI (L * 65536 + V)) (hL : 3 ≤ L) (hL2 : L ≤ 258) (hV : 1 ≤ V) (hV2 : V ≤ 32768) : Tt (Packer_addToken 200000 tc ex toks sc dc x1) (fun u => u.2.1 = nI (t + 1) ∧ u.2.2.1 = ex + nI (lex (lsym L) + dex (dsym V)) ∧ u.2.2.2.1 = upd toks t (nI (L * 65536 + V)) ∧ u.2.2.2.2.1 = upd sc (lsym L) (sc (lsym L) + 1) ∧ u.2.2.2.2.2 = upd dc (dsym V) (dc (dsym V) + 1)) := by
  subst h1 h2
  have yl := y_lsymP L (by omega) hL
  have ylb := y_lsymB L (by omega)
  have yd := y_drest hV hV2
  have yx := (y_lex (lsym L) ylb.2 ylb.1).2.1
  have ye := (y_dex (dsym V) yd.1).2.1
  have e1 : (L * 65536 + V) / 2 ^ 16 = L := by omega
  have e2 : (L * 65536 + V) % 65536 = V := by omega
  unfold Packer_addToken Packer_addToken_32 Packer_addToken_43 Packer_addToken_59 Packer_addToken_83 Packer_addToken_123
  simp (disch := omega) only [Tt_L, Tt_S, Tt_C, Tt_Z, Tt_R0, Tt_R1, Tt_R2, Tt_R3, Tt_R4, Tt_R5, q10, eq_self, if_true, if_false, i_0, i_1, i_2, i_3, i_4, i_5, i_6, i_7, i_8, i_9, i_10, i_11, i_13, i_14, i_15, i_16, i_17, i_18, i_19, i_24, i_29, i_30, i_31, i_32, i_138, i_143, i_144, i_254, i_255, i_256, i_257, i_258, i_261, i_264, i_265, i_279, i_280, i_284, i_285, i_286, i_288, i_319, i_320, i_338, i_339, i_575, i_576, i_599, i_600, i_4096, i_8191, i_8192, i_8249, i_8250, i_8256, i_9000, i_16384, i_32767, i_32768, i_65520, i_65521, i_65535, i_65536, i_65999, i_66000, i_1300, i_120, i_156, nI_leI, n_neg, Tt_N, nI_clamp, nI_add, nI_eq, n_shr, n_65535, e1, e2, yl]
  rw [if_neg (by omega), if_pos (by omega), if_neg (by omega)]
  refine ⟨ht, by omega, by omega, ?_⟩
  refine Tt_m (t_dsymP hV hV2 rfl) ?_
  rintro ⟨r, _⟩ hr
  have hr' : r = nI (dsym V) := hr
  subst hr'
  simp (disch := omega) only [Tt_L, Tt_S, Tt_C, Tt_Z, Tt_R0, Tt_R1, Tt_R2, Tt_R3, Tt_R4, Tt_R5, q10, eq_self, if_true, if_false, nI_leI, n_neg, Tt_N, nI_clamp, nI_add, yx, ye]
  rw [if_neg (by omega)]
  exact ⟨by omega, by omega, trivial, trivial, trivial, trivial, trivial⟩
theorem t_collect {c before toks sc dc : Nat → Int32} {b : Nat → Nat} {n beg fin : Nat} {tc ex x1 x2 : Int32} (h : Row c 0 n b) (hn : n ≤ 8192) (hB : ∀ p, p < n → before p = nI (lb (hf b n) p (hf b n p))) (hfn : fin ≤ n) (hbe : beg ≤ fin) (hl : fin - beg ≤ 4096) (h1 : x1 = nI beg) (h2 : x2 = nI fin) : Tt (Packer_collectTokens 200000 8192 before (nI n) c tc ex sc dc toks x1 x2) (fun u => ∃ T, T ≤ fin - beg ∧ isT b beg fin T ∧ u.2.1 = nI T ∧ u.2.2.1 = nI (sm (xOf b beg fin) T) ∧ (∀ s, s < 286 → u.2.2.2.1 s = nI (cn (sOf b beg fin) s T + (if s = 256 then 1 else 0))) ∧ (∀ d, d < 30 → u.2.2.2.2.1 d = nI (cn (dOf b beg fin) d T)) ∧ ∀ t, t < T → u.2.2.2.2.2 t = nI (vOf b beg fin t)) := by
  subst h1 h2
  unfold Packer_collectTokens
  rw [Tt_R1]
  refine Tt_m (t_fill (by omega)) ?_
  rintro ⟨_, sc1⟩ hs1
  rw [Tt_R1]
  refine Tt_m (t_fill (by omega)) ?_
  rintro ⟨_, dc1⟩ hd1
  refine Tt_W6 (fun m tc ex sc dc toks x3 => ∃ T, tc = nI T ∧ x3 = nI (pos b beg fin T) ∧ m = fin - pos b beg fin T ∧ T + beg ≤ pos b beg fin T ∧ pos b beg fin T ≤ fin ∧ (∀ t, t < T → pos b beg fin t < fin) ∧ ex = nI (sm (xOf b beg fin) T) ∧ (∀ s, s < 286 → sc s = nI (cn (sOf b beg fin) s T)) ∧ (∀ d, d < 30 → dc d = nI (cn (dOf b beg fin) d T)) ∧ ∀ t, t < T → toks t = nI (vOf b beg fin t)) ?_ 200000 (fin - beg) 0 0 sc1 dc1 toks (nI beg) (by omega) ⟨0, rfl, rfl, rfl, by show 0 + beg ≤ beg; omega, hbe, fun t ht => by omega, rfl, fun s hs => by
    have := hs1 s
    rw [if_pos hs] at this
    exact this, fun d hd => by
    have := hd1 d
    rw [if_pos hd] at this
    exact this, fun t ht => by omega⟩
  rintro K m tc ex sc dc toks x3 ⟨T, rfl, rfl, rfl, hT, hpf, hpt, rfl, hsc, hdc, hv⟩ ih
  unfold Packer_collectTokens_28
  by_cases z : fin ≤ pos b beg fin T
  · simp only [Tt_C]
    rw [if_pos (by rw [nI_leI (by omega) (by omega)]; exact z)]
    unfold Packer_collectTokens_81
    simp (disch := omega) only [Tt_L, Tt_S, Tt_C, Tt_Z, Tt_R0, Tt_R1, Tt_R2, Tt_R3, Tt_R4, Tt_R5, q10, eq_self, if_true, if_false, i_0, i_1, i_2, i_3, i_4, i_5, i_6, i_7, i_8, i_9, i_10, i_11, i_13, i_14, i_15, i_16, i_17, i_18, i_19, i_24, i_29, i_30, i_31, i_32, i_138, i_143, i_144, i_254, i_255, i_256, i_257, i_258, i_261, i_264, i_265, i_279, i_280, i_284, i_285, i_286, i_288, i_319, i_320, i_338, i_339, i_575, i_576, i_599, i_600, i_4096, i_8191, i_8192, i_8249, i_8250, i_8256, i_9000, i_16384, i_32767, i_32768, i_65520, i_65521, i_65535, i_65536, i_65999, i_66000, i_1300, i_120, i_156, Tt_N, nI_clamp]
    refine ⟨by omega, T, by omega, ⟨z, hpt⟩, rfl, rfl, fun s hs => ?_, hdc, hv⟩
    by_cases w : s = 256
    · rw [w, pk_us, if_pos rfl]
      have : cn (sOf b beg fin) 256 T = 0 := by
        have : ∀ k, k ≤ T → cn (sOf b beg fin) 256 k = 0 := by
          intro k
          induction k with
          | zero => intro _; rfl
          | succ k ik =>
            intro hk
            show cn (sOf b beg fin) 256 k + (if sOf b beg fin k = 256 then 1 else 0) = 0
            rw [ik (by omega), if_neg]
            have tb := @tok_b b beg fin n k h.2 (hpt k (by omega)) hfn
            unfold sOf
            rcases tb with tb | tb
            · rw [if_pos tb.1]; omega
            · rw [if_neg (by omega)]
              have := y_lsymB (tL b beg fin k) (by omega)
              omega
        exact this T (Nat.le_refl T)
      rw [this]
    · rw [pk_un w, if_neg w]
      exact hsc s hs
  · have tb := @tok_b b beg fin n T h.2 (by omega) hfn
    have hpos : pos b beg fin (T + 1) = pos b beg fin T + (if tL b beg fin T = 0 then 1 else tL b beg fin T) := rfl
    have next : ∀ ex' sc' dc' toks', ex' = nI (sm (xOf b beg fin) T + xOf b beg fin T) → (∀ s, s < 286 → sc' s = nI (cn (sOf b beg fin) s T + (if sOf b beg fin T = s then 1 else 0))) → (∀ d, d < 30 → dc' d = nI (cn (dOf b beg fin) d T + (if dOf b beg fin T = d then 1 else 0))) → toks' = upd toks T (nI (vOf b beg fin T)) → Tt (K (nI (T + 1)) ex' sc' dc' toks' (nI (pos b beg fin (T + 1)))) (fun u => ∃ T, T ≤ fin - beg ∧ isT b beg fin T ∧ u.2.1 = nI T ∧ u.2.2.1 = nI (sm (xOf b beg fin) T) ∧ (∀ s, s < 286 → u.2.2.2.1 s = nI (cn (sOf b beg fin) s T + (if s = 256 then 1 else 0))) ∧ (∀ d, d < 30 → u.2.2.2.2.1 d = nI (cn (dOf b beg fin) d T)) ∧ ∀ t, t < T → u.2.2.2.2.2 t = nI (vOf b beg fin t)) := by
      intro ex' sc' dc' toks' a1 a2 a3 a4
      have hp1 : pos b beg fin T + 1 ≤ pos b beg fin (T + 1) ∧ pos b beg fin (T + 1) ≤ fin := by
        rw [hpos]
        rcases tb with tb | tb
        · rw [if_pos tb.1]; omega
        · rw [if_neg (by omega)]; omega
      refine ih (fin - pos b beg fin (T + 1)) _ _ _ _ _ _ (by omega) ⟨T + 1, rfl, rfl, rfl, by omega, by omega, fun t ht => ?_, a1, a2, a3, fun t ht => ?_⟩
      · by_cases w : t = T
        · rw [w]; omega
        · exact hpt t (by omega)
      · rw [a4]
        by_cases w : t = T
        · rw [w, pk_us]
        · rw [pk_un w]; exact hv t (by omega)
    simp only [Tt_C]
    rw [if_neg (by rw [nI_leI (by omega) (by omega)]; exact z), Tt_R0]
    refine Tt_m (t_best h hn hB (by omega) hfn rfl rfl) ?_
    rintro ⟨r, _⟩ hr
    have hr' : r = nI (tL b beg fin T * 65536 + (bst b (pos b beg fin T) fin).2) := hr
    subst hr'
    have g0 := @e_at 200000 8192 n (pos b beg fin T) c b (nI (pos b beg fin T)) (nI n) h hn (by omega) (by omega) rfl rfl
    have z0 : bz b n (pos b beg fin T) = b (pos b beg fin T) := if_pos (by omega)
    rw [z0] at g0
    have bb := bst_b b (pos b beg fin T) fin
    have e1 : (bst b (pos b beg fin T) fin).1 = tL b beg fin T := rfl
    rw [e1] at bb
    have b0 := h.2 (pos b beg fin T)
    unfold Packer_collectTokens_63
    rcases tb with tb | tb
    · have e2 : (bst b (pos b beg fin T) fin).2 = 0 := by omega
      have e3 : tV b beg fin T = b (pos b beg fin T) := if_pos tb.1
      have s1 : sOf b beg fin T = b (pos b beg fin T) := by unfold sOf; rw [if_pos tb.1, e3]
      have s2 : dOf b beg fin T = 99 := if_pos tb.1
      have s3 : xOf b beg fin T = 0 := if_pos tb.1
      have s4 : vOf b beg fin T = b (pos b beg fin T) := by unfold vOf; rw [if_pos tb.1, e3]
      rw [tb.1, e2]
      simp (disch := omega) only [Tt_L, Tt_S, Tt_C, Tt_Z, Tt_R0, Tt_R1, Tt_R2, Tt_R3, Tt_R4, Tt_R5, q10, eq_self, if_true, if_false, i_0, i_1, i_2, i_3, i_4, i_5, i_6, i_7, i_8, i_9, i_10, i_11, i_13, i_14, i_15, i_16, i_17, i_18, i_19, i_24, i_29, i_30, i_31, i_32, i_138, i_143, i_144, i_254, i_255, i_256, i_257, i_258, i_261, i_264, i_265, i_279, i_280, i_284, i_285, i_286, i_288, i_319, i_320, i_338, i_339, i_575, i_576, i_599, i_600, i_4096, i_8191, i_8192, i_8249, i_8250, i_8256, i_9000, i_16384, i_32767, i_32768, i_65520, i_65521, i_65535, i_65536, i_65999, i_66000, i_1300, i_120, i_156, nI_leI, g0, Nat.zero_mul, Nat.add_zero]
      rw [if_pos (Nat.le_refl 0)]
      refine Tt_m (t_addByte rfl (by omega) rfl b0) ?_
      rintro ⟨_, tc2, ex2, toks2, sc2, dc2⟩ ⟨q1, q2, q3, q4, q5⟩
      dsimp only at q1 q2 q3 q4 q5 ⊢
      subst q1 q2 q3 q4 q5
      have ep : nI (pos b beg fin T) + (if (1 : Int32) < nI 0 >>> (nI 16 &&& nI 31) then nI 0 >>> (nI 16 &&& nI 31) else 1) = nI (pos b beg fin (T + 1)) := by
        rw [hpos, if_pos tb.1, if_neg (by decide)]
        exact nI_1 _
      have ep2 : nI (pos b beg fin T) + (if nI 1 < nI 0 >>> (nI 16 &&& nI 31) then nI 0 >>> (nI 16 &&& nI 31) else nI 1) = nI (pos b beg fin (T + 1)) := ep
      rw [ep2]
      refine next _ _ _ _ (by rw [s3]; rfl) (fun s hs => ?_) (fun d hd => ?_) (by rw [s4])
      · rw [s1]
        by_cases w : s = b (pos b beg fin T)
        · rw [← w, pk_us, if_pos rfl, hsc s hs]; exact nI_1 _
        · rw [pk_un w, if_neg (fun q => w q.symm)]; exact hsc s hs
      · rw [s2, if_neg (by omega)]; exact hdc d hd
    · have e3 : tV b beg fin T = (bst b (pos b beg fin T) fin).2 := if_neg (by omega)
      have n0 : ¬ (tL b beg fin T = 0) := by omega
      have s1 : sOf b beg fin T = lsym (tL b beg fin T) := if_neg n0
      have s2 : dOf b beg fin T = dsym (tV b beg fin T) := if_neg n0
      have s3 : xOf b beg fin T = lex (lsym (tL b beg fin T)) + dex (dsym (tV b beg fin T)) := if_neg n0
      have s4 : vOf b beg fin T = tL b beg fin T * 65536 + tV b beg fin T := if_neg n0
      rw [← e3]
      have e5 : (tL b beg fin T * 65536 + tV b beg fin T) / 2 ^ 16 = tL b beg fin T := by omega
      simp (disch := omega) only [Tt_L, Tt_S, Tt_C, Tt_Z, Tt_R0, Tt_R1, Tt_R2, Tt_R3, Tt_R4, Tt_R5, q10, eq_self, if_true, if_false, i_0, i_1, i_2, i_3, i_4, i_5, i_6, i_7, i_8, i_9, i_10, i_11, i_13, i_14, i_15, i_16, i_17, i_18, i_19, i_24, i_29, i_30, i_31, i_32, i_138, i_143, i_144, i_254, i_255, i_256, i_257, i_258, i_261, i_264, i_265, i_279, i_280, i_284, i_285, i_286, i_288, i_319, i_320, i_338, i_339, i_575, i_576, i_599, i_600, i_4096, i_8191, i_8192, i_8249, i_8250, i_8256, i_9000, i_16384, i_32767, i_32768, i_65520, i_65521, i_65535, i_65536, i_65999, i_66000, i_1300, i_120, i_156, nI_leI, n_shr, e5]
      rw [if_neg (by omega)]
      refine Tt_m (t_addMatch rfl (by omega) rfl tb.1 tb.2.1 tb.2.2.2.1 (by omega)) ?_
      rintro ⟨_, tc2, ex2, toks2, sc2, dc2⟩ ⟨q1, q2, q3, q4, q5⟩
      dsimp only at q1 q2 q3 q4 q5 ⊢
      subst q1 q2 q3 q4 q5
      have ep2 : nI (pos b beg fin T) + (if nI 1 < nI (tL b beg fin T) then nI (tL b beg fin T) else nI 1) = nI (pos b beg fin (T + 1)) := by
        rw [hpos, if_neg n0, if_pos (by rw [nI_ltI (by omega) (by omega)]; omega), nI_add]
      rw [ep2]
      refine next _ _ _ _ (by rw [s3, nI_add]) (fun s hs => ?_) (fun d hd => ?_) (by rw [s4])
      · rw [s1]
        by_cases w : s = lsym (tL b beg fin T)
        · rw [← w, pk_us, if_pos rfl, hsc s hs]; exact nI_1 _
        · rw [pk_un w, if_neg (fun q => w q.symm)]; exact hsc s hs
      · rw [s2]
        by_cases w : d = dsym (tV b beg fin T)
        · rw [← w, pk_us, if_pos rfl, hdc d hd]; exact nI_1 _
        · rw [pk_un w, if_neg (fun q => w q.symm)]; exact hdc d hd
/-- the counts of all three kinds, in the reference's order -/
def cntA (b : Nat → Nat) (beg fin T s : Nat) : Nat := if s < 288 then cn (sOf b beg fin) s T + (if s = 256 then 1 else 0) else if s < 320 then cn (dOf b beg fin) (s - 288) T else 0
theorem t_countTokens {b : Nat → Nat} {n beg fin T : Nat} {tok : Int32} {tl tv c : Nat → Int32} (hb : ∀ i, b i < 256) (hn : n ≤ 8192) (hfn : fin ≤ n) (hT : T ≤ 4096) (hpt : ∀ t, t < T → pos b beg fin t < fin) (h1 : tok = nI T) (hv : ∀ t, t < T → tl t = nI (tL b beg fin t) ∧ tv t = nI (tV b beg fin t)) : Tt (M_countTokens 200000 tok tl tv c) (fun u => ∀ s, s < 339 → u.2 s = nI (cntA b beg fin T s)) := by
  subst h1
  unfold M_countTokens
  refine Tt_W2 (fun m c x1 => ∃ j, x1 = nI j ∧ j ≤ 339 ∧ m = 339 - j ∧ ∀ s, s < j → c s = nI 0) ?_ 200000 339 c 0 (by omega) ⟨0, rfl, by omega, rfl, fun s hs => by omega⟩
  rintro K m c x1 ⟨j, rfl, hj, rfl, hc⟩ ih
  unfold M_countTokens_2
  simp (disch := omega) only [Tt_L, Tt_S, Tt_C, Tt_Z, Tt_R0, Tt_R1, Tt_R2, Tt_R3, Tt_R4, Tt_R5, q10, eq_self, if_true, if_false, i_0, i_1, i_2, i_3, i_4, i_5, i_6, i_7, i_8, i_9, i_10, i_11, i_13, i_14, i_15, i_16, i_17, i_18, i_19, i_24, i_29, i_30, i_31, i_32, i_138, i_143, i_144, i_254, i_255, i_256, i_257, i_258, i_261, i_264, i_265, i_279, i_280, i_284, i_285, i_286, i_288, i_319, i_320, i_338, i_339, i_575, i_576, i_599, i_600, i_4096, i_8191, i_8192, i_8249, i_8250, i_8256, i_9000, i_16384, i_32767, i_32768, i_65520, i_65521, i_65535, i_65536, i_65999, i_66000, i_1300, i_120, i_156, nI_leI, Tt_N, nI_clamp, nI_add]
  split
  · rename_i h0
    unfold M_countTokens_22
    simp (disch := omega) only [Tt_L, Tt_S, Tt_C, Tt_Z, Tt_R0, Tt_R1, Tt_R2, Tt_R3, Tt_R4, Tt_R5, q10, eq_self, if_true, if_false, i_0, i_1, i_2, i_3, i_4, i_5, i_6, i_7, i_8, i_9, i_10, i_11, i_13, i_14, i_15, i_16, i_17, i_18, i_19, i_24, i_29, i_30, i_31, i_32, i_138, i_143, i_144, i_254, i_255, i_256, i_257, i_258, i_261, i_264, i_265, i_279, i_280, i_284, i_285, i_286, i_288, i_319, i_320, i_338, i_339, i_575, i_576, i_599, i_600, i_4096, i_8191, i_8192, i_8249, i_8250, i_8256, i_9000, i_16384, i_32767, i_32768, i_65520, i_65521, i_65535, i_65536, i_65999, i_66000, i_1300, i_120, i_156, Tt_N, nI_clamp]
    refine ⟨by omega, ?_⟩
    refine Tt_W2 (fun m c x1 => ∃ t, x1 = nI t ∧ t ≤ T ∧ m = T - t ∧ ∀ s, s < 339 → c s = nI (cntA b beg fin t s)) ?_ 200000 T _ _ (by omega) ⟨0, rfl, by omega, rfl, fun s hs => ?_⟩
    · rintro K2 m c x1 ⟨t, rfl, ht, rfl, hc⟩ ih2
      unfold M_countTokens_33 M_countTokens_108
      by_cases z : T ≤ t
      · simp only [Tt_C]
        rw [if_pos (by rw [nI_leI (by omega) (by omega)]; exact z)]
        intro s hs
        have : t = T := by omega
        rw [← this]
        exact hc s hs
      · have tb := @tok_b b beg fin n t hb (hpt t (by omega)) hfn
        have v1 := (hv t (by omega)).1
        have v2 := (hv t (by omega)).2
        have stepS : ∀ s, s < 339 → cntA b beg fin (t + 1) s = cntA b beg fin t s + (if s < 288 then (if sOf b beg fin t = s then 1 else 0) else if s < 320 then (if dOf b beg fin t = s - 288 then 1 else 0) else 0) := by
          intro s hs
          unfold cntA
          by_cases w : s < 288
          · rw [if_pos w, if_pos w, if_pos w]
            show cn (sOf b beg fin) s t + (if sOf b beg fin t = s then 1 else 0) + _ = _
            omega
          · rw [if_neg w, if_neg w, if_neg w]
            by_cases w2 : s < 320
            · rw [if_pos w2, if_pos w2, if_pos w2]; rfl
            · rw [if_neg w2, if_neg w2, if_neg w2]
        rcases tb with tb | tb
        · have s1 : sOf b beg fin t = tV b beg fin t := if_pos tb.1
          have s2 : dOf b beg fin t = 99 := if_pos tb.1
          simp (disch := omega) only [Tt_L, Tt_S, Tt_C, Tt_Z, Tt_R0, Tt_R1, Tt_R2, Tt_R3, Tt_R4, Tt_R5, q10, eq_self, if_true, if_false, i_0, i_1, i_2, i_3, i_4, i_5, i_6, i_7, i_8, i_9, i_10, i_11, i_13, i_14, i_15, i_16, i_17, i_18, i_19, i_24, i_29, i_30, i_31, i_32, i_138, i_143, i_144, i_254, i_255, i_256, i_257, i_258, i_261, i_264, i_265, i_279, i_280, i_284, i_285, i_286, i_288, i_319, i_320, i_338, i_339, i_575, i_576, i_599, i_600, i_4096, i_8191, i_8192, i_8249, i_8250, i_8256, i_9000, i_16384, i_32767, i_32768, i_65520, i_65521, i_65535, i_65536, i_65999, i_66000, i_1300, i_120, i_156, nI_leI, Tt_N, nI_clamp, v1, v2, nI_eq, nI_add]
          rw [if_neg z, if_pos tb.1]
          refine ⟨by omega, by omega, by omega, by omega, ih2 (T - (t + 1)) _ _ (by omega) ⟨t + 1, rfl, by omega, rfl, fun s hs => ?_⟩⟩
          rw [stepS s hs, s1, s2]
          by_cases w : s = tV b beg fin t
          · rw [← w, pk_us, if_pos (by omega), if_pos rfl, hc s hs]; exact nI_1 _
          · rw [pk_un w, hc s hs]
            congr 1
            split
            · rw [if_neg (fun q => w q.symm)]; rfl
            · split
              · rw [if_neg (by omega)]; rfl
              · rfl
        · have n0 : ¬ (tL b beg fin t = 0) := by omega
          have s1 : sOf b beg fin t = lsym (tL b beg fin t) := if_neg n0
          have s2 : dOf b beg fin t = dsym (tV b beg fin t) := if_neg n0
          have yl := y_lsymM (tL b beg fin t) (by omega)
          have ylb := y_lsymB (tL b beg fin t) (by omega)
          have yd := @y_drest (tV b beg fin t) (by omega) (by omega)
          simp (disch := omega) only [Tt_L, Tt_S, Tt_C, Tt_Z, Tt_R0, Tt_R1, Tt_R2, Tt_R3, Tt_R4, Tt_R5, q10, eq_self, if_true, if_false, i_0, i_1, i_2, i_3, i_4, i_5, i_6, i_7, i_8, i_9, i_10, i_11, i_13, i_14, i_15, i_16, i_17, i_18, i_19, i_24, i_29, i_30, i_31, i_32, i_138, i_143, i_144, i_254, i_255, i_256, i_257, i_258, i_261, i_264, i_265, i_279, i_280, i_284, i_285, i_286, i_288, i_319, i_320, i_338, i_339, i_575, i_576, i_599, i_600, i_4096, i_8191, i_8192, i_8249, i_8250, i_8256, i_9000, i_16384, i_32767, i_32768, i_65520, i_65521, i_65535, i_65536, i_65999, i_66000, i_1300, i_120, i_156, nI_leI, Tt_N, nI_clamp, v1, v2, nI_eq, nI_add, yl]
          rw [if_neg z, if_neg n0]
          refine ⟨by omega, by omega, by omega, by omega, by omega, ?_⟩
          refine Tt_m (t_dsymM (by omega) rfl) ?_
          rintro ⟨r, _⟩ hr
          have hr' : r = nI (dsym (tV b beg fin t)) := hr
          subst hr'
          simp (disch := omega) only [Tt_L, Tt_S, Tt_C, Tt_Z, Tt_R0, Tt_R1, Tt_R2, Tt_R3, Tt_R4, Tt_R5, q10, eq_self, if_true, if_false, i_0, i_1, i_2, i_3, i_4, i_5, i_6, i_7, i_8, i_9, i_10, i_11, i_13, i_14, i_15, i_16, i_17, i_18, i_19, i_24, i_29, i_30, i_31, i_32, i_138, i_143, i_144, i_254, i_255, i_256, i_257, i_258, i_261, i_264, i_265, i_279, i_280, i_284, i_285, i_286, i_288, i_319, i_320, i_338, i_339, i_575, i_576, i_599, i_600, i_4096, i_8191, i_8192, i_8249, i_8250, i_8256, i_9000, i_16384, i_32767, i_32768, i_65520, i_65521, i_65535, i_65536, i_65999, i_66000, i_1300, i_120, i_156, Tt_N, nI_clamp, nI_add]
          refine ⟨by omega, by omega, ih2 (T - (t + 1)) _ _ (by omega) ⟨t + 1, rfl, by omega, rfl, fun s hs => ?_⟩⟩
          rw [stepS s hs, s1, s2]
          by_cases w : s = 288 + dsym (tV b beg fin t)
          · rw [← w, pk_us, pk_un (by omega), if_neg (by omega), if_pos (by omega), if_pos (by omega), hc s hs]; exact nI_1 _
          · rw [pk_un w]
            by_cases w2 : s = lsym (tL b beg fin t)
            · rw [← w2, pk_us, if_pos (by omega), if_pos rfl, hc s hs]; exact nI_1 _
            · rw [pk_un w2, hc s hs]
              congr 1
              split
              · rw [if_neg (fun q => w2 q.symm)]; rfl
              · split
                · rw [if_neg (by omega)]; rfl
                · rfl
    · unfold cntA
      by_cases w : s = 256
      · rw [w, pk_us, if_pos (by omega), if_pos rfl]; rfl
      · rw [pk_un w, hc s (by omega)]
        congr 1
        split
        · rw [if_neg w]; rfl
        · split <;> rfl
  · rename_i h0
    refine ⟨by omega, ih (339 - (j + 1)) _ _ (by omega) ⟨j + 1, rfl, by omega, rfl, fun s hs => ?_⟩⟩
    by_cases w : s = j
    · rw [w, pk_us]
    · rw [pk_un w]; exact hc s (by omega)
