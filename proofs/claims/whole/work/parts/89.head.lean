/-! what a made part tells of its codes: program and reference -/
def ord (k : Nat) : Nat := (tb_order k).toNatClampNeg
theorem y_ord : ∀ k, k < 19 → tb_order k = nI (ord k) ∧ M_smallOrder 200000 (nI k) = some (nI (ord k), ()) ∧ ord k < 19 := by decide +kernel
theorem y_rex : ∀ w, w < 19 → P_repeatExtra 200000 (nI w) = some (nI (rex w), ()) ∧ M_stepBits 200000 (nI w) = some (nI (rex w), ()) ∧ rex w ≤ 7 := by decide +kernel
def cln (f : Nat → Nat) : Nat → Nat
  | 0 => 0
  | k + 1 => if k + 1 ≤ 4 then k + 1 else if f (ord k) = 0 then cln f k else k + 1
theorem cln_b (f : Nat → Nat) : ∀ k, cln f k ≤ k ∧ (4 ≤ k → 4 ≤ cln f k) := by
  intro k
  induction k with
  | zero => exact ⟨Nat.le_refl 0, fun h => by omega⟩
  | succ k ih =>
    have e : cln f (k + 1) = if k + 1 ≤ 4 then k + 1 else if f (ord k) = 0 then cln f k else k + 1 := rfl
    rw [e]
    split
    · omega
    · split <;> omega
def hds (f : Nat → Nat) (W : WS) : Nat → WS
  | 0 => W
  | i + 1 => app (hds f W i) (f (ord i)) 3
def hss (f : Nat → Nat) (L : Lg) (W : WS) : Nat → WS
  | 0 => W
  | t + 1 => app (app (hss f L W t) (rv (cde f 19 (L.2.1 t)) (f (L.2.1 t))) (f (L.2.1 t))) (L.2.2 t) (rex (L.2.1 t))
def hdr (h d : Nat) (f : Nat → Nat) (L : Lg) (W : WS) : WS := hss f L (hds f (app (app (app W (h - 257) 5) (d - 1) 5) (cln f 19 - 4) 4) (cln f 19)) L.1
theorem t_lengthOf {N i : Nat} {lens : Nat → Int32} {f : Nat → Nat} {x : Int32} (hN : N ≤ 339) (hL : ∀ i, i < N → lens i = nI (f i)) (hi : i < N) (hx : x = nI i) : Code_lengthOf 200000 N lens x = some (nI (f i), ()) := by
  subst hx
  unfold Code_lengthOf mC mG
  rw [if_neg (nI_pos (by omega)), if_neg (by rw [nI_leI (by omega) (by omega)]; omega), if_neg (nI_in hi (by omega)), nI_clamp (by omega), hL i hi]
/-- the row of lengths of a made part -/
def rowF (fS fD : Nat → Nat) (h k : Nat) : Nat := if k < h then fS k else fD (k - h)
theorem t_gather {l1 l2 row : Nat → Int32} {fS fD : Nat → Nat} {rl sl dl : Int32} (hS : ∀ i, i < 286 → l1 i = nI (fS i)) (hS' : ∀ i, i < 286 → fS i ≤ 15) (hD : ∀ i, i < 30 → l2 i = nI (fD i)) (hD' : ∀ i, i < 30 → fD i ≤ 15) : Tt (Header_gather 200000 286 30 l1 l2 rl sl dl row) (fun u => u.2.1 = nI (max 257 (usd fS 286) + max 1 (usd fD 30)) ∧ u.2.2.1 = nI (max 257 (usd fS 286)) ∧ u.2.2.2.1 = nI (max 1 (usd fD 30)) ∧ ∀ i, i < max 257 (usd fS 286) + max 1 (usd fD 30) → u.2.2.2.2 i = nI (rowF fS fD (max 257 (usd fS 286)) i)) := by
  unfold Header_gather
  rw [Tt_R0]
  refine Tt_m (t_used (by omega) hS hS') ?_
  rintro ⟨r1, _⟩ h1
  have h1' : r1 = nI (usd fS 286) := h1
  subst h1'
  rw [Tt_L, Tt_R0]
  refine Tt_m (t_used (by omega) hD hD') ?_
  rintro ⟨r2, _⟩ h2
  have h2' : r2 = nI (usd fD 30) := h2
  subst h2'
  have u1 := usd_le fS 286
  have u2 := usd_le fD 30
  have e1 : (if (257 : Int32) < nI (usd fS 286) then nI (usd fS 286) else (257 : Int32)) = nI (max 257 (usd fS 286)) := by
    rw [i_257]
    by_cases z : 257 < usd fS 286
    · rw [if_pos (by rw [nI_ltI (by omega) (by omega)]; exact z)]; congr 1; omega
    · rw [if_neg (by rw [nI_ltI (by omega) (by omega)]; exact z)]; congr 1; omega
  have e2 : (if (1 : Int32) < nI (usd fD 30) then nI (usd fD 30) else (1 : Int32)) = nI (max 1 (usd fD 30)) := by
    rw [i_1]
    by_cases z : 1 < usd fD 30
    · rw [if_pos (by rw [nI_ltI (by omega) (by omega)]; exact z)]; congr 1; omega
    · rw [if_neg (by rw [nI_ltI (by omega) (by omega)]; exact z)]; congr 1; omega
  simp only [Tt_L, e1, e2, nI_add]
  have bh : max 257 (usd fS 286) ≤ 286 := by omega
  have bd : max 1 (usd fD 30) ≤ 30 := by omega
  generalize max 257 (usd fS 286) = h at *
  generalize max 1 (usd fD 30) = d at *
  have e3 : (if (320 : Int32) < nI (h + d) then (320 : Int32) else nI (h + d)) = nI (h + d) := by
    rw [i_320, if_neg (by rw [nI_ltI (by omega) (by omega)]; omega)]
  rw [e3]
  refine Tt_W5 (fun mm a1 a2 a3 row x3 => a1 = nI (h + d) ∧ a2 = nI h ∧ a3 = nI d ∧ ∃ k, x3 = nI k ∧ k ≤ h + d ∧ mm = h + d - k ∧ ∀ i, i < k → row i = nI (rowF fS fD h i)) ?_ 200000 (h + d) _ _ _ _ _ (by omega) ⟨rfl, rfl, rfl, 0, rfl, by omega, rfl, fun i hi => by omega⟩
  rintro K mm a1 a2 a3 row x3 ⟨rfl, rfl, rfl, k, rfl, hk, rfl, hr⟩ ih
  have next : ∀ v, v = nI (rowF fS fD h k) → k < h + d → Tt (K (nI (h + d)) (nI h) (nI d) (upd row k v) (nI (k + 1))) (fun u => u.2.1 = nI (h + d) ∧ u.2.2.1 = nI h ∧ u.2.2.2.1 = nI d ∧ ∀ i, i < h + d → u.2.2.2.2 i = nI (rowF fS fD h i)) := by
    intro v hv hk'
    refine ih (h + d - (k + 1)) _ _ _ _ _ (by omega) ⟨rfl, rfl, rfl, k + 1, rfl, by omega, rfl, fun i hi => ?_⟩
    by_cases e : i = k
    · rw [e, pk_us, hv]
    · rw [pk_un e]; exact hr i (by omega)
  unfold Header_gather_49 Header_gather_88
  by_cases z : h + d ≤ k
  · simp (disch := omega) only [Tt_C, Tt_S, nI_leI]
    rw [if_pos z]
    exact ⟨trivial, trivial, trivial, fun i hi => hr i (by omega)⟩
  · by_cases y : h ≤ k
    · have g := @t_lengthOf 30 (k - h) l2 fD (nI (k - h)) (by omega) hD (by omega) rfl
      simp (disch := omega) only [Tt_L, Tt_S, Tt_C, Tt_Z, Tt_R0, Tt_R1, Tt_R2, Tt_R3, Tt_R4, Tt_R5, q10, eq_self, if_true, if_false, i_0, i_1, i_2, i_3, i_4, i_5, i_6, i_7, i_8, i_9, i_10, i_11, i_13, i_14, i_15, i_16, i_17, i_18, i_19, i_24, i_29, i_30, i_31, i_32, i_138, i_143, i_144, i_254, i_255, i_256, i_257, i_258, i_261, i_264, i_265, i_279, i_280, i_284, i_285, i_286, i_288, i_319, i_320, i_338, i_339, i_575, i_576, i_599, i_600, i_4096, i_8191, i_8192, i_8249, i_8250, i_8256, i_9000, i_16384, i_32767, i_32768, i_65520, i_65521, i_65535, i_65536, i_65999, i_66000, i_1300, i_120, i_156, nI_leI, pk_sub, g, Tt_N, nI_clamp, nI_add]
      rw [if_neg z, if_pos y]
      exact ⟨by omega, next _ (by unfold rowF; rw [if_neg (by omega)]) (by omega)⟩
    · have g := @t_lengthOf 286 k l1 fS (nI k) (by omega) hS (by omega) rfl
      simp (disch := omega) only [Tt_L, Tt_S, Tt_C, Tt_Z, Tt_R0, Tt_R1, Tt_R2, Tt_R3, Tt_R4, Tt_R5, q10, eq_self, if_true, if_false, i_0, i_1, i_2, i_3, i_4, i_5, i_6, i_7, i_8, i_9, i_10, i_11, i_13, i_14, i_15, i_16, i_17, i_18, i_19, i_24, i_29, i_30, i_31, i_32, i_138, i_143, i_144, i_254, i_255, i_256, i_257, i_258, i_261, i_264, i_265, i_279, i_280, i_284, i_285, i_286, i_288, i_319, i_320, i_338, i_339, i_575, i_576, i_599, i_600, i_4096, i_8191, i_8192, i_8249, i_8250, i_8256, i_9000, i_16384, i_32767, i_32768, i_65520, i_65521, i_65535, i_65536, i_65999, i_66000, i_1300, i_120, i_156, nI_leI, g, Tt_N, nI_clamp, nI_add]
      rw [if_neg z, if_neg y]
      exact ⟨by omega, next _ (by unfold rowF; rw [if_pos (by omega)]) (by omega)⟩
theorem t_writeHdC {len op oc tc sl dl cl : Int32} {cl' td co out : Nat → Int32} {f : Nat → Nat} {L : Lg} {h d : Nat} {W : WS} (hh : 257 ≤ h) (hh2 : h ≤ 286) (hd : 1 ≤ d) (hd2 : d ≤ 30) (h1 : sl = nI h) (h2 : dl = nI d) (h3 : cl = nI (cln f 19)) (hf : ∀ i, i < 19 → cl' i = nI (f i)) (hf7 : ∀ i, i < 19 → f i ≤ 7) (hco : ∀ s, s < 19 → 0 < f s → co s = nI (rv (cde f 19 s) (f s))) (htc : tc = nI L.1) (hL : L.1 ≤ 320) (htd : ∀ t, t < L.1 → td t = nI (L.2.1 t + 32 * L.2.2 t)) (hB : LgB L) (hU : ∀ t, t < L.1 → 0 < f (L.2.1 t)) (hW : ClsW len op oc out W.1 W.2) : Tt (Header_write 200000 19 19 tc sl dl cl cl' td co len op oc out) (fun u => ClsW u.2.1 u.2.2.1 u.2.2.2.1 u.2.2.2.2 (hdr h d f L W).1 (hdr h d f L W).2) := by
  subst h1 h2 h3 htc
  have cb := cln_b f 19
  have cb2 := cb.2 (by omega)
  unfold Header_write
  simp (disch := omega) only [Tt_L, Tt_R4, i_0, i_1, i_2, i_3, i_4, i_5, i_6, i_7, i_8, i_9, i_10, i_11, i_13, i_14, i_15, i_16, i_17, i_18, i_19, i_24, i_29, i_30, i_31, i_32, i_138, i_143, i_144, i_254, i_255, i_256, i_257, i_258, i_261, i_264, i_265, i_279, i_280, i_284, i_285, i_286, i_288, i_319, i_320, i_338, i_339, i_575, i_576, i_599, i_600, i_4096, i_8191, i_8192, i_8249, i_8250, i_8256, i_9000, i_16384, i_32767, i_32768, i_65520, i_65521, i_65535, i_65536, i_65999, i_66000, i_1300, i_120, i_156, pk_sub]
  refine Tt_m (t_number hW (k := 5) (v := h - 257) (by omega) (by omega) rfl rfl) ?_
  rintro ⟨_, a1, a2, a3, a4⟩ hW1
  dsimp only at hW1 ⊢
  refine Tt_m (t_number hW1 (k := 5) (v := d - 1) (by omega) (by omega) rfl rfl) ?_
  rintro ⟨_, a1, a2, a3, a4⟩ hW2
  dsimp only at hW2 ⊢
  refine Tt_m (t_number hW2 (k := 4) (v := cln f 19 - 4) (by omega) (by omega) rfl rfl) ?_
  rintro ⟨_, a1, a2, a3, a4⟩ hW3
  dsimp only at hW3 ⊢
  have hW3' : ClsW a1 a2 a3 a4 (app (app (app W (h - 257) 5) (d - 1) 5) (cln f 19 - 4) 4).1 (app (app (app W (h - 257) 5) (d - 1) 5) (cln f 19 - 4) 4).2 := hW3
  unfold hdr
  generalize app (app (app W (h - 257) 5) (d - 1) 5) (cln f 19 - 4) 4 = W3 at *
  refine Tt_W5 (fun mm len op oc out x2 => ∃ i, x2 = nI i ∧ i ≤ cln f 19 ∧ mm = cln f 19 - i ∧ ClsW len op oc out (hds f W3 i).1 (hds f W3 i).2) ?_ 200000 (cln f 19) _ _ _ _ _ (by omega) ⟨0, rfl, by omega, rfl, hW3'⟩
  rintro K mm len op oc out x2 ⟨i, rfl, hi, rfl, hC⟩ ih
  unfold Header_write_37
  by_cases z : cln f 19 ≤ i
  · simp (disch := omega) only [Tt_C, nI_leI]
    rw [if_pos z]
    have ei : i = cln f 19 := by omega
    rw [ei] at hC
    generalize hds f W3 (cln f 19) = W4 at *
    unfold Header_write_76
    refine Tt_W5 (fun mm len op oc out x2 => ∃ t, x2 = nI t ∧ t ≤ L.1 ∧ mm = L.1 - t ∧ ClsW len op oc out (hss f L W4 t).1 (hss f L W4 t).2) ?_ 200000 L.1 _ _ _ _ _ (by omega) ⟨0, rfl, by omega, rfl, hC⟩
    rintro K2 mm len op oc out x2 ⟨t, rfl, ht, rfl, hC2⟩ ih2
    unfold Header_write_78
    by_cases y : L.1 ≤ t
    · simp (disch := omega) only [Tt_C, Tt_S, nI_leI]
      have et : t = L.1 := by omega
      rw [if_pos y, ← et]
      exact hC2
    · obtain ⟨w1, w2⟩ := hB t (by omega)
      have w3 := htd t (by omega)
      have w4 := hU t (by omega)
      have yr := y_rex (L.2.1 t) w1
      have w5 : 2 ^ rex (L.2.1 t) ≤ 2 ^ 7 := Nat.pow_le_pow_right (by omega) yr.2.2
      have q1 : (L.2.1 t + 32 * L.2.2 t) % 32 = L.2.1 t := by omega
      have q2 : (L.2.1 t + 32 * L.2.2 t) / 32 = L.2.2 t := by omega
      simp (disch := omega) only [Tt_L, Tt_S, Tt_C, Tt_Z, Tt_R0, Tt_R1, Tt_R2, Tt_R3, Tt_R4, Tt_R5, q10, eq_self, if_true, if_false, i_0, i_1, i_2, i_3, i_4, i_5, i_6, i_7, i_8, i_9, i_10, i_11, i_13, i_14, i_15, i_16, i_17, i_18, i_19, i_24, i_29, i_30, i_31, i_32, i_138, i_143, i_144, i_254, i_255, i_256, i_257, i_258, i_261, i_264, i_265, i_279, i_280, i_284, i_285, i_286, i_288, i_319, i_320, i_338, i_339, i_575, i_576, i_599, i_600, i_4096, i_8191, i_8192, i_8249, i_8250, i_8256, i_9000, i_16384, i_32767, i_32768, i_65520, i_65521, i_65535, i_65536, i_65999, i_66000, i_1300, i_120, i_156, nI_leI, Tt_N, nI_clamp, w3, pk_rem, pk_div, q1, q2, yr.1, nI_add]
      rw [if_neg y, if_neg (by omega)]
      refine ⟨by omega, ?_⟩
      have f7 := hf7 _ w1
      refine Tt_m (t_codeWrite hC2 (by omega) rfl w1 (by omega) (hf _ w1) (hco _ w1 w4) (rv_lt _ _)) ?_
      rintro ⟨_, a1, a2, a3, a4⟩ hC3
      dsimp only at hC3 ⊢
      refine ⟨by omega, ?_⟩
      refine Tt_m (t_number hC3 (by omega) w2 rfl rfl) ?_
      rintro ⟨_, a1, a2, a3, a4⟩ hC4
      exact ih2 (L.1 - (t + 1)) _ _ _ _ _ (by omega) ⟨t + 1, rfl, by omega, rfl, hC4⟩
  · have yo := y_ord i (by omega)
    have f7 := hf7 _ yo.2.2
    have g := @t_lengthOf 19 (ord i) cl' f (nI (ord i)) (by omega) hf yo.2.2 rfl
    simp (disch := omega) only [Tt_L, Tt_S, Tt_C, Tt_Z, Tt_R0, Tt_R1, Tt_R2, Tt_R3, Tt_R4, Tt_R5, q10, eq_self, if_true, if_false, i_0, i_1, i_2, i_3, i_4, i_5, i_6, i_7, i_8, i_9, i_10, i_11, i_13, i_14, i_15, i_16, i_17, i_18, i_19, i_24, i_29, i_30, i_31, i_32, i_138, i_143, i_144, i_254, i_255, i_256, i_257, i_258, i_261, i_264, i_265, i_279, i_280, i_284, i_285, i_286, i_288, i_319, i_320, i_338, i_339, i_575, i_576, i_599, i_600, i_4096, i_8191, i_8192, i_8249, i_8250, i_8256, i_9000, i_16384, i_32767, i_32768, i_65520, i_65521, i_65535, i_65536, i_65999, i_66000, i_1300, i_120, i_156, nI_leI, Tt_N, nI_clamp, yo.1, g, nI_add]
    rw [if_neg z, if_neg (by omega)]
    refine ⟨by omega, ?_⟩
    refine Tt_m (t_number hC (k := 3) (v := f (ord i)) (by omega) (by omega) rfl rfl) ?_
    rintro ⟨_, a1, a2, a3, a4⟩ hC4
    exact ih (cln f 19 - (i + 1)) _ _ _ _ _ (by omega) ⟨i + 1, rfl, by omega, rfl, hC4⟩
