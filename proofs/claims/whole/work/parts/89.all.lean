/-! what a made part tells of its codes: program and reference -/
def ord (k : Nat) : Nat := (tb_order k).toNatClampNeg
theorem y_ord : ∀ k, k < 19 → tb_order k = nI (ord k) ∧ M_smallOrder 200000 (nI k) = some (nI (ord k), ()) ∧ ord k < 19 := by decide +kernel
theorem y_rex : ∀ w, w < 19 → P_repeatExtra 200000 (nI w) = some (nI (rex w), ()) ∧ M_stepBits 200000 (nI w) = some (nI (rex w), ()) ∧ rex w ≤ 7 := by decide +kernel
def cln (f : Nat → Nat) : Nat → Nat
  | 0 => 0
  | k + 1 => if k + 1 ≤ 4 then k + 1 else if f (ord k) = 0 then cln f k else k + 1
theorem cln_b (f : Nat → Nat) : ∀ k, cln f k ≤ k ∧ (4 ≤ k → 4 ≤ cln f k) := by
  intro k
  induction k with
  | zero => exact ⟨Nat.le_refl 0, fun h => by omega⟩
  | succ k ih =>
    have e : cln f (k + 1) = if k + 1 ≤ 4 then k + 1 else if f (ord k) = 0 then cln f k else k + 1 := rfl
    rw [e]
    split
    · omega
    · split <;> omega
def hds (f : Nat → Nat) (W : WS) : Nat → WS
  | 0 => W
  | i + 1 => app (hds f W i) (f (ord i)) 3
def hss (f : Nat → Nat) (L : Lg) (W : WS) : Nat → WS
  | 0 => W
  | t + 1 => app (app (hss f L W t) (rv (cde f 19 (L.2.1 t)) (f (L.2.1 t))) (f (L.2.1 t))) (L.2.2 t) (rex (L.2.1 t))
def hdr (h d : Nat) (f : Nat → Nat) (L : Lg) (W : WS) : WS := hss f L (hds f (app (app (app W (h - 257) 5) (d - 1) 5) (cln f 19 - 4) 4) (cln f 19)) L.1
theorem t_lengthOf {N i : Nat} {lens : Nat → Int32} {f : Nat → Nat} {x : Int32} (hN : N ≤ 339) (hL : ∀ i, i < N → lens i = nI (f i)) (hi : i < N) (hx : x = nI i) : Code_lengthOf 200000 N lens x = some (nI (f i), ()) := by
  subst hx
  unfold Code_lengthOf mC mG
  rw [if_neg (nI_pos (by omega)), if_neg (by rw [nI_leI (by omega) (by omega)]; omega), if_neg (nI_in hi (by omega)), nI_clamp (by omega), hL i hi]
/-- the row of lengths of a made part -/
def rowF (fS fD : Nat → Nat) (h k : Nat) : Nat := if k < h then fS k else fD (k - h)
theorem t_gather {l1 l2 row : Nat → Int32} {fS fD : Nat → Nat} {rl sl dl : Int32} (hS : ∀ i, i < 286 → l1 i = nI (fS i)) (hS' : ∀ i, i < 286 → fS i ≤ 15) (hD : ∀ i, i < 30 → l2 i = nI (fD i)) (hD' : ∀ i, i < 30 → fD i ≤ 15) : Tt (Header_gather 200000 286 30 l1 l2 rl sl dl row) (fun u => u.2.1 = nI (max 257 (usd fS 286) + max 1 (usd fD 30)) ∧ u.2.2.1 = nI (max 257 (usd fS 286)) ∧ u.2.2.2.1 = nI (max 1 (usd fD 30)) ∧ ∀ i, i < max 257 (usd fS 286) + max 1 (usd fD 30) → u.2.2.2.2 i = nI (rowF fS fD (max 257 (usd fS 286)) i)) := by
  unfold Header_gather
  rw [Tt_R0]
  refine Tt_m (t_used (by omega) hS hS') ?_
  rintro ⟨r1, _⟩ h1
  have h1' : r1 = nI (usd fS 286) := h1
  subst h1'
  rw [Tt_L, Tt_R0]
  refine Tt_m (t_used (by omega) hD hD') ?_
  rintro ⟨r2, _⟩ h2
  have h2' : r2 = nI (usd fD 30) := h2
  subst h2'
  have u1 := usd_le fS 286
  have u2 := usd_le fD 30
  have e1 : (if (257 : Int32) < nI (usd fS 286) then nI (usd fS 286) else (257 : Int32)) = nI (max 257 (usd fS 286)) := by
    rw [i_257]
    by_cases z : 257 < usd fS 286
    · rw [if_pos (by rw [nI_ltI (by omega) (by omega)]; exact z)]; exact congrArg nI (by omega)
    · rw [if_neg (by rw [nI_ltI (by omega) (by omega)]; exact z)]; exact congrArg nI (by omega)
  have e2 : (if (1 : Int32) < nI (usd fD 30) then nI (usd fD 30) else (1 : Int32)) = nI (max 1 (usd fD 30)) := by
    rw [i_1]
    by_cases z : 1 < usd fD 30
    · rw [if_pos (by rw [nI_ltI (by omega) (by omega)]; exact z)]; exact congrArg nI (by omega)
    · rw [if_neg (by rw [nI_ltI (by omega) (by omega)]; exact z)]; exact congrArg nI (by omega)
  simp only [Tt_L, e1, e2, nI_add]
  have bh : max 257 (usd fS 286) ≤ 286 := by omega
  have bd : max 1 (usd fD 30) ≤ 30 := by omega
  generalize max 257 (usd fS 286) = h at *
  generalize max 1 (usd fD 30) = d at *
  have e3 : (if (320 : Int32) < nI (h + d) then (320 : Int32) else nI (h + d)) = nI (h + d) := by
    rw [i_320, if_neg (by rw [nI_ltI (by omega) (by omega)]; omega)]
  rw [e3]
  refine Tt_W5 (fun mm a1 a2 a3 row x3 => a1 = nI (h + d) ∧ a2 = nI h ∧ a3 = nI d ∧ ∃ k, x3 = nI k ∧ k ≤ h + d ∧ mm = h + d - k ∧ ∀ i, i < k → row i = nI (rowF fS fD h i)) ?_ 200000 (h + d) _ _ _ _ _ (by omega) ⟨rfl, rfl, rfl, 0, rfl, by omega, rfl, fun i hi => by omega⟩
  rintro K mm a1 a2 a3 row x3 ⟨rfl, rfl, rfl, k, rfl, hk, rfl, hr⟩ ih
  have next : ∀ v, v = nI (rowF fS fD h k) → k < h + d → Tt (K (nI (h + d)) (nI h) (nI d) (upd row k v) (nI (k + 1))) (fun u => u.2.1 = nI (h + d) ∧ u.2.2.1 = nI h ∧ u.2.2.2.1 = nI d ∧ ∀ i, i < h + d → u.2.2.2.2 i = nI (rowF fS fD h i)) := by
    intro v hv hk'
    refine ih (h + d - (k + 1)) _ _ _ _ _ (by omega) ⟨rfl, rfl, rfl, k + 1, rfl, by omega, rfl, fun i hi => ?_⟩
    by_cases e : i = k
    · rw [e, pk_us, hv]
    · rw [pk_un e]; exact hr i (by omega)
  unfold Header_gather_49 Header_gather_88
  by_cases z : h + d ≤ k
  · simp (disch := omega) only [Tt_C, Tt_S, nI_leI]
    rw [if_pos z]
    exact ⟨trivial, trivial, trivial, fun i hi => hr i (by omega)⟩
  · by_cases y : h ≤ k
    · have g := @t_lengthOf 30 (k - h) l2 fD (nI (k - h)) (by omega) hD (by omega) rfl
      simp (disch := omega) only [Tt_L, Tt_S, Tt_C, Tt_Z, Tt_R0, Tt_R1, Tt_R2, Tt_R3, Tt_R4, Tt_R5, q10, eq_self, Nat.not_lt_zero, if_true, if_false, i_0, i_1, i_2, i_3, i_4, i_5, i_6, i_7, i_8, i_9, i_10, i_11, i_13, i_14, i_15, i_16, i_17, i_18, i_19, i_24, i_29, i_30, i_31, i_32, i_138, i_143, i_144, i_254, i_255, i_256, i_257, i_258, i_261, i_264, i_265, i_279, i_280, i_284, i_285, i_286, i_288, i_319, i_320, i_338, i_339, i_575, i_576, i_599, i_600, i_4096, i_8191, i_8192, i_8249, i_8250, i_8256, i_9000, i_16384, i_32767, i_32768, i_65520, i_65521, i_65535, i_65536, i_65999, i_66000, i_1300, i_120, i_156, nI_leI, pk_sub, g, Tt_N, nI_clamp, nI_add]
      rw [if_neg z, if_pos y]
      exact ⟨by omega, next _ (by unfold rowF; rw [if_neg (by omega)]) (by omega)⟩
    · have g := @t_lengthOf 286 k l1 fS (nI k) (by omega) hS (by omega) rfl
      simp (disch := omega) only [Tt_L, Tt_S, Tt_C, Tt_Z, Tt_R0, Tt_R1, Tt_R2, Tt_R3, Tt_R4, Tt_R5, q10, eq_self, Nat.not_lt_zero, if_true, if_false, i_0, i_1, i_2, i_3, i_4, i_5, i_6, i_7, i_8, i_9, i_10, i_11, i_13, i_14, i_15, i_16, i_17, i_18, i_19, i_24, i_29, i_30, i_31, i_32, i_138, i_143, i_144, i_254, i_255, i_256, i_257, i_258, i_261, i_264, i_265, i_279, i_280, i_284, i_285, i_286, i_288, i_319, i_320, i_338, i_339, i_575, i_576, i_599, i_600, i_4096, i_8191, i_8192, i_8249, i_8250, i_8256, i_9000, i_16384, i_32767, i_32768, i_65520, i_65521, i_65535, i_65536, i_65999, i_66000, i_1300, i_120, i_156, nI_leI, g, Tt_N, nI_clamp, nI_add]
      rw [if_neg z, if_neg y]
      exact ⟨by omega, next _ (by unfold rowF; rw [if_pos (by omega)]) (by omega)⟩
theorem t_writeHdC {len op oc tc sl dl cl : Int32} {cl' td co out : Nat → Int32} {f : Nat → Nat} {L : Lg} {h d : Nat} {W : WS} (hh : 257 ≤ h) (hh2 : h ≤ 286) (hd : 1 ≤ d) (hd2 : d ≤ 30) (h1 : sl = nI h) (h2 : dl = nI d) (h3 : cl = nI (cln f 19)) (hf : ∀ i, i < 19 → cl' i = nI (f i)) (hf7 : ∀ i, i < 19 → f i ≤ 7) (hco : ∀ s, s < 19 → 0 < f s → co s = nI (rv (cde f 19 s) (f s))) (htc : tc = nI L.1) (hL : L.1 ≤ 320) (htd : ∀ t, t < L.1 → td t = nI (L.2.1 t + 32 * L.2.2 t)) (hB : LgB L) (hU : ∀ t, t < L.1 → 0 < f (L.2.1 t)) (hW : ClsW len op oc out W.1 W.2) : Tt (Header_write 200000 19 19 tc sl dl cl cl' td co len op oc out) (fun u => ClsW u.2.1 u.2.2.1 u.2.2.2.1 u.2.2.2.2 (hdr h d f L W).1 (hdr h d f L W).2) := by
  subst h1 h2 h3 htc
  have cb := cln_b f 19
  have cb2 := cb.2 (by omega)
  unfold Header_write
  simp (disch := omega) only [Tt_L, Tt_R4, i_0, i_1, i_2, i_3, i_4, i_5, i_6, i_7, i_8, i_9, i_10, i_11, i_13, i_14, i_15, i_16, i_17, i_18, i_19, i_24, i_29, i_30, i_31, i_32, i_138, i_143, i_144, i_254, i_255, i_256, i_257, i_258, i_261, i_264, i_265, i_279, i_280, i_284, i_285, i_286, i_288, i_319, i_320, i_338, i_339, i_575, i_576, i_599, i_600, i_4096, i_8191, i_8192, i_8249, i_8250, i_8256, i_9000, i_16384, i_32767, i_32768, i_65520, i_65521, i_65535, i_65536, i_65999, i_66000, i_1300, i_120, i_156, pk_sub]
  refine Tt_m (t_number hW (k := 5) (v := h - 257) (by omega) (by omega) rfl rfl) ?_
  rintro ⟨_, a1, a2, a3, a4⟩ hW1
  dsimp only at hW1 ⊢
  refine Tt_m (t_number hW1 (k := 5) (v := d - 1) (by omega) (by omega) rfl rfl) ?_
  rintro ⟨_, a1, a2, a3, a4⟩ hW2
  dsimp only at hW2 ⊢
  refine Tt_m (t_number hW2 (k := 4) (v := cln f 19 - 4) (by omega) (by omega) rfl rfl) ?_
  rintro ⟨_, a1, a2, a3, a4⟩ hW3
  dsimp only at hW3 ⊢
  have hW3' : ClsW a1 a2 a3 a4 (app (app (app W (h - 257) 5) (d - 1) 5) (cln f 19 - 4) 4).1 (app (app (app W (h - 257) 5) (d - 1) 5) (cln f 19 - 4) 4).2 := hW3
  unfold hdr
  generalize app (app (app W (h - 257) 5) (d - 1) 5) (cln f 19 - 4) 4 = W3 at *
  refine Tt_W5 (fun mm len op oc out x2 => ∃ i, x2 = nI i ∧ i ≤ cln f 19 ∧ mm = cln f 19 - i ∧ ClsW len op oc out (hds f W3 i).1 (hds f W3 i).2) ?_ 200000 (cln f 19) _ _ _ _ _ (by omega) ⟨0, rfl, by omega, rfl, hW3'⟩
  rintro K mm len op oc out x2 ⟨i, rfl, hi, rfl, hC⟩ ih
  unfold Header_write_37
  by_cases z : cln f 19 ≤ i
  · simp (disch := omega) only [Tt_C, Tt_S, nI_leI]
    rw [if_pos z]
    have ei : i = cln f 19 := by omega
    rw [ei] at hC
    generalize hds f W3 (cln f 19) = W4 at *
    unfold Header_write_76
    refine Tt_W5 (fun mm len op oc out x2 => ∃ t, x2 = nI t ∧ t ≤ L.1 ∧ mm = L.1 - t ∧ ClsW len op oc out (hss f L W4 t).1 (hss f L W4 t).2) ?_ 200000 L.1 _ _ _ _ _ (by omega) ⟨0, rfl, by omega, rfl, hC⟩
    rintro K2 mm len op oc out x2 ⟨t, rfl, ht, rfl, hC2⟩ ih2
    unfold Header_write_78
    by_cases y : L.1 ≤ t
    · simp (disch := omega) only [Tt_C, Tt_S, nI_leI]
      have et : t = L.1 := by omega
      rw [if_pos y, ← et]
      first | exact hC2 | exact Tt_Si hC2
    · obtain ⟨w1, w2⟩ := hB t (by omega)
      have w3 := htd t (by omega)
      have w4 := hU t (by omega)
      have yr := y_rex (L.2.1 t) w1
      have w5 : 2 ^ rex (L.2.1 t) ≤ 2 ^ 7 := Nat.pow_le_pow_right (by omega) yr.2.2
      have q1 : (L.2.1 t + 32 * L.2.2 t) % 32 = L.2.1 t := by omega
      have q2 : (L.2.1 t + 32 * L.2.2 t) / 32 = L.2.2 t := by omega
      have q3 : nI (L.2.1 t + 32 * L.2.2 t) - nI (L.2.2 t) * nI 32 = nI (L.2.1 t) := by
        rw [pk_mul, pk_sub (by omega)]
        exact congrArg nI (by omega)
      simp (disch := omega) only [Tt_L, Tt_S, Tt_C, Tt_Z, Tt_R0, Tt_R1, Tt_R2, Tt_R3, Tt_R4, Tt_R5, q10, eq_self, Nat.not_lt_zero, if_true, if_false, i_0, i_1, i_2, i_3, i_4, i_5, i_6, i_7, i_8, i_9, i_10, i_11, i_13, i_14, i_15, i_16, i_17, i_18, i_19, i_24, i_29, i_30, i_31, i_32, i_138, i_143, i_144, i_254, i_255, i_256, i_257, i_258, i_261, i_264, i_265, i_279, i_280, i_284, i_285, i_286, i_288, i_319, i_320, i_338, i_339, i_575, i_576, i_599, i_600, i_4096, i_8191, i_8192, i_8249, i_8250, i_8256, i_9000, i_16384, i_32767, i_32768, i_65520, i_65521, i_65535, i_65536, i_65999, i_66000, i_1300, i_120, i_156, nI_leI, Tt_N, nI_clamp, w3, pk_div, q2, q3, yr.1, nI_add]
      rw [if_neg y, if_neg (by omega)]
      refine ⟨by omega, ?_⟩
      have f7 := hf7 _ w1
      refine Tt_m (t_codeWrite hC2 (by omega) rfl w1 (by omega) (hf _ w1) (hco _ w1 w4) (rv_lt _ _)) ?_
      rintro ⟨_, a1, a2, a3, a4⟩ hC3
      dsimp only at hC3 ⊢
      refine ⟨by omega, ?_⟩
      refine Tt_m (t_number hC3 (by omega) w2 rfl rfl) ?_
      rintro ⟨_, a1, a2, a3, a4⟩ hC4
      exact ih2 (L.1 - (t + 1)) _ _ _ _ _ (by omega) ⟨t + 1, rfl, by omega, rfl, hC4⟩
  · have yo := y_ord i (by omega)
    have f7 := hf7 _ yo.2.2
    have g := @t_lengthOf 19 (ord i) cl' f (nI (ord i)) (by omega) hf yo.2.2 rfl
    simp (disch := omega) only [Tt_L, Tt_S, Tt_C, Tt_Z, Tt_R0, Tt_R1, Tt_R2, Tt_R3, Tt_R4, Tt_R5, q10, eq_self, Nat.not_lt_zero, if_true, if_false, i_0, i_1, i_2, i_3, i_4, i_5, i_6, i_7, i_8, i_9, i_10, i_11, i_13, i_14, i_15, i_16, i_17, i_18, i_19, i_24, i_29, i_30, i_31, i_32, i_138, i_143, i_144, i_254, i_255, i_256, i_257, i_258, i_261, i_264, i_265, i_279, i_280, i_284, i_285, i_286, i_288, i_319, i_320, i_338, i_339, i_575, i_576, i_599, i_600, i_4096, i_8191, i_8192, i_8249, i_8250, i_8256, i_9000, i_16384, i_32767, i_32768, i_65520, i_65521, i_65535, i_65536, i_65999, i_66000, i_1300, i_120, i_156, nI_leI, Tt_N, nI_clamp, yo.1, g, nI_add]
    rw [if_neg z, if_neg (by omega)]
    refine ⟨by omega, ?_⟩
    refine Tt_m (t_number hC (k := 3) (v := f (ord i)) (by omega) (by omega) rfl rfl) ?_
    rintro ⟨_, a1, a2, a3, a4⟩ hC4
    exact ih (cln f 19 - (i + 1)) _ _ _ _ _ (by omega) ⟨i + 1, rfl, by omega, rfl, hC4⟩
/-! the plan of a made part: program -/
/-- what is known of one part's lengths and tellings -/
def pH (fS : Nat → Nat) : Nat := max 257 (usd fS 286)
def pD (fD : Nat → Nat) : Nat := max 1 (usd fD 30)
def pL (fS fD : Nat → Nat) : Lg := told (rowF fS fD (pH fS)) (pH fS + pD fD)
def pF (fS fD : Nat → Nat) : Nat → Nat := fitL (fun s => cn (pL fS fD).2.1 s (pL fS fD).1) 19 7
def pB (fS fD : Nat → Nat) : Nat := sm (fun t => pF fS fD ((pL fS fD).2.1 t) + rex ((pL fS fD).2.1 t)) (pL fS fD).1
theorem pH_b (fS : Nat → Nat) : 257 ≤ pH fS ∧ pH fS ≤ 286 := by
  have := usd_le fS 286
  unfold pH
  omega
theorem pD_b (fD : Nat → Nat) : 1 ≤ pD fD ∧ pD fD ≤ 30 := by
  have := usd_le fD 30
  unfold pD
  omega
theorem rws_n (f : Nat → Nat) (n : Nat) : ∀ N k L, n - k ≤ N → L.1 ≤ k → k ≤ n → (rws f n (n - k) k L).1 ≤ n := by
  intro N
  induction N with
  | zero =>
    intro k L h1 h2 h3
    rw [show n - k = 0 by omega]
    show L.1 ≤ n
    omega
  | succ N ih =>
    intro k L h1 h2 h3
    by_cases z : k = n
    · rw [show n - k = 0 by omega]
      show L.1 ≤ n
      omega
    · have l0 : lcp f k (k + 1) (n - k - 1) ≤ n - k - 1 := (lcp_ok f k (k + 1) (n - k - 1)).1
      have es : stl f n k = lcp f k (k + 1) (n - k - 1) + 1 := rfl
      rw [rws_s (by omega)]
      have tn := @tlv_n (f k) (stl f n k) L (by omega)
      exact ih _ _ (by omega) (by omega) (by omega)
theorem told_n (f : Nat → Nat) (n : Nat) : (told f n).1 ≤ n := rws_n f n n 0 _ (by omega) (Nat.le_refl 0) (Nat.zero_le n)
theorem sm_mc {f g : Nat → Nat} (h : ∀ i, f i = g i) (n : Nat) : sm f n = sm g n := sm_c (fun i _ => h i)
theorem fitL_hi {c : Nat → Nat} {n K x : Nat} (hK0 : 0 < K) (hK : (n - 1) / 2 ^ (K - 1) = 0) : fitL c n K x ≤ K := by
  obtain ⟨o1, o2, o3, o4, o5⟩ := rk_ok c n
  unfold fitL
  split
  · omega
  · split
    · split <;> omega
    · rename_i h1 h2
      refine gH_hi (by omega) ?_ o3
      have : ((rk c n).1 - 1) / 2 ^ (K - 1) ≤ (n - 1) / 2 ^ (K - 1) := Nat.div_le_div_right (by omega)
      rw [hK] at this
      exact Nat.le_zero.mp this
theorem fitL_lo {c : Nat → Nat} {n K x : Nat} (hK0 : 0 < K) (hK : (n - 1) / 2 ^ (K - 1) = 0) (hx : x < n) (hc : 0 < c x) : 0 < fitL c n K x := by
  obtain ⟨o1, o2, o3, o4, o5⟩ := rk_ok c n
  obtain ⟨a, ha, hr⟩ := o5 x hx hc
  unfold fitL
  rw [if_neg (by omega)]
  split
  · rename_i h1
    have : a = 0 := by omega
    rw [this] at hr
    rw [if_pos hr]
    omega
  · rename_i h1
    have := @gH_lo (rk c n).1 (fun a => c ((rk c n).2 a)) (rk c n).2 K a (by omega) hK0 (by
      have : ((rk c n).1 - 1) / 2 ^ (K - 1) ≤ (n - 1) / 2 ^ (K - 1) := Nat.div_le_div_right (by omega)
      rw [hK] at this
      exact Nat.le_zero.mp this) o4 ha
    rw [hr] at this
    omega
theorem fitL_0 {c : Nat → Nat} {n K x : Nat} (hK0 : 0 < K) (hK : (n - 1) / 2 ^ (K - 1) = 0) (hx : n ≤ x) : fitL c n K x = 0 := by
  obtain ⟨o1, o2, o3, o4, o5⟩ := rk_ok c n
  unfold fitL
  split
  · rfl
  · split
    · rename_i h1 h2
      have := (o2 0 (by omega)).1
      rw [if_neg (by omega)]
    · rename_i h1 h2
      refine gH_0 (by omega) ?_ (fun a ha => ?_)
      · have : ((rk c n).1 - 1) / 2 ^ (K - 1) ≤ (n - 1) / 2 ^ (K - 1) := Nat.div_le_div_right (by omega)
        rw [hK] at this
        exact Nat.le_zero.mp this
      · have := (o2 a ha).1
        omega
theorem rk_ext {c : Nat → Nat} {n : Nat} : ∀ k, (∀ i, n ≤ i → i < n + k → c i = 0) → rk c (n + k) = rk c n := by
  intro k
  induction k with
  | zero => intro _; rfl
  | succ k ih =>
    intro h
    have e : rk c (n + k + 1) = rk c (n + k) := if_neg (by rw [h (n + k) (by omega) (by omega)]; omega)
    rw [show n + (k + 1) = n + k + 1 by omega, e]
    exact ih (fun i h1 h2 => h i h1 (by omega))
theorem fitL_ext {c : Nat → Nat} {n k K x : Nat} (h : ∀ i, n ≤ i → i < n + k → c i = 0) : fitL c (n + k) K x = fitL c n K x := by
  unfold fitL
  rw [rk_ext k h]
theorem rex_0 {w : Nat} (h : w < 16) : rex w = 0 := by
  unfold rex
  rw [if_neg (by omega), if_neg (by omega), if_neg (by omega)]
theorem pB_e {f : Nat → Nat} {L : Lg} (hB : LgB L) : sm (fun t => f (L.2.1 t) + rex (L.2.1 t)) L.1 = sm (fun s => f s * cn L.2.1 s L.1) 19 + sm (fun s => cn L.2.1 s L.1 * rex s) 19 := by
  have e1 : sm (fun s => f s * cn L.2.1 s L.1) 19 + sm (fun s => cn L.2.1 s L.1 * rex s) 19 = sm (fun s => (fun s => f s + rex s) s * cn L.2.1 s L.1) 19 := by
    rw [← sm_add]
    apply sm_c
    intro s _
    rw [Nat.add_mul, Nat.mul_comm (rex s)]
  rw [e1, sm_cn (fun s => f s + rex s)]
  apply sm_c
  intro t ht
  rw [if_pos (hB t ht).1]
theorem t_plan {l1 l2 row counts td clens lc ls ib it nx co : Nat → Int32} {pr : Nat → Nat → Int32} {fS fD : Nat → Nat} {rl tc sl dl cl many : Int32} (hS : ∀ i, i < 286 → l1 i = nI (fS i)) (hS' : ∀ i, i < 286 → fS i ≤ 15) (hD : ∀ i, i < 30 → l2 i = nI (fD i)) (hD' : ∀ i, i < 30 → fD i ≤ 15) : Tt (Header_plan 200000 286 30 19 19 l1 l2 rl tc sl dl cl row counts td clens many lc ls ib it pr nx co) (fun (r, _, tc, sl, dl, cl, _, cs, td, cle, _, _, _, _, _, _, _, co) => r = nI (14 + 3 * cln (pF fS fD) 19 + pB fS fD) ∧ CT tc td cs (pL fS fD) ∧ sl = nI (pH fS) ∧ dl = nI (pD fD) ∧ cl = nI (cln (pF fS fD) 19) ∧ (∀ s, s < 19 → cle s = nI (pF fS fD s)) ∧ ∀ s, s < 19 → 0 < pF fS fD s → co s = nI (rv (cde (pF fS fD) 19 s) (pF fS fD s))) := by
  have bH := pH_b fS
  have bD := pD_b fD
  unfold Header_plan
  rw [Tt_R4]
  refine Tt_m (t_gather hS hS' hD hD') ?_
  rintro ⟨_, rl1, sl1, dl1, row1⟩ ⟨g1, g2, g3, g4⟩
  dsimp only at g1 g2 g3 g4 ⊢
  have hrow : ∀ i, i < pH fS + pD fD → rowF fS fD (pH fS) i ≤ 15 := by
    intro i hi
    unfold rowF
    split
    · exact hS' i (by omega)
    · exact hD' _ (by omega)
  rw [Tt_R3]
  refine Tt_m (t_tellRowC (f := rowF fS fD (pH fS)) (n := pH fS + pD fD) g1 (by omega) g4 hrow) ?_
  rintro ⟨_, tc1, cs1, td1⟩ hCT
  dsimp only at hCT ⊢
  have hCT' : CT tc1 td1 cs1 (pL fS fD) := hCT
  have ln : (pL fS fD).1 ≤ pH fS + pD fD := told_n _ _
  rw [Tt_R7]
  refine Tt_m (t_fit (n := 19) (K := 7) (c := fun s => cn (pL fS fD).2.1 s (pL fS fD).1) (by omega) hCT'.2.2.1 (fun i => by have := cn_le (pL fS fD).2.1 i (pL fS fD).1; omega) (by omega) (by omega) (by decide) rfl) ?_
  rintro ⟨_, cle1, many1, lc1, ls1, ib1, it1, pr1⟩ hF
  dsimp only at hF ⊢
  have hF' : ∀ x, x < 19 → cle1 x = nI (pF fS fD x) := hF
  have hF7 : ∀ x, pF fS fD x ≤ 7 := fun x => fitL_hi (by omega) (by decide)
  rw [Tt_R2]
  refine Tt_m (t_assign (N := 19) (by omega) hF' (fun i hi => by have := hF7 i; omega)) ?_
  rintro ⟨_, nx1, co1⟩ hA
  dsimp only at hA ⊢
  have pBe : pB fS fD = sm (fun s => pF fS fD s * cn (pL fS fD).2.1 s (pL fS fD).1) 19 + sm (fun s => cn (pL fS fD).2.1 s (pL fS fD).1 * rex s) 19 := pB_e hCT'.2.2.2
  generalize pF fS fD = f at *
  generalize pL fS fD = L at *
  refine Tt_W17 (fun mm a1 a2 a3 a4 a5 a6 a7 a8 a9 _ _ _ _ _ _ _ a17 => a2 = tc1 ∧ a3 = sl1 ∧ a4 = dl1 ∧ a7 = cs1 ∧ a8 = td1 ∧ a9 = cle1 ∧ a17 = co1 ∧ ∃ k, a5 = nI k ∧ k ≤ 19 ∧ 4 ≤ k ∧ k = mm ∧ cln f 19 = cln f k) ?_ 200000 19 _ _ _ _ _ _ _ _ _ _ _ _ _ _ _ _ _ (by omega) ⟨rfl, rfl, rfl, rfl, rfl, rfl, rfl, 19, rfl, by omega, by omega, rfl, rfl⟩
  rintro K mm a1 a2 a3 a4 a5 a6 a7 a8 a9 a10 a11 a12 a13 a14 a15 a16 a17 ⟨rfl, rfl, rfl, rfl, rfl, rfl, rfl, k, rfl, hk1, hk2, rfl, hcl⟩ ih
  have out : cln f 19 = k → Tt (Header_plan_86 200000 19 a1 a2 a3 a4 (nI k) a6 a7 a8 a9 a10 a11 a12 a13 a14 a15 a16 a17) (fun (r, _, tc, sl, dl, cl, _, cs, td, cle, _, _, _, _, _, _, _, co) => r = nI (14 + 3 * cln f 19 + pB fS fD) ∧ CT tc td cs L ∧ sl = nI (pH fS) ∧ dl = nI (pD fD) ∧ cl = nI (cln f 19) ∧ (∀ s, s < 19 → cle s = nI (f s)) ∧ ∀ s, s < 19 → 0 < f s → co s = nI (rv (cde f 19 s) (f s))) := by
    intro e
    unfold Header_plan_86
    rw [Tt_R0]
    refine Tt_m (t_bitsFor (N := 19) (M := 19) (by omega) (by omega) hF' hCT'.2.2.1) ?_
    rintro ⟨r4, _⟩ h4
    have h4' : r4 = nI (sm (fun s => f s * cn L.2.1 s L.1) 19) := h4
    subst h4'
    simp only [Tt_L, i_0, i_1, i_2, i_3, i_4, i_5, i_6, i_7, i_8, i_9, i_10, i_11, i_13, i_14, i_15, i_16, i_17, i_18, i_19, i_24, i_29, i_30, i_31, i_32, i_138, i_143, i_144, i_254, i_255, i_256, i_257, i_258, i_261, i_264, i_265, i_279, i_280, i_284, i_285, i_286, i_288, i_319, i_320, i_338, i_339, i_575, i_576, i_599, i_600, i_4096, i_8191, i_8192, i_8249, i_8250, i_8256, i_9000, i_16384, i_32767, i_32768, i_65520, i_65521, i_65535, i_65536, i_65999, i_66000, i_1300, i_120, i_156, pk_mul, nI_add]
    refine Tt_W19 (fun mm b1 b2 b3 b4 b5 b6 b7 b8 b9 _ _ _ _ _ _ _ b17 x3 x4 => b2 = a2 ∧ b3 = a3 ∧ b4 = a4 ∧ b5 = nI k ∧ b7 = a7 ∧ b8 = a8 ∧ b9 = a9 ∧ b17 = a17 ∧ ∃ s, x4 = nI s ∧ 16 ≤ s ∧ s ≤ 19 ∧ mm = 19 - s ∧ x3 = nI (14 + 3 * k + sm (fun s => f s * cn L.2.1 s L.1) 19 + sm (fun s => cn L.2.1 s L.1 * rex s) s)) ?_ 200000 3 _ _ _ _ _ _ _ _ _ _ _ _ _ _ _ _ _ _ _ (by omega) ⟨rfl, rfl, rfl, rfl, rfl, rfl, rfl, rfl, 16, rfl, by omega, by omega, rfl, ?_⟩
    · rintro K2 mm b1 b2 b3 b4 b5 b6 b7 b8 b9 b10 b11 b12 b13 b14 b15 b16 b17 x3 x4 ⟨rfl, rfl, rfl, rfl, rfl, rfl, rfl, rfl, s, rfl, hs1, hs2, rfl, rfl⟩ ih2
      unfold Header_plan_112
      by_cases z : 19 ≤ s
      · have es : s = 19 := by omega
        subst es
        simp (disch := omega) only [Tt_C, Tt_S, i_0, i_1, i_2, i_3, i_4, i_5, i_6, i_7, i_8, i_9, i_10, i_11, i_13, i_14, i_15, i_16, i_17, i_18, i_19, i_24, i_29, i_30, i_31, i_32, i_138, i_143, i_144, i_254, i_255, i_256, i_257, i_258, i_261, i_264, i_265, i_279, i_280, i_284, i_285, i_286, i_288, i_319, i_320, i_338, i_339, i_575, i_576, i_599, i_600, i_4096, i_8191, i_8192, i_8249, i_8250, i_8256, i_9000, i_16384, i_32767, i_32768, i_65520, i_65521, i_65535, i_65536, i_65999, i_66000, i_1300, i_120, i_156, nI_leI]
        rw [if_pos z]
        refine ⟨?_, hCT', g2, g3, by rw [e], hF', hA⟩
        rw [e, pBe]
        congr 1
        omega
      · have yr := y_rex s (by omega)
        have cs := hCT'.2.2.1 s (by omega)
        simp (disch := omega) only [Tt_L, Tt_S, Tt_C, Tt_Z, Tt_R0, Tt_R1, Tt_R2, Tt_R3, Tt_R4, Tt_R5, q10, eq_self, Nat.not_lt_zero, if_true, if_false, i_0, i_1, i_2, i_3, i_4, i_5, i_6, i_7, i_8, i_9, i_10, i_11, i_13, i_14, i_15, i_16, i_17, i_18, i_19, i_24, i_29, i_30, i_31, i_32, i_138, i_143, i_144, i_254, i_255, i_256, i_257, i_258, i_261, i_264, i_265, i_279, i_280, i_284, i_285, i_286, i_288, i_319, i_320, i_338, i_339, i_575, i_576, i_599, i_600, i_4096, i_8191, i_8192, i_8249, i_8250, i_8256, i_9000, i_16384, i_32767, i_32768, i_65520, i_65521, i_65535, i_65536, i_65999, i_66000, i_1300, i_120, i_156, nI_leI, Tt_N, nI_clamp, yr.1, cs, pk_mul, nI_add]
        rw [if_neg z]
        exact ⟨by omega, ih2 (19 - (s + 1)) _ _ _ _ _ _ _ _ _ _ _ _ _ _ _ _ _ _ _ (by omega) ⟨rfl, rfl, rfl, rfl, rfl, rfl, rfl, rfl, s + 1, rfl, by omega, by omega, rfl, congrArg nI (Nat.add_assoc _ _ _)⟩⟩
    · have z16 : sm (fun s => cn L.2.1 s L.1 * rex s) 16 = 0 := sm_0 (fun i hi => by show cn L.2.1 i L.1 * rex i = 0; rw [rex_0 hi, Nat.mul_zero])
      rw [z16]
      rfl
  unfold Header_plan_45
  by_cases z : k ≤ 4
  · simp (disch := omega) only [Tt_C, Tt_S, i_0, i_1, i_2, i_3, i_4, i_5, i_6, i_7, i_8, i_9, i_10, i_11, i_13, i_14, i_15, i_16, i_17, i_18, i_19, i_24, i_29, i_30, i_31, i_32, i_138, i_143, i_144, i_254, i_255, i_256, i_257, i_258, i_261, i_264, i_265, i_279, i_280, i_284, i_285, i_286, i_288, i_319, i_320, i_338, i_339, i_575, i_576, i_599, i_600, i_4096, i_8191, i_8192, i_8249, i_8250, i_8256, i_9000, i_16384, i_32767, i_32768, i_65520, i_65521, i_65535, i_65536, i_65999, i_66000, i_1300, i_120, i_156, nI_leI]
    rw [if_pos z]
    apply out
    have : k = 4 := by omega
    rw [hcl, this]
    rfl
  · obtain ⟨d, rfl⟩ : ∃ d, k = d + 1 := ⟨k - 1, by omega⟩
    have yo := y_ord d (by omega)
    have e1 : nI (d + 1) - nI 1 = nI d := nI_pred d
    have g := @t_lengthOf 19 (ord d) a9 f (nI (ord d)) (by omega) hF' yo.2.2 rfl
    have f7 := hF7 (ord d)
    have cd : cln f (d + 1) = if d + 1 ≤ 4 then d + 1 else if f (ord d) = 0 then cln f d else d + 1 := rfl
    rw [if_neg z] at cd
    simp (disch := omega) only [Tt_L, Tt_S, Tt_C, Tt_Z, Tt_R0, Tt_R1, Tt_R2, Tt_R3, Tt_R4, Tt_R5, q10, eq_self, Nat.not_lt_zero, if_true, if_false, i_0, i_1, i_2, i_3, i_4, i_5, i_6, i_7, i_8, i_9, i_10, i_11, i_13, i_14, i_15, i_16, i_17, i_18, i_19, i_24, i_29, i_30, i_31, i_32, i_138, i_143, i_144, i_254, i_255, i_256, i_257, i_258, i_261, i_264, i_265, i_279, i_280, i_284, i_285, i_286, i_288, i_319, i_320, i_338, i_339, i_575, i_576, i_599, i_600, i_4096, i_8191, i_8192, i_8249, i_8250, i_8256, i_9000, i_16384, i_32767, i_32768, i_65520, i_65521, i_65535, i_65536, i_65999, i_66000, i_1300, i_120, i_156, nI_leI, e1, Tt_N, nI_clamp, yo.1, g, nI_eq]
    rw [if_neg z]
    refine ⟨by omega, ?_⟩
    by_cases y : f (ord d) = 0
    · rw [if_pos y]
      rw [if_pos y] at cd
      exact ih d _ _ _ _ _ _ _ _ _ _ _ _ _ _ _ _ _ (by omega) ⟨rfl, rfl, rfl, rfl, rfl, rfl, rfl, d, rfl, by omega, by omega, rfl, by rw [hcl, cd]⟩
    · rw [if_neg y]
      rw [if_neg y] at cd
      exact out (by rw [hcl, cd])
/-! one part, packed by the program -/
theorem cn_pos {g : Nat → Nat} {t : Nat} : ∀ {T : Nat}, t < T → 0 < cn g (g t) T := by
  intro T h
  have a := @cn_mono g (g t) (t + 1) T h
  rw [cn_s] at a
  omega
def cSf (b : Nat → Nat) (beg fin T s : Nat) : Nat := cn (sOf b beg fin) s T + (if s = 256 then 1 else 0)
def cDf (b : Nat → Nat) (beg fin T d : Nat) : Nat := cn (dOf b beg fin) d T
def fSf (b : Nat → Nat) (beg fin T : Nat) : Nat → Nat := fitL (cSf b beg fin T) 286 15
def fDf (b : Nat → Nat) (beg fin T : Nat) : Nat → Nat := fitL (cDf b beg fin T) 30 15
def lM (b : Nat → Nat) (beg fin T i : Nat) : Nat := if i < 288 then fSf b beg fin T i else fDf b beg fin T (i - 288)
def lF (i : Nat) : Nat := if i < 144 then 8 else if i < 256 then 9 else if i < 280 then 7 else if i < 288 then 8 else 5
theorem lF_b (i : Nat) : 5 ≤ lF i ∧ lF i ≤ 9 := by
  unfold lF
  split
  · omega
  · split
    · omega
    · split
      · omega
      · split <;> omega
theorem fSf_b (b : Nat → Nat) (beg fin T i : Nat) : fSf b beg fin T i ≤ 15 := fitL_hi (by omega) (by decide)
theorem fDf_b (b : Nat → Nat) (beg fin T i : Nat) : fDf b beg fin T i ≤ 15 := fitL_hi (by omega) (by decide)
theorem lM_b (b : Nat → Nat) (beg fin T i : Nat) : lM b beg fin T i ≤ 15 := by
  unfold lM
  split
  · exact fSf_b _ _ _ _ _
  · exact fDf_b _ _ _ _ _
theorem lM_S {b : Nat → Nat} {beg fin T i : Nat} (h : i < 288) : lM b beg fin T i = fSf b beg fin T i := if_pos h
theorem lM_D {b : Nat → Nat} {beg fin T d : Nat} : lM b beg fin T (288 + d) = fDf b beg fin T d := by
  unfold lM
  rw [if_neg (by omega), show 288 + d - 288 = d by omega]
theorem lM_u {b : Nat → Nat} {n beg fin T : Nat} (hb : ∀ i, b i < 256) (hn : n ≤ 8192) (hfn : fin ≤ n) (hpt : ∀ t, t < T → pos b beg fin t < fin) : usdT b beg fin T (lM b beg fin T) := by
  refine ⟨?_, fun t ht => ?_⟩
  · rw [lM_S (by omega)]
    refine fitL_lo (by omega) (by decide) (by omega) ?_
    show 0 < cn (sOf b beg fin) 256 T + (if 256 = 256 then 1 else 0)
    rw [if_pos rfl]
    omega
  · have tb := @tok_b b beg fin n t hb (hpt t ht) hfn
    have cp := @cn_pos (sOf b beg fin) t T ht
    have cq := @cn_pos (dOf b beg fin) t T ht
    rcases tb with tb | tb
    · have e2 : sOf b beg fin t = tV b beg fin t := if_pos tb.1
      rw [e2] at cp ⊢
      refine ⟨?_, fun q => absurd tb.1 q⟩
      rw [lM_S (by omega)]
      refine fitL_lo (by omega) (by decide) (by omega) ?_
      show 0 < cn (sOf b beg fin) (tV b beg fin t) T + _
      omega
    · have n0 : ¬ (tL b beg fin t = 0) := by omega
      have e2 : sOf b beg fin t = lsym (tL b beg fin t) := if_neg n0
      have e3 : dOf b beg fin t = dsym (tV b beg fin t) := if_neg n0
      have ylb := y_lsymB (tL b beg fin t) (by omega)
      have yd := @y_drest (tV b beg fin t) (by omega) (by omega)
      rw [e2] at cp ⊢
      rw [e3] at cq
      refine ⟨?_, fun _ => ?_⟩
      · rw [lM_S (by omega)]
        refine fitL_lo (by omega) (by decide) (by omega) ?_
        show 0 < cn (sOf b beg fin) (lsym (tL b beg fin t)) T + _
        omega
      · rw [lM_D]
        exact fitL_lo (by omega) (by decide) (by omega) cq
theorem lF_u {b : Nat → Nat} {beg fin T : Nat} : usdT b beg fin T lF := by
  refine ⟨?_, fun t ht => ⟨?_, fun _ => ?_⟩⟩
  · have := lF_b 256; omega
  · have := lF_b (sOf b beg fin t); omega
  · have := lF_b (288 + dsym (tV b beg fin t)); omega
theorem lM_cS {b : Nat → Nat} {beg fin T s : Nat} (hs : s < 286) : cAll (lM b beg fin T) s = rv (cde (fSf b beg fin T) 286 s) (fSf b beg fin T s) := by
  unfold cAll
  rw [if_pos (by omega), lM_S (by omega), cde_ext (f := fSf b beg fin T) (n := 286) (by omega) (fun i hi => (lM_S (by omega)).symm) (fun i h1 h2 => by rw [lM_S h2]; exact fitL_0 (by omega) (by decide) h1) hs]
theorem lM_cD {b : Nat → Nat} {beg fin T d : Nat} (hd : d < 30) : cAll (lM b beg fin T) (288 + d) = rv (cde (fDf b beg fin T) 30 d) (fDf b beg fin T d) := by
  unfold cAll
  rw [if_neg (by omega), lM_D, show 288 + d - 288 = d by omega, cde_ext (f := fDf b beg fin T) (n := 30) (by omega) (fun i hi => lM_D.symm) (fun i h1 h2 => by rw [lM_D]; exact fitL_0 (by omega) (by decide) h1) hd]
/-- bytes written as they are -/
def sto (b : Nat → Nat) (beg : Nat) (W : WS) : Nat → WS
  | 0 => W
  | i + 1 => app (sto b beg W i) (b (beg + i)) 8
def alg (W : WS) : WS := (W.1 + (8 - W.1 % 8) % 8, W.2)
def stW (b : Nat → Nat) (beg fin : Nat) (W : WS) : WS := sto b beg (app (app (alg W) (fin - beg) 16) (65535 - (fin - beg)) 16) (fin - beg)
def tkW (b : Nat → Nat) (beg fin T : Nat) (l : Nat → Nat) (W : WS) : WS := app (tws b beg fin l (cAll l) W T) (cAll l 256) (l 256)
def szS (W : WS) (beg fin : Nat) : Nat := (8 - (W.1 + 3) % 8) % 8 + 32 + 8 * (fin - beg)
def szM (b : Nat → Nat) (beg fin T : Nat) : Nat := 14 + 3 * cln (pF (fSf b beg fin T) (fDf b beg fin T)) 19 + pB (fSf b beg fin T) (fDf b beg fin T) + bitN b beg fin T (lM b beg fin T)
/-- one part -/
def pkW (b : Nat → Nat) (n beg fin T : Nat) (W : WS) : WS := if szS W beg fin ≤ bitN b beg fin T lF ∧ szS W beg fin ≤ szM b beg fin T then stW b beg fin (app (app W (if fin = n then 1 else 0) 1) 0 2) else if bitN b beg fin T lF ≤ szM b beg fin T then tkW b beg fin T lF (app (app W (if fin = n then 1 else 0) 1) 1 2) else tkW b beg fin T (lM b beg fin T) (hdr (pH (fSf b beg fin T)) (pD (fDf b beg fin T)) (pF (fSf b beg fin T) (fDf b beg fin T)) (pL (fSf b beg fin T) (fDf b beg fin T)) (app (app W (if fin = n then 1 else 0) 1) 2 2))
theorem t_storedC {c out : Nat → Int32} {b : Nat → Nat} {n beg fin : Nat} {len op oc x1 x2 : Int32} {W : WS} (h : Row c 0 n b) (hn : n ≤ 8192) (hfn : fin ≤ n) (hbe : beg ≤ fin) (h1 : x1 = nI beg) (h2 : x2 = nI fin) (hW : ClsW len op oc out W.1 W.2) : Tt (Packer_writeStored 200000 8192 (nI n) c len op oc out x1 x2) (fun u => ClsW u.2.1 u.2.2.1 u.2.2.2.1 u.2.2.2.2 (stW b beg fin W).1 (stW b beg fin W).2) := by
  subst h1 h2
  unfold Packer_writeStored
  simp (disch := omega) only [Tt_L, Tt_R4, i_0, i_1, i_2, i_3, i_4, i_5, i_6, i_7, i_8, i_9, i_10, i_11, i_13, i_14, i_15, i_16, i_17, i_18, i_19, i_24, i_29, i_30, i_31, i_32, i_138, i_143, i_144, i_254, i_255, i_256, i_257, i_258, i_261, i_264, i_265, i_279, i_280, i_284, i_285, i_286, i_288, i_319, i_320, i_338, i_339, i_575, i_576, i_599, i_600, i_4096, i_8191, i_8192, i_8249, i_8250, i_8256, i_9000, i_16384, i_32767, i_32768, i_65520, i_65521, i_65535, i_65536, i_65999, i_66000, i_1300, i_120, i_156, pk_sub]
  refine Tt_m (t_align hW) ?_
  rintro ⟨_, a1, a2, a3, a4⟩ hW1
  dsimp only at hW1 ⊢
  refine Tt_m (t_number hW1 (k := 16) (v := fin - beg) (by omega) (by omega) rfl rfl) ?_
  rintro ⟨_, a1, a2, a3, a4⟩ hW2
  dsimp only at hW2 ⊢
  refine Tt_m (t_number hW2 (k := 16) (v := 65535 - (fin - beg)) (by omega) (by omega) rfl rfl) ?_
  rintro ⟨_, a1, a2, a3, a4⟩ hW3
  dsimp only at hW3 ⊢
  have hW4 : ClsW a1 a2 a3 a4 (app (app (alg W) (fin - beg) 16) (65535 - (fin - beg)) 16).1 (app (app (alg W) (fin - beg) 16) (65535 - (fin - beg)) 16).2 := hW3
  unfold stW
  generalize app (app (alg W) (fin - beg) 16) (65535 - (fin - beg)) 16 = W4 at *
  refine Tt_W5 (fun mm len op oc out x4 => ∃ i, x4 = nI (beg + i) ∧ i ≤ fin - beg ∧ mm = fin - beg - i ∧ ClsW len op oc out (sto b beg W4 i).1 (sto b beg W4 i).2) ?_ 200000 (fin - beg) _ _ _ _ _ (by omega) ⟨0, rfl, by omega, rfl, hW4⟩
  rintro K mm len op oc out x4 ⟨i, rfl, hi, rfl, hC⟩ ih
  unfold Packer_writeStored_37
  by_cases z : fin ≤ beg + i
  · simp (disch := omega) only [Tt_C, Tt_S, nI_leI]
    rw [if_pos z, show fin - beg = i by omega]
    first | exact hC | exact Tt_Si hC
  · have g0 := @e_at 200000 8192 n (beg + i) c b (nI (beg + i)) (nI n) h hn (by omega) (by omega) rfl rfl
    have z0 : bz b n (beg + i) = b (beg + i) := if_pos (by omega)
    rw [z0] at g0
    have b0 := h.2 (beg + i)
    simp (disch := omega) only [Tt_L, Tt_S, Tt_C, Tt_Z, Tt_R0, Tt_R1, Tt_R2, Tt_R3, Tt_R4, Tt_R5, q10, eq_self, Nat.not_lt_zero, if_true, if_false, i_0, i_1, i_2, i_3, i_4, i_5, i_6, i_7, i_8, i_9, i_10, i_11, i_13, i_14, i_15, i_16, i_17, i_18, i_19, i_24, i_29, i_30, i_31, i_32, i_138, i_143, i_144, i_254, i_255, i_256, i_257, i_258, i_261, i_264, i_265, i_279, i_280, i_284, i_285, i_286, i_288, i_319, i_320, i_338, i_339, i_575, i_576, i_599, i_600, i_4096, i_8191, i_8192, i_8249, i_8250, i_8256, i_9000, i_16384, i_32767, i_32768, i_65520, i_65521, i_65535, i_65536, i_65999, i_66000, i_1300, i_120, i_156, nI_leI, g0, nI_add]
    rw [if_neg z]
    refine Tt_m (t_number hC (k := 8) (v := b (beg + i)) (by omega) (by omega) rfl rfl) ?_
    rintro ⟨_, a1, a2, a3, a4⟩ hC2
    exact ih (fin - beg - (i + 1)) _ _ _ _ _ (by omega) ⟨i + 1, rfl, by omega, rfl, hC2⟩
/-- the fixed codes, as the program has them -/
def FixC (fs fc fd fdc : Nat → Int32) : Prop := (∀ s, s < 288 → fs s = nI (lF s) ∧ fc s = nI (cAll lF s)) ∧ ∀ d, d < 32 → fd d = nI (lF (288 + d)) ∧ fdc d = nI (cAll lF (288 + d))
theorem cAll_lt (l : Nat → Nat) (s : Nat) : cAll l s < 2 ^ l s := by
  unfold cAll
  split <;> exact rv_lt _ _
theorem t_bitsWith {N1 N2 : Nat} {ex : Int32} {l1 sc l2 dc : Nat → Int32} {b l : Nat → Nat} {n beg fin T : Nat} (hb : ∀ i, b i < 256) (hn : n ≤ 8192) (hfn : fin ≤ n) (hpt : ∀ t, t < T → pos b beg fin t < fin) (hN1 : 286 ≤ N1) (hN1' : N1 ≤ 288) (hN2 : 30 ≤ N2) (hN2' : N2 ≤ 32) (hl1 : ∀ s, s < N1 → l1 s = nI (l s)) (hl2 : ∀ d, d < N2 → l2 d = nI (l (288 + d))) (hsc : ∀ s, s < 286 → sc s = nI (cn (sOf b beg fin) s T + (if s = 256 then 1 else 0))) (hdc : ∀ d, d < 30 → dc d = nI (cn (dOf b beg fin) d T)) (hex : ex = nI (sm (xOf b beg fin) T)) : Tt (Packer_bitsWith 200000 N1 N2 ex l1 sc l2 dc) (fun u => u.1 = nI (bitN b beg fin T l)) := by
  subst hex
  unfold Packer_bitsWith
  rw [Tt_R0]
  refine Tt_m (t_bitsFor (by omega) (by omega) hl1 hsc) ?_
  rintro ⟨r1, _⟩ h1
  have h1' : r1 = nI (sm (fun s => l s * (cn (sOf b beg fin) s T + (if s = 256 then 1 else 0))) (min N1 286)) := h1
  rw [Tt_R0]
  refine Tt_m (t_bitsFor (f := fun d => l (288 + d)) (by omega) (by omega) hl2 hdc) ?_
  rintro ⟨r2, _⟩ h2
  have h2' : r2 = nI (sm (fun d => l (288 + d) * cn (dOf b beg fin) d T) (min N2 30)) := h2
  rw [show min N1 286 = 286 by omega] at h1'
  rw [show min N2 30 = 30 by omega] at h2'
  subst h1' h2'
  rw [Tt_S]
  show nI _ + nI _ + nI _ = _
  rw [nI_add, nI_add, bits_eq (l := l) hb hn hfn hpt]
/-! one part, packed by the program -/
theorem rex_7 (w : Nat) : rex w ≤ 7 := by
  unfold rex
  split
  · omega
  · split
    · omega
    · split <;> omega
theorem sm_bd {f : Nat → Nat} {B : Nat} : ∀ {n : Nat}, (∀ i, i < n → f i ≤ B) → sm f n ≤ B * n := by
  intro n
  induction n with
  | zero => intro _; exact Nat.zero_le _
  | succ n ih =>
    intro h
    have i1 := ih (fun i hi => h i (by omega))
    have i2 := h n (by omega)
    show sm f n + f n ≤ B * (n + 1)
    rw [Nat.mul_add]
    omega
theorem pB_b (fS fD : Nat → Nat) : pB fS fD ≤ 4480 := by
  have l := told_n (rowF fS fD (pH fS)) (pH fS + pD fD)
  have h1 := pH_b fS
  have h2 := pD_b fD
  have l' : (pL fS fD).1 ≤ pH fS + pD fD := l
  have : pB fS fD ≤ 14 * (pL fS fD).1 := sm_bd (fun i _ => by
    have a1 : pF fS fD ((pL fS fD).2.1 i) ≤ 7 := fitL_hi (by omega) (by decide)
    have a2 := rex_7 ((pL fS fD).2.1 i)
    omega)
  omega
theorem szM_b {b : Nat → Nat} {n beg fin T : Nat} (hb : ∀ i, b i < 256) (hn : n ≤ 8192) (hfn : fin ≤ n) (hT : T ≤ 4096) (hpt : ∀ t, t < T → pos b beg fin t < fin) : szM b beg fin T ≤ 201174 ∧ bitN b beg fin T lF ≤ 196623 ∧ bitN b beg fin T (lM b beg fin T) ≤ 196623 := by
  have p := pB_b (fSf b beg fin T) (fDf b beg fin T)
  have c := (cln_b (pF (fSf b beg fin T) (fDf b beg fin T)) 19).1
  have b1 := @bitN_b b n beg fin T lF hb hn hfn hpt (fun i _ => by have := lF_b i; omega) T (Nat.le_refl T)
  have b2 := @bitN_b b n beg fin T (lM b beg fin T) hb hn hfn hpt (fun i _ => lM_b _ _ _ _ i) T (Nat.le_refl T)
  unfold szM
  omega
theorem t_part143 {before c fs fd fc fdc : Nat → Int32} {tc ex many ol oo ooc hrl htc hsl hdl hcl : Int32} {sc dc toks msl lc ls ib it mdl msn msc mdn mdc hrow hcs htd hcle hnx hco od : Nat → Int32} {pr : Nat → Nat → Int32} {x1 x2 x3 x4 x5 s1 : Int32} {b : Nat → Nat} {n beg fin T : Nat} {W : WS} (h : Row c 0 n b) (hn : n ≤ 8192) (hfn : fin ≤ n) (hbe : beg ≤ fin) (hl : fin - beg ≤ 4096) (hT : T ≤ 4096) (hpt : ∀ t, t < T → pos b beg fin t < fin) (hF : FixC fs fc fd fdc) (htc0 : tc = nI T) (htk : ∀ t, t < T → toks t = nI (vOf b beg fin t)) (hms : ∀ s, s < 286 → msl s = nI (fSf b beg fin T s)) (hmd : ∀ d, d < 30 → mdl d = nI (fDf b beg fin T d)) (hmsc : ∀ s, s < 286 → 0 < fSf b beg fin T s → msc s = nI (rv (cde (fSf b beg fin T) 286 s) (fSf b beg fin T s))) (hmdc : ∀ d, d < 30 → 0 < fDf b beg fin T d → mdc d = nI (rv (cde (fDf b beg fin T) 30 d) (fDf b beg fin T d))) (hCT : CT htc htd hcs (pL (fSf b beg fin T) (fDf b beg fin T))) (hhs : hsl = nI (pH (fSf b beg fin T))) (hhd : hdl = nI (pD (fDf b beg fin T))) (hhc : hcl = nI (cln (pF (fSf b beg fin T) (fDf b beg fin T)) 19)) (hcl' : ∀ s, s < 19 → hcle s = nI (pF (fSf b beg fin T) (fDf b beg fin T) s)) (hco' : ∀ s, s < 19 → 0 < pF (fSf b beg fin T) (fDf b beg fin T) s → hco s = nI (rv (cde (pF (fSf b beg fin T) (fDf b beg fin T)) 19 s) (pF (fSf b beg fin T) (fDf b beg fin T) s))) (e1 : x1 = nI beg) (e2 : x2 = nI fin) (e3 : x3 = nI (szS W beg fin)) (e4 : x4 = nI (bitN b beg fin T lF)) (e5 : x5 = nI (szM b beg fin T)) (es : s1 = nI (if fin = n then 1 else 0)) (hW : ClsW ol oo ooc od W.1 W.2) : Tt (Packer_packPart_143 200000 8192 286 30 286 30 288 32 19 19 288 32 (nI n) c fs fd fc fdc x1 x2 tc ex sc dc toks msl many lc ls ib it pr mdl msn msc mdn mdc ol oo ooc hrl htc hsl hdl hcl hrow hcs htd hcle hnx hco od x3 x4 x5 s1) (fun (_, _, _, _, _, _, _, _, _, _, _, _, _, _, _, _, _, _, ol, oo, ooc, _, _, _, _, _, _, _, _, _, _, _, od) => ClsW ol oo ooc od (pkW b n beg fin T W).1 (pkW b n beg fin T W).2) := by
  subst e3 e4 e5 es
  obtain ⟨sz1, sz2, sz3⟩ := szM_b h.2 hn hfn hT hpt
  have sS : szS W beg fin ≤ 40000 := by unfold szS; omega
  have bit1 : (if fin = n then 1 else 0) < 2 ^ 1 := by split <;> omega
  unfold Packer_packPart_143
  rw [Tt_R4]
  refine Tt_m (t_number hW (k := 1) (by omega) bit1 rfl rfl) ?_
  rintro ⟨_, a1, a2, a3, a4⟩ hW1
  dsimp only at hW1 ⊢
  have hW1' : ClsW a1 a2 a3 a4 (app W (if fin = n then 1 else 0) 1).1 (app W (if fin = n then 1 else 0) 1).2 := hW1
  have em : (if nI (szM b beg fin T) < nI (bitN b beg fin T lF) then nI (szM b beg fin T) else nI (bitN b beg fin T lF)) = nI (min (szM b beg fin T) (bitN b beg fin T lF)) := by
    by_cases z : szM b beg fin T < bitN b beg fin T lF
    · rw [if_pos (by rw [nI_ltI (by omega) (by omega)]; exact z)]; exact congrArg nI (by omega)
    · rw [if_neg (by rw [nI_ltI (by omega) (by omega)]; exact z)]; exact congrArg nI (by omega)
  simp (disch := omega) only [Tt_C, Tt_S, em, nI_ltI]
  unfold pkW
  generalize app W (if fin = n then 1 else 0) 1 = W1 at *
  by_cases z : min (szM b beg fin T) (bitN b beg fin T lF) < szS W beg fin
  · rw [if_pos z, if_neg (by omega)]
    by_cases y : szM b beg fin T < bitN b beg fin T lF
    · rw [if_pos y, if_neg (by omega), Tt_R4]
      refine Tt_m (t_number hW1' (k := 2) (v := 2) (by omega) (by omega) rfl rfl) ?_
      rintro ⟨_, a1, a2, a3, a4⟩ hW2
      dsimp only at hW2 ⊢
      have bH := pH_b (fSf b beg fin T)
      have bD := pD_b (fDf b beg fin T)
      have ln : (pL (fSf b beg fin T) (fDf b beg fin T)).1 ≤ pH (fSf b beg fin T) + pD (fDf b beg fin T) := told_n _ _
      rw [Tt_R4]
      refine Tt_m (t_writeHdC (W := app W1 2 2) bH.1 bH.2 bD.1 bD.2 hhs hhd hhc hcl' (fun i hi => fitL_hi (by omega) (by decide)) hco' hCT.1 (by omega) hCT.2.1 hCT.2.2.2 (fun t ht => ?_) hW2) ?_
      · exact fitL_lo (by omega) (by decide) (hCT.2.2.2 t ht).1 (cn_pos ht)
      · rintro ⟨_, a1, a2, a3, a4⟩ hW3
        dsimp only at hW3 ⊢
        rw [Tt_R4]
        refine Tt_m (t_writeTokC (N1 := 286) (N2 := 30) (l := lM b beg fin T) (c := cAll (lM b beg fin T)) h.2 hn hfn hT hpt htc0 htk (by omega) (by omega) (by omega) (by omega) (fun s hs => ⟨by rw [lM_S (by omega)]; exact hms s hs, lM_b _ _ _ _ s⟩) (fun d hd => ⟨by rw [lM_D]; exact hmd d hd, lM_b _ _ _ _ _⟩) (fun s hs h0 => ⟨?_, cAll_lt _ _⟩) (fun d hd h0 => ⟨?_, cAll_lt _ _⟩) (lM_u h.2 hn hfn hpt) hW3) ?_
        · rw [lM_cS hs]
          rw [lM_S (by omega)] at h0
          exact hmsc s hs h0
        · rw [lM_cD hd]
          rw [lM_D] at h0
          exact hmdc d hd h0
        · rintro ⟨_, a1, a2, a3, a4⟩ hW4
          first | exact hW4 | exact Tt_Si hW4
    · rw [if_neg y, if_pos (by omega), Tt_R4]
      refine Tt_m (t_number hW1' (k := 2) (v := 1) (by omega) (by omega) rfl rfl) ?_
      rintro ⟨_, a1, a2, a3, a4⟩ hW2
      dsimp only at hW2 ⊢
      rw [Tt_R4]
      refine Tt_m (t_writeTokC (N1 := 288) (N2 := 32) (l := lF) (c := cAll lF) (W := app W1 1 2) h.2 hn hfn hT hpt htc0 htk (by omega) (by omega) (by omega) (by omega) (fun s hs => ⟨(hF.1 s (by omega)).1, by have := lF_b s; omega⟩) (fun d hd => ⟨(hF.2 d (by omega)).1, by have := lF_b (288 + d); omega⟩) (fun s hs _ => ⟨(hF.1 s (by omega)).2, cAll_lt _ _⟩) (fun d hd _ => ⟨(hF.2 d (by omega)).2, cAll_lt _ _⟩) lF_u hW2) ?_
      rintro ⟨_, a1, a2, a3, a4⟩ hW4
      first | exact hW4 | exact Tt_Si hW4
  · rw [if_neg z, if_pos (by omega), Tt_R4]
    refine Tt_m (t_number hW1' (k := 2) (v := 0) (by omega) (by omega) rfl rfl) ?_
    rintro ⟨_, a1, a2, a3, a4⟩ hW2
    dsimp only at hW2 ⊢
    rw [Tt_R4]
    refine Tt_m (t_storedC (W := app W1 0 2) h hn hfn hbe e1 e2 hW2) ?_
    rintro ⟨_, a1, a2, a3, a4⟩ hW4
    exact hW4
/-- one part, packed by the program -/
theorem t_partC {before c fs fd fc fdc : Nat → Int32} {tc ex many ol oo ooc hrl htc hsl hdl hcl : Int32} {sc dc toks msl lc ls ib it mdl msn msc mdn mdc hrow hcs htd hcle hnx hco od : Nat → Int32} {pr : Nat → Nat → Int32} {x1 x2 : Int32} {b : Nat → Nat} {n beg fin : Nat} {W : WS} (h : Row c 0 n b) (hn : n ≤ 8192) (hB : ∀ p, p < n → before p = nI (lb (hf b n) p (hf b n p))) (hfn : fin ≤ n) (hbe : beg ≤ fin) (hl : fin - beg ≤ 4096) (hF : FixC fs fc fd fdc) (e1 : x1 = nI beg) (e2 : x2 = nI fin) (hW : ClsW ol oo ooc od W.1 W.2) : Tt (Packer_packPart 200000 8192 286 30 286 30 288 32 19 19 288 32 before (nI n) c fs fd fc fdc tc ex sc dc toks msl many lc ls ib it pr mdl msn msc mdn mdc ol oo ooc hrl htc hsl hdl hcl hrow hcs htd hcle hnx hco od x1 x2) (fun (_, _, _, _, _, _, _, _, _, _, _, _, _, _, _, _, _, _, ol, oo, ooc, _, _, _, _, _, _, _, _, _, _, _, od) => ∃ T, T ≤ fin - beg ∧ isT b beg fin T ∧ ClsW ol oo ooc od (pkW b n beg fin T W).1 (pkW b n beg fin T W).2) := by
  unfold Packer_packPart
  rw [Tt_R5]
  refine Tt_m (t_collect h hn hB hfn hbe hl e1 e2) ?_
  rintro ⟨_, tc1, ex1, sc1, dc1, tk1⟩ ⟨T, hT, hisT, g1, g2, g3, g4, g5⟩
  dsimp only at g1 g2 g3 g4 g5 ⊢
  have hT' : T ≤ 4096 := by omega
  have cl1 : ∀ i, cSf b beg fin T i ≤ 8192 := fun i => by
    have := cn_le (sOf b beg fin) i T
    unfold cSf
    split <;> omega
  have cl2 : ∀ i, cDf b beg fin T i ≤ 8192 := fun i => by
    have := cn_le (dOf b beg fin) i T
    unfold cDf
    omega
  rw [Tt_R7]
  refine Tt_m (t_fit (n := 286) (K := 15) (c := cSf b beg fin T) (by omega) g3 cl1 (by omega) (by omega) (by decide) rfl) ?_
  rintro ⟨_, msl1, many1, lc1, ls1, ib1, it1, pr1⟩ hms
  dsimp only at hms ⊢
  rw [Tt_R7]
  refine Tt_m (t_fit (n := 30) (K := 15) (c := cDf b beg fin T) (by omega) g4 cl2 (by omega) (by omega) (by decide) rfl) ?_
  rintro ⟨_, mdl1, many2, lc2, ls2, ib2, it2, pr2⟩ hmd
  dsimp only at hmd ⊢
  rw [Tt_R2]
  refine Tt_m (t_assign (N := 286) (f := fSf b beg fin T) (by omega) hms (fun i _ => fSf_b _ _ _ _ i)) ?_
  rintro ⟨_, msn1, msc1⟩ hmsc
  dsimp only at hmsc ⊢
  rw [Tt_R2]
  refine Tt_m (t_assign (N := 30) (f := fDf b beg fin T) (by omega) hmd (fun i _ => fDf_b _ _ _ _ i)) ?_
  rintro ⟨_, mdn1, mdc1⟩ hmdc
  dsimp only at hmdc ⊢
  rw [Tt_R0]
  refine Tt_m (t_leftBehind hW (k := 3) (by omega) rfl) ?_
  rintro ⟨r3, _⟩ h3
  have h3' : r3 = nI ((8 - (W.1 + 3) % 8) % 8) := h3
  subst h3'
  rw [Tt_L, Tt_R0]
  refine Tt_m (t_bitsWith (N1 := 288) (N2 := 32) (l := lF) h.2 hn hfn hisT.2 (by omega) (by omega) (by omega) (by omega) (fun s hs => (hF.1 s hs).1) (fun d hd => (hF.2 d hd).1) g3 g4 g2) ?_
  rintro ⟨r4, _⟩ h4
  dsimp only at h4 ⊢
  rw [Tt_R17]
  refine Tt_m (t_plan (fS := fSf b beg fin T) (fD := fDf b beg fin T) hms (fun i _ => fSf_b _ _ _ _ i) hmd (fun i _ => fDf_b _ _ _ _ i)) ?_
  rintro ⟨r5, q1, q2, q3, q4, q5, q6, q7, q8, q9, q10, q11, q12, q13, q14, q15, q16, q17⟩ ⟨k1, k2, k3, k4, k5, k6, k7⟩
  dsimp only
  rw [Tt_R0]
  refine Tt_m (t_bitsWith (N1 := 286) (N2 := 30) (l := lM b beg fin T) h.2 hn hfn hisT.2 (by omega) (by omega) (by omega) (by omega) (fun s hs => by rw [lM_S (by omega)]; exact hms s hs) (fun d hd => by rw [lM_D]; exact hmd d hd) g3 g4 g2) ?_
  rintro ⟨r6, _⟩ h6
  dsimp only at h6 ⊢
  subst e1 e2 h4 h6 k1
  rw [pk_sub hbe]
  simp only [i_0, i_1, i_2, i_3, i_4, i_5, i_6, i_7, i_8, i_9, i_10, i_11, i_13, i_14, i_15, i_16, i_17, i_18, i_19, i_24, i_29, i_30, i_31, i_32, i_138, i_143, i_144, i_254, i_255, i_256, i_257, i_258, i_261, i_264, i_265, i_279, i_280, i_284, i_285, i_286, i_288, i_319, i_320, i_338, i_339, i_575, i_576, i_599, i_600, i_4096, i_8191, i_8192, i_8249, i_8250, i_8256, i_9000, i_16384, i_32767, i_32768, i_65520, i_65521, i_65535, i_65536, i_65999, i_66000, i_1300, i_120, i_156, pk_mul, nI_add]
  unfold Bytes_length
  simp (disch := omega) only [Tt_L, Tt_R0, Tt_S, Tt_C, nI_eq]
  by_cases z : fin = n
  · rw [if_pos z]
    refine Tt_m (t_part143 (W := W) (s1 := nI 1) h hn hfn hbe hl hT' hisT.2 hF g1 g5 hms hmd hmsc hmdc k2 k3 k4 k5 k6 k7 rfl rfl rfl rfl rfl (by rw [if_pos z]) hW) ?_
    rintro ⟨_, tc9, ex9, sc9, dc9, toks9, msl9, many9, lc9, ls9, ib9, it9, pr9, mdl9, msn9, msc9, mdn9, mdc9, ol9, oo9, ooc9, hrl9, htc9, hsl9, hdl9, hcl9, hrow9, hcs9, htd9, hcle9, hnx9, hco9, od9⟩ hu
    exact ⟨T, hT, hisT, hu⟩
  · rw [if_neg z]
    refine Tt_m (t_part143 (W := W) (s1 := nI 0) h hn hfn hbe hl hT' hisT.2 hF g1 g5 hms hmd hmsc hmdc k2 k3 k4 k5 k6 k7 rfl rfl rfl rfl rfl (by rw [if_neg z]) hW) ?_
    rintro ⟨_, tc9, ex9, sc9, dc9, toks9, msl9, many9, lc9, ls9, ib9, it9, pr9, mdl9, msn9, msc9, mdn9, mdc9, ol9, oo9, ooc9, hrl9, htc9, hsl9, hdl9, hcl9, hrow9, hcs9, htd9, hcle9, hnx9, hco9, od9⟩ hu
    exact ⟨T, hT, hisT, hu⟩
