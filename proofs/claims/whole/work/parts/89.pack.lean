/-! what a made part tells of its codes: program and reference -/
def ord (k : Nat) : Nat := (tb_order k).toNatClampNeg
theorem y_ord : ∀ k, k < 19 → tb_order k = nI (ord k) ∧ M_smallOrder 200000 (nI k) = some (nI (ord k), ()) ∧ ord k < 19 := by decide +kernel
theorem y_rex : ∀ w, w < 19 → P_repeatExtra 200000 (nI w) = some (nI (rex w), ()) ∧ M_stepBits 200000 (nI w) = some (nI (rex w), ()) ∧ rex w ≤ 7 := by decide +kernel
def cln (f : Nat → Nat) : Nat → Nat
  | 0 => 0
  | k + 1 => if k + 1 ≤ 4 then k + 1 else if f (ord k) = 0 then cln f k else k + 1
theorem cln_b (f : Nat → Nat) : ∀ k, cln f k ≤ k ∧ (4 ≤ k → 4 ≤ cln f k) := by
  intro k
  induction k with
  | zero => exact ⟨Nat.le_refl 0, fun h => by omega⟩
  | succ k ih =>
    have e : cln f (k + 1) = if k + 1 ≤ 4 then k + 1 else if f (ord k) = 0 then cln f k else k + 1 := rfl
    rw [e]
    split
    · omega
    · split <;> omega
def hds (f : Nat → Nat) (W : WS) : Nat → WS
  | 0 => W
  | i + 1 => app (hds f W i) (f (ord i)) 3
def hss (f : Nat → Nat) (L : Lg) (W : WS) : Nat → WS
  | 0 => W
  | t + 1 => app (app (hss f L W t) (rv (cde f 19 (L.2.1 t)) (f (L.2.1 t))) (f (L.2.1 t))) (L.2.2 t) (rex (L.2.1 t))
def hdr (h d : Nat) (f : Nat → Nat) (L : Lg) (W : WS) : WS := hss f L (hds f (app (app (app W (h - 257) 5) (d - 1) 5) (cln f 19 - 4) 4) (cln f 19)) L.1
theorem t_lengthOf {N i : Nat} {lens : Nat → Int32} {f : Nat → Nat} {x : Int32} (hN : N ≤ 339) (hL : ∀ i, i < N → lens i = nI (f i)) (hi : i < N) (hx : x = nI i) : Code_lengthOf 200000 N lens x = some (nI (f i), ()) := by
  subst hx
  unfold Code_lengthOf mC mG
  rw [if_neg (nI_pos (by omega)), if_neg (by rw [nI_leI (by omega) (by omega)]; omega), if_neg (nI_in hi (by omega)), nI_clamp (by omega), hL i hi]
/-- the row of lengths of a made part -/
def rowF (fS fD : Nat → Nat) (h k : Nat) : Nat := if k < h then fS k else fD (k - h)
theorem t_gather {l1 l2 row : Nat → Int32} {fS fD : Nat → Nat} {rl sl dl : Int32} (hS : ∀ i, i < 286 → l1 i = nI (fS i)) (hS' : ∀ i, i < 286 → fS i ≤ 15) (hD : ∀ i, i < 30 → l2 i = nI (fD i)) (hD' : ∀ i, i < 30 → fD i ≤ 15) : Tt (Header_gather 200000 286 30 l1 l2 rl sl dl row) (fun u => u.2.1 = nI (max 257 (usd fS 286) + max 1 (usd fD 30)) ∧ u.2.2.1 = nI (max 257 (usd fS 286)) ∧ u.2.2.2.1 = nI (max 1 (usd fD 30)) ∧ ∀ i, i < max 257 (usd fS 286) + max 1 (usd fD 30) → u.2.2.2.2 i = nI (rowF fS fD (max 257 (usd fS 286)) i)) := by
  unfold Header_gather
  rw [Tt_R0]
  refine Tt_m (t_used (by omega) hS hS') ?_
  rintro ⟨r1, _⟩ h1
  have h1' : r1 = nI (usd fS 286) := h1
  subst h1'
  rw [Tt_L, Tt_R0]
  refine Tt_m (t_used (by omega) hD hD') ?_
  rintro ⟨r2, _⟩ h2
  have h2' : r2 = nI (usd fD 30) := h2
  subst h2'
  have u1 := usd_le fS 286
  have u2 := usd_le fD 30
  have e1 : (if (257 : Int32) < nI (usd fS 286) then nI (usd fS 286) else (257 : Int32)) = nI (max 257 (usd fS 286)) := by
    rw [i_257]
    by_cases z : 257 < usd fS 286
    · rw [if_pos (by rw [nI_ltI (by omega) (by omega)]; exact z)]; exact congrArg nI (by omega)
    · rw [if_neg (by rw [nI_ltI (by omega) (by omega)]; exact z)]; exact congrArg nI (by omega)
  have e2 : (if (1 : Int32) < nI (usd fD 30) then nI (usd fD 30) else (1 : Int32)) = nI (max 1 (usd fD 30)) := by
    rw [i_1]
    by_cases z : 1 < usd fD 30
    · rw [if_pos (by rw [nI_ltI (by omega) (by omega)]; exact z)]; exact congrArg nI (by omega)
    · rw [if_neg (by rw [nI_ltI (by omega) (by omega)]; exact z)]; exact congrArg nI (by omega)
  simp only [Tt_L, e1, e2, nI_add]
  have bh : max 257 (usd fS 286) ≤ 286 := by omega
  have bd : max 1 (usd fD 30) ≤ 30 := by omega
  generalize max 257 (usd fS 286) = h at *
  generalize max 1 (usd fD 30) = d at *
  have e3 : (if (320 : Int32) < nI (h + d) then (320 : Int32) else nI (h + d)) = nI (h + d) := by
    rw [i_320, if_neg (by rw [nI_ltI (by omega) (by omega)]; omega)]
  rw [e3]
  refine Tt_W5 (fun mm a1 a2 a3 row x3 => a1 = nI (h + d) ∧ a2 = nI h ∧ a3 = nI d ∧ ∃ k, x3 = nI k ∧ k ≤ h + d ∧ mm = h + d - k ∧ ∀ i, i < k → row i = nI (rowF fS fD h i)) ?_ 200000 (h + d) _ _ _ _ _ (by omega) ⟨rfl, rfl, rfl, 0, rfl, by omega, rfl, fun i hi => by omega⟩
  rintro K mm a1 a2 a3 row x3 ⟨rfl, rfl, rfl, k, rfl, hk, rfl, hr⟩ ih
  have next : ∀ v, v = nI (rowF fS fD h k) → k < h + d → Tt (K (nI (h + d)) (nI h) (nI d) (upd row k v) (nI (k + 1))) (fun u => u.2.1 = nI (h + d) ∧ u.2.2.1 = nI h ∧ u.2.2.2.1 = nI d ∧ ∀ i, i < h + d → u.2.2.2.2 i = nI (rowF fS fD h i)) := by
    intro v hv hk'
    refine ih (h + d - (k + 1)) _ _ _ _ _ (by omega) ⟨rfl, rfl, rfl, k + 1, rfl, by omega, rfl, fun i hi => ?_⟩
    by_cases e : i = k
    · rw [e, pk_us, hv]
    · rw [pk_un e]; exact hr i (by omega)
  unfold Header_gather_49 Header_gather_88
  by_cases z : h + d ≤ k
  · simp (disch := omega) only [Tt_C, Tt_S, nI_leI]
    rw [if_pos z]
    exact ⟨trivial, trivial, trivial, fun i hi => hr i (by omega)⟩
  · by_cases y : h ≤ k
    · have g := @t_lengthOf 30 (k - h) l2 fD (nI (k - h)) (by omega) hD (by omega) rfl
      simp (disch := omega) only [Tt_L, Tt_S, Tt_C, Tt_Z, Tt_R0, Tt_R1, Tt_R2, Tt_R3, Tt_R4, Tt_R5, q10, eq_self, Nat.not_lt_zero, if_true, if_false, i_0, i_1, i_2, i_3, i_4, i_5, i_6, i_7, i_8, i_9, i_10, i_11, i_13, i_14, i_15, i_16, i_17, i_18, i_19, i_24, i_29, i_30, i_31, i_32, i_138, i_143, i_144, i_254, i_255, i_256, i_257, i_258, i_261, i_264, i_265, i_279, i_280, i_284, i_285, i_286, i_288, i_319, i_320, i_338, i_339, i_575, i_576, i_599, i_600, i_4096, i_8191, i_8192, i_8249, i_8250, i_8256, i_9000, i_16384, i_32767, i_32768, i_65520, i_65521, i_65535, i_65536, i_65999, i_66000, i_1300, i_120, i_156, nI_leI, pk_sub, g, Tt_N, nI_clamp, nI_add]
      rw [if_neg z, if_pos y]
      exact ⟨by omega, next _ (by unfold rowF; rw [if_neg (by omega)]) (by omega)⟩
    · have g := @t_lengthOf 286 k l1 fS (nI k) (by omega) hS (by omega) rfl
      simp (disch := omega) only [Tt_L, Tt_S, Tt_C, Tt_Z, Tt_R0, Tt_R1, Tt_R2, Tt_R3, Tt_R4, Tt_R5, q10, eq_self, Nat.not_lt_zero, if_true, if_false, i_0, i_1, i_2, i_3, i_4, i_5, i_6, i_7, i_8, i_9, i_10, i_11, i_13, i_14, i_15, i_16, i_17, i_18, i_19, i_24, i_29, i_30, i_31, i_32, i_138, i_143, i_144, i_254, i_255, i_256, i_257, i_258, i_261, i_264, i_265, i_279, i_280, i_284, i_285, i_286, i_288, i_319, i_320, i_338, i_339, i_575, i_576, i_599, i_600, i_4096, i_8191, i_8192, i_8249, i_8250, i_8256, i_9000, i_16384, i_32767, i_32768, i_65520, i_65521, i_65535, i_65536, i_65999, i_66000, i_1300, i_120, i_156, nI_leI, g, Tt_N, nI_clamp, nI_add]
      rw [if_neg z, if_neg y]
      exact ⟨by omega, next _ (by unfold rowF; rw [if_pos (by omega)]) (by omega)⟩
theorem t_writeHdC {len op oc tc sl dl cl : Int32} {cl' td co out : Nat → Int32} {f : Nat → Nat} {L : Lg} {h d : Nat} {W : WS} (hh : 257 ≤ h) (hh2 : h ≤ 286) (hd : 1 ≤ d) (hd2 : d ≤ 30) (h1 : sl = nI h) (h2 : dl = nI d) (h3 : cl = nI (cln f 19)) (hf : ∀ i, i < 19 → cl' i = nI (f i)) (hf7 : ∀ i, i < 19 → f i ≤ 7) (hco : ∀ s, s < 19 → 0 < f s → co s = nI (rv (cde f 19 s) (f s))) (htc : tc = nI L.1) (hL : L.1 ≤ 320) (htd : ∀ t, t < L.1 → td t = nI (L.2.1 t + 32 * L.2.2 t)) (hB : LgB L) (hU : ∀ t, t < L.1 → 0 < f (L.2.1 t)) (hW : ClsW len op oc out W.1 W.2) : Tt (Header_write 200000 19 19 tc sl dl cl cl' td co len op oc out) (fun u => ClsW u.2.1 u.2.2.1 u.2.2.2.1 u.2.2.2.2 (hdr h d f L W).1 (hdr h d f L W).2) := by
  subst h1 h2 h3 htc
  have cb := cln_b f 19
  have cb2 := cb.2 (by omega)
  unfold Header_write
  simp (disch := omega) only [Tt_L, Tt_R4, i_0, i_1, i_2, i_3, i_4, i_5, i_6, i_7, i_8, i_9, i_10, i_11, i_13, i_14, i_15, i_16, i_17, i_18, i_19, i_24, i_29, i_30, i_31, i_32, i_138, i_143, i_144, i_254, i_255, i_256, i_257, i_258, i_261, i_264, i_265, i_279, i_280, i_284, i_285, i_286, i_288, i_319, i_320, i_338, i_339, i_575, i_576, i_599, i_600, i_4096, i_8191, i_8192, i_8249, i_8250, i_8256, i_9000, i_16384, i_32767, i_32768, i_65520, i_65521, i_65535, i_65536, i_65999, i_66000, i_1300, i_120, i_156, pk_sub]
  refine Tt_m (t_number hW (k := 5) (v := h - 257) (by omega) (by omega) rfl rfl) ?_
  rintro ⟨_, a1, a2, a3, a4⟩ hW1
  dsimp only at hW1 ⊢
  refine Tt_m (t_number hW1 (k := 5) (v := d - 1) (by omega) (by omega) rfl rfl) ?_
  rintro ⟨_, a1, a2, a3, a4⟩ hW2
  dsimp only at hW2 ⊢
  refine Tt_m (t_number hW2 (k := 4) (v := cln f 19 - 4) (by omega) (by omega) rfl rfl) ?_
  rintro ⟨_, a1, a2, a3, a4⟩ hW3
  dsimp only at hW3 ⊢
  have hW3' : ClsW a1 a2 a3 a4 (app (app (app W (h - 257) 5) (d - 1) 5) (cln f 19 - 4) 4).1 (app (app (app W (h - 257) 5) (d - 1) 5) (cln f 19 - 4) 4).2 := hW3
  unfold hdr
  generalize app (app (app W (h - 257) 5) (d - 1) 5) (cln f 19 - 4) 4 = W3 at *
  refine Tt_W5 (fun mm len op oc out x2 => ∃ i, x2 = nI i ∧ i ≤ cln f 19 ∧ mm = cln f 19 - i ∧ ClsW len op oc out (hds f W3 i).1 (hds f W3 i).2) ?_ 200000 (cln f 19) _ _ _ _ _ (by omega) ⟨0, rfl, by omega, rfl, hW3'⟩
  rintro K mm len op oc out x2 ⟨i, rfl, hi, rfl, hC⟩ ih
  unfold Header_write_37
  by_cases z : cln f 19 ≤ i
  · simp (disch := omega) only [Tt_C, Tt_S, nI_leI]
    rw [if_pos z]
    have ei : i = cln f 19 := by omega
    rw [ei] at hC
    generalize hds f W3 (cln f 19) = W4 at *
    unfold Header_write_76
    refine Tt_W5 (fun mm len op oc out x2 => ∃ t, x2 = nI t ∧ t ≤ L.1 ∧ mm = L.1 - t ∧ ClsW len op oc out (hss f L W4 t).1 (hss f L W4 t).2) ?_ 200000 L.1 _ _ _ _ _ (by omega) ⟨0, rfl, by omega, rfl, hC⟩
    rintro K2 mm len op oc out x2 ⟨t, rfl, ht, rfl, hC2⟩ ih2
    unfold Header_write_78
    by_cases y : L.1 ≤ t
    · simp (disch := omega) only [Tt_C, Tt_S, nI_leI]
      have et : t = L.1 := by omega
      rw [if_pos y, ← et]
      first | exact hC2 | exact Tt_Si hC2
    · obtain ⟨w1, w2⟩ := hB t (by omega)
      have w3 := htd t (by omega)
      have w4 := hU t (by omega)
      have yr := y_rex (L.2.1 t) w1
      have w5 : 2 ^ rex (L.2.1 t) ≤ 2 ^ 7 := Nat.pow_le_pow_right (by omega) yr.2.2
      have q1 : (L.2.1 t + 32 * L.2.2 t) % 32 = L.2.1 t := by omega
      have q2 : (L.2.1 t + 32 * L.2.2 t) / 32 = L.2.2 t := by omega
      have q3 : nI (L.2.1 t + 32 * L.2.2 t) - nI (L.2.2 t) * nI 32 = nI (L.2.1 t) := by
        rw [pk_mul, pk_sub (by omega)]
        exact congrArg nI (by omega)
      simp (disch := omega) only [Tt_L, Tt_S, Tt_C, Tt_Z, Tt_R0, Tt_R1, Tt_R2, Tt_R3, Tt_R4, Tt_R5, q10, eq_self, Nat.not_lt_zero, if_true, if_false, i_0, i_1, i_2, i_3, i_4, i_5, i_6, i_7, i_8, i_9, i_10, i_11, i_13, i_14, i_15, i_16, i_17, i_18, i_19, i_24, i_29, i_30, i_31, i_32, i_138, i_143, i_144, i_254, i_255, i_256, i_257, i_258, i_261, i_264, i_265, i_279, i_280, i_284, i_285, i_286, i_288, i_319, i_320, i_338, i_339, i_575, i_576, i_599, i_600, i_4096, i_8191, i_8192, i_8249, i_8250, i_8256, i_9000, i_16384, i_32767, i_32768, i_65520, i_65521, i_65535, i_65536, i_65999, i_66000, i_1300, i_120, i_156, nI_leI, Tt_N, nI_clamp, w3, pk_div, q2, q3, yr.1, nI_add]
      rw [if_neg y, if_neg (by omega)]
      refine ⟨by omega, ?_⟩
      have f7 := hf7 _ w1
      refine Tt_m (t_codeWrite hC2 (by omega) rfl w1 (by omega) (hf _ w1) (hco _ w1 w4) (rv_lt _ _)) ?_
      rintro ⟨_, a1, a2, a3, a4⟩ hC3
      dsimp only at hC3 ⊢
      refine ⟨by omega, ?_⟩
      refine Tt_m (t_number hC3 (by omega) w2 rfl rfl) ?_
      rintro ⟨_, a1, a2, a3, a4⟩ hC4
      exact ih2 (L.1 - (t + 1)) _ _ _ _ _ (by omega) ⟨t + 1, rfl, by omega, rfl, hC4⟩
  · have yo := y_ord i (by omega)
    have f7 := hf7 _ yo.2.2
    have g := @t_lengthOf 19 (ord i) cl' f (nI (ord i)) (by omega) hf yo.2.2 rfl
    simp (disch := omega) only [Tt_L, Tt_S, Tt_C, Tt_Z, Tt_R0, Tt_R1, Tt_R2, Tt_R3, Tt_R4, Tt_R5, q10, eq_self, Nat.not_lt_zero, if_true, if_false, i_0, i_1, i_2, i_3, i_4, i_5, i_6, i_7, i_8, i_9, i_10, i_11, i_13, i_14, i_15, i_16, i_17, i_18, i_19, i_24, i_29, i_30, i_31, i_32, i_138, i_143, i_144, i_254, i_255, i_256, i_257, i_258, i_261, i_264, i_265, i_279, i_280, i_284, i_285, i_286, i_288, i_319, i_320, i_338, i_339, i_575, i_576, i_599, i_600, i_4096, i_8191, i_8192, i_8249, i_8250, i_8256, i_9000, i_16384, i_32767, i_32768, i_65520, i_65521, i_65535, i_65536, i_65999, i_66000, i_1300, i_120, i_156, nI_leI, Tt_N, nI_clamp, yo.1, g, nI_add]
    rw [if_neg z, if_neg (by omega)]
    refine ⟨by omega, ?_⟩
    refine Tt_m (t_number hC (k := 3) (v := f (ord i)) (by omega) (by omega) rfl rfl) ?_
    rintro ⟨_, a1, a2, a3, a4⟩ hC4
    exact ih (cln f 19 - (i + 1)) _ _ _ _ _ (by omega) ⟨i + 1, rfl, by omega, rfl, hC4⟩
/-! the plan of a made part: program -/
/-- what is known of one part's lengths and tellings -/
def pH (fS : Nat → Nat) : Nat := max 257 (usd fS 286)
def pD (fD : Nat → Nat) : Nat := max 1 (usd fD 30)
def pL (fS fD : Nat → Nat) : Lg := told (rowF fS fD (pH fS)) (pH fS + pD fD)
def pF (fS fD : Nat → Nat) : Nat → Nat := fitL (fun s => cn (pL fS fD).2.1 s (pL fS fD).1) 19 7
def pB (fS fD : Nat → Nat) : Nat := sm (fun t => pF fS fD ((pL fS fD).2.1 t) + rex ((pL fS fD).2.1 t)) (pL fS fD).1
theorem pH_b (fS : Nat → Nat) : 257 ≤ pH fS ∧ pH fS ≤ 286 := by
  have := usd_le fS 286
  unfold pH
  omega
theorem pD_b (fD : Nat → Nat) : 1 ≤ pD fD ∧ pD fD ≤ 30 := by
  have := usd_le fD 30
  unfold pD
  omega
theorem rws_n (f : Nat → Nat) (n : Nat) : ∀ N k L, n - k ≤ N → L.1 ≤ k → k ≤ n → (rws f n (n - k) k L).1 ≤ n := by
  intro N
  induction N with
  | zero =>
    intro k L h1 h2 h3
    rw [show n - k = 0 by omega]
    show L.1 ≤ n
    omega
  | succ N ih =>
    intro k L h1 h2 h3
    by_cases z : k = n
    · rw [show n - k = 0 by omega]
      show L.1 ≤ n
      omega
    · have l0 : lcp f k (k + 1) (n - k - 1) ≤ n - k - 1 := (lcp_ok f k (k + 1) (n - k - 1)).1
      have es : stl f n k = lcp f k (k + 1) (n - k - 1) + 1 := rfl
      rw [rws_s (by omega)]
      have tn := @tlv_n (f k) (stl f n k) L (by omega)
      exact ih _ _ (by omega) (by omega) (by omega)
theorem told_n (f : Nat → Nat) (n : Nat) : (told f n).1 ≤ n := rws_n f n n 0 _ (by omega) (Nat.le_refl 0) (Nat.zero_le n)
theorem sm_mc {f g : Nat → Nat} (h : ∀ i, f i = g i) (n : Nat) : sm f n = sm g n := sm_c (fun i _ => h i)
theorem fitL_hi {c : Nat → Nat} {n K x : Nat} (hK0 : 0 < K) (hK : (n - 1) / 2 ^ (K - 1) = 0) : fitL c n K x ≤ K := by
  obtain ⟨o1, o2, o3, o4, o5⟩ := rk_ok c n
  unfold fitL
  split
  · omega
  · split
    · split <;> omega
    · rename_i h1 h2
      refine gH_hi (by omega) ?_ o3
      have : ((rk c n).1 - 1) / 2 ^ (K - 1) ≤ (n - 1) / 2 ^ (K - 1) := Nat.div_le_div_right (by omega)
      rw [hK] at this
      exact Nat.le_zero.mp this
theorem fitL_lo {c : Nat → Nat} {n K x : Nat} (hK0 : 0 < K) (hK : (n - 1) / 2 ^ (K - 1) = 0) (hx : x < n) (hc : 0 < c x) : 0 < fitL c n K x := by
  obtain ⟨o1, o2, o3, o4, o5⟩ := rk_ok c n
  obtain ⟨a, ha, hr⟩ := o5 x hx hc
  unfold fitL
  rw [if_neg (by omega)]
  split
  · rename_i h1
    have : a = 0 := by omega
    rw [this] at hr
    rw [if_pos hr]
    omega
  · rename_i h1
    have := @gH_lo (rk c n).1 (fun a => c ((rk c n).2 a)) (rk c n).2 K a (by omega) hK0 (by
      have : ((rk c n).1 - 1) / 2 ^ (K - 1) ≤ (n - 1) / 2 ^ (K - 1) := Nat.div_le_div_right (by omega)
      rw [hK] at this
      exact Nat.le_zero.mp this) o4 ha
    rw [hr] at this
    omega
theorem fitL_0 {c : Nat → Nat} {n K x : Nat} (hK0 : 0 < K) (hK : (n - 1) / 2 ^ (K - 1) = 0) (hx : n ≤ x) : fitL c n K x = 0 := by
  obtain ⟨o1, o2, o3, o4, o5⟩ := rk_ok c n
  unfold fitL
  split
  · rfl
  · split
    · rename_i h1 h2
      have := (o2 0 (by omega)).1
      rw [if_neg (by omega)]
    · rename_i h1 h2
      refine gH_0 (by omega) ?_ (fun a ha => ?_)
      · have : ((rk c n).1 - 1) / 2 ^ (K - 1) ≤ (n - 1) / 2 ^ (K - 1) := Nat.div_le_div_right (by omega)
        rw [hK] at this
        exact Nat.le_zero.mp this
      · have := (o2 a ha).1
        omega
theorem rk_ext {c : Nat → Nat} {n : Nat} : ∀ k, (∀ i, n ≤ i → i < n + k → c i = 0) → rk c (n + k) = rk c n := by
  intro k
  induction k with
  | zero => intro _; rfl
  | succ k ih =>
    intro h
    have e : rk c (n + k + 1) = rk c (n + k) := if_neg (by rw [h (n + k) (by omega) (by omega)]; omega)
    rw [show n + (k + 1) = n + k + 1 by omega, e]
    exact ih (fun i h1 h2 => h i h1 (by omega))
theorem fitL_ext {c : Nat → Nat} {n k K x : Nat} (h : ∀ i, n ≤ i → i < n + k → c i = 0) : fitL c (n + k) K x = fitL c n K x := by
  unfold fitL
  rw [rk_ext k h]
theorem rex_0 {w : Nat} (h : w < 16) : rex w = 0 := by
  unfold rex
  rw [if_neg (by omega), if_neg (by omega), if_neg (by omega)]
theorem pB_e {f : Nat → Nat} {L : Lg} (hB : LgB L) : sm (fun t => f (L.2.1 t) + rex (L.2.1 t)) L.1 = sm (fun s => f s * cn L.2.1 s L.1) 19 + sm (fun s => cn L.2.1 s L.1 * rex s) 19 := by
  have e1 : sm (fun s => f s * cn L.2.1 s L.1) 19 + sm (fun s => cn L.2.1 s L.1 * rex s) 19 = sm (fun s => (fun s => f s + rex s) s * cn L.2.1 s L.1) 19 := by
    rw [← sm_add]
    apply sm_c
    intro s _
    rw [Nat.add_mul, Nat.mul_comm (rex s)]
  rw [e1, sm_cn (fun s => f s + rex s)]
  apply sm_c
  intro t ht
  rw [if_pos (hB t ht).1]
theorem t_plan {l1 l2 row counts td clens lc ls ib it nx co : Nat → Int32} {pr : Nat → Nat → Int32} {fS fD : Nat → Nat} {rl tc sl dl cl many : Int32} (hS : ∀ i, i < 286 → l1 i = nI (fS i)) (hS' : ∀ i, i < 286 → fS i ≤ 15) (hD : ∀ i, i < 30 → l2 i = nI (fD i)) (hD' : ∀ i, i < 30 → fD i ≤ 15) : Tt (Header_plan 200000 286 30 19 19 l1 l2 rl tc sl dl cl row counts td clens many lc ls ib it pr nx co) (fun (r, _, tc, sl, dl, cl, _, cs, td, cle, _, _, _, _, _, _, _, co) => r = nI (14 + 3 * cln (pF fS fD) 19 + pB fS fD) ∧ CT tc td cs (pL fS fD) ∧ sl = nI (pH fS) ∧ dl = nI (pD fD) ∧ cl = nI (cln (pF fS fD) 19) ∧ (∀ s, s < 19 → cle s = nI (pF fS fD s)) ∧ ∀ s, s < 19 → 0 < pF fS fD s → co s = nI (rv (cde (pF fS fD) 19 s) (pF fS fD s))) := by
  have bH := pH_b fS
  have bD := pD_b fD
  unfold Header_plan
  rw [Tt_R4]
  refine Tt_m (t_gather hS hS' hD hD') ?_
  rintro ⟨_, rl1, sl1, dl1, row1⟩ ⟨g1, g2, g3, g4⟩
  dsimp only at g1 g2 g3 g4 ⊢
  have hrow : ∀ i, i < pH fS + pD fD → rowF fS fD (pH fS) i ≤ 15 := by
    intro i hi
    unfold rowF
    split
    · exact hS' i (by omega)
    · exact hD' _ (by omega)
  rw [Tt_R3]
  refine Tt_m (t_tellRowC (f := rowF fS fD (pH fS)) (n := pH fS + pD fD) g1 (by omega) g4 hrow) ?_
  rintro ⟨_, tc1, cs1, td1⟩ hCT
  dsimp only at hCT ⊢
  have hCT' : CT tc1 td1 cs1 (pL fS fD) := hCT
  have ln : (pL fS fD).1 ≤ pH fS + pD fD := told_n _ _
  rw [Tt_R7]
  refine Tt_m (t_fit (n := 19) (K := 7) (c := fun s => cn (pL fS fD).2.1 s (pL fS fD).1) (by omega) hCT'.2.2.1 (fun i => by have := cn_le (pL fS fD).2.1 i (pL fS fD).1; omega) (by omega) (by omega) (by decide) rfl) ?_
  rintro ⟨_, cle1, many1, lc1, ls1, ib1, it1, pr1⟩ hF
  dsimp only at hF ⊢
  have hF' : ∀ x, x < 19 → cle1 x = nI (pF fS fD x) := hF
  have hF7 : ∀ x, pF fS fD x ≤ 7 := fun x => fitL_hi (by omega) (by decide)
  rw [Tt_R2]
  refine Tt_m (t_assign (N := 19) (by omega) hF' (fun i hi => by have := hF7 i; omega)) ?_
  rintro ⟨_, nx1, co1⟩ hA
  dsimp only at hA ⊢
  have pBe : pB fS fD = sm (fun s => pF fS fD s * cn (pL fS fD).2.1 s (pL fS fD).1) 19 + sm (fun s => cn (pL fS fD).2.1 s (pL fS fD).1 * rex s) 19 := pB_e hCT'.2.2.2
  generalize pF fS fD = f at *
  generalize pL fS fD = L at *
  refine Tt_W17 (fun mm a1 a2 a3 a4 a5 a6 a7 a8 a9 _ _ _ _ _ _ _ a17 => a2 = tc1 ∧ a3 = sl1 ∧ a4 = dl1 ∧ a7 = cs1 ∧ a8 = td1 ∧ a9 = cle1 ∧ a17 = co1 ∧ ∃ k, a5 = nI k ∧ k ≤ 19 ∧ 4 ≤ k ∧ k = mm ∧ cln f 19 = cln f k) ?_ 200000 19 _ _ _ _ _ _ _ _ _ _ _ _ _ _ _ _ _ (by omega) ⟨rfl, rfl, rfl, rfl, rfl, rfl, rfl, 19, rfl, by omega, by omega, rfl, rfl⟩
  rintro K mm a1 a2 a3 a4 a5 a6 a7 a8 a9 a10 a11 a12 a13 a14 a15 a16 a17 ⟨rfl, rfl, rfl, rfl, rfl, rfl, rfl, k, rfl, hk1, hk2, rfl, hcl⟩ ih
  have out : cln f 19 = k → Tt (Header_plan_86 200000 19 a1 a2 a3 a4 (nI k) a6 a7 a8 a9 a10 a11 a12 a13 a14 a15 a16 a17) (fun (r, _, tc, sl, dl, cl, _, cs, td, cle, _, _, _, _, _, _, _, co) => r = nI (14 + 3 * cln f 19 + pB fS fD) ∧ CT tc td cs L ∧ sl = nI (pH fS) ∧ dl = nI (pD fD) ∧ cl = nI (cln f 19) ∧ (∀ s, s < 19 → cle s = nI (f s)) ∧ ∀ s, s < 19 → 0 < f s → co s = nI (rv (cde f 19 s) (f s))) := by
    intro e
    unfold Header_plan_86
    rw [Tt_R0]
    refine Tt_m (t_bitsFor (N := 19) (M := 19) (by omega) (by omega) hF' hCT'.2.2.1) ?_
    rintro ⟨r4, _⟩ h4
    have h4' : r4 = nI (sm (fun s => f s * cn L.2.1 s L.1) 19) := h4
    subst h4'
    simp only [Tt_L, i_0, i_1, i_2, i_3, i_4, i_5, i_6, i_7, i_8, i_9, i_10, i_11, i_13, i_14, i_15, i_16, i_17, i_18, i_19, i_24, i_29, i_30, i_31, i_32, i_138, i_143, i_144, i_254, i_255, i_256, i_257, i_258, i_261, i_264, i_265, i_279, i_280, i_284, i_285, i_286, i_288, i_319, i_320, i_338, i_339, i_575, i_576, i_599, i_600, i_4096, i_8191, i_8192, i_8249, i_8250, i_8256, i_9000, i_16384, i_32767, i_32768, i_65520, i_65521, i_65535, i_65536, i_65999, i_66000, i_1300, i_120, i_156, pk_mul, nI_add]
    refine Tt_W19 (fun mm b1 b2 b3 b4 b5 b6 b7 b8 b9 _ _ _ _ _ _ _ b17 x3 x4 => b2 = a2 ∧ b3 = a3 ∧ b4 = a4 ∧ b5 = nI k ∧ b7 = a7 ∧ b8 = a8 ∧ b9 = a9 ∧ b17 = a17 ∧ ∃ s, x4 = nI s ∧ 16 ≤ s ∧ s ≤ 19 ∧ mm = 19 - s ∧ x3 = nI (14 + 3 * k + sm (fun s => f s * cn L.2.1 s L.1) 19 + sm (fun s => cn L.2.1 s L.1 * rex s) s)) ?_ 200000 3 _ _ _ _ _ _ _ _ _ _ _ _ _ _ _ _ _ _ _ (by omega) ⟨rfl, rfl, rfl, rfl, rfl, rfl, rfl, rfl, 16, rfl, by omega, by omega, rfl, ?_⟩
    · rintro K2 mm b1 b2 b3 b4 b5 b6 b7 b8 b9 b10 b11 b12 b13 b14 b15 b16 b17 x3 x4 ⟨rfl, rfl, rfl, rfl, rfl, rfl, rfl, rfl, s, rfl, hs1, hs2, rfl, rfl⟩ ih2
      unfold Header_plan_112
      by_cases z : 19 ≤ s
      · have es : s = 19 := by omega
        subst es
        simp (disch := omega) only [Tt_C, Tt_S, i_0, i_1, i_2, i_3, i_4, i_5, i_6, i_7, i_8, i_9, i_10, i_11, i_13, i_14, i_15, i_16, i_17, i_18, i_19, i_24, i_29, i_30, i_31, i_32, i_138, i_143, i_144, i_254, i_255, i_256, i_257, i_258, i_261, i_264, i_265, i_279, i_280, i_284, i_285, i_286, i_288, i_319, i_320, i_338, i_339, i_575, i_576, i_599, i_600, i_4096, i_8191, i_8192, i_8249, i_8250, i_8256, i_9000, i_16384, i_32767, i_32768, i_65520, i_65521, i_65535, i_65536, i_65999, i_66000, i_1300, i_120, i_156, nI_leI]
        rw [if_pos z]
        refine ⟨?_, hCT', g2, g3, by rw [e], hF', hA⟩
        rw [e, pBe]
        congr 1
        omega
      · have yr := y_rex s (by omega)
        have cs := hCT'.2.2.1 s (by omega)
        simp (disch := omega) only [Tt_L, Tt_S, Tt_C, Tt_Z, Tt_R0, Tt_R1, Tt_R2, Tt_R3, Tt_R4, Tt_R5, q10, eq_self, Nat.not_lt_zero, if_true, if_false, i_0, i_1, i_2, i_3, i_4, i_5, i_6, i_7, i_8, i_9, i_10, i_11, i_13, i_14, i_15, i_16, i_17, i_18, i_19, i_24, i_29, i_30, i_31, i_32, i_138, i_143, i_144, i_254, i_255, i_256, i_257, i_258, i_261, i_264, i_265, i_279, i_280, i_284, i_285, i_286, i_288, i_319, i_320, i_338, i_339, i_575, i_576, i_599, i_600, i_4096, i_8191, i_8192, i_8249, i_8250, i_8256, i_9000, i_16384, i_32767, i_32768, i_65520, i_65521, i_65535, i_65536, i_65999, i_66000, i_1300, i_120, i_156, nI_leI, Tt_N, nI_clamp, yr.1, cs, pk_mul, nI_add]
        rw [if_neg z]
        exact ⟨by omega, ih2 (19 - (s + 1)) _ _ _ _ _ _ _ _ _ _ _ _ _ _ _ _ _ _ _ (by omega) ⟨rfl, rfl, rfl, rfl, rfl, rfl, rfl, rfl, s + 1, rfl, by omega, by omega, rfl, congrArg nI (Nat.add_assoc _ _ _)⟩⟩
    · have z16 : sm (fun s => cn L.2.1 s L.1 * rex s) 16 = 0 := sm_0 (fun i hi => by show cn L.2.1 i L.1 * rex i = 0; rw [rex_0 hi, Nat.mul_zero])
      rw [z16]
      rfl
  unfold Header_plan_45
  by_cases z : k ≤ 4
  · simp (disch := omega) only [Tt_C, Tt_S, i_0, i_1, i_2, i_3, i_4, i_5, i_6, i_7, i_8, i_9, i_10, i_11, i_13, i_14, i_15, i_16, i_17, i_18, i_19, i_24, i_29, i_30, i_31, i_32, i_138, i_143, i_144, i_254, i_255, i_256, i_257, i_258, i_261, i_264, i_265, i_279, i_280, i_284, i_285, i_286, i_288, i_319, i_320, i_338, i_339, i_575, i_576, i_599, i_600, i_4096, i_8191, i_8192, i_8249, i_8250, i_8256, i_9000, i_16384, i_32767, i_32768, i_65520, i_65521, i_65535, i_65536, i_65999, i_66000, i_1300, i_120, i_156, nI_leI]
    rw [if_pos z]
    apply out
    have : k = 4 := by omega
    rw [hcl, this]
    rfl
  · obtain ⟨d, rfl⟩ : ∃ d, k = d + 1 := ⟨k - 1, by omega⟩
    have yo := y_ord d (by omega)
    have e1 : nI (d + 1) - nI 1 = nI d := nI_pred d
    have g := @t_lengthOf 19 (ord d) a9 f (nI (ord d)) (by omega) hF' yo.2.2 rfl
    have f7 := hF7 (ord d)
    have cd : cln f (d + 1) = if d + 1 ≤ 4 then d + 1 else if f (ord d) = 0 then cln f d else d + 1 := rfl
    rw [if_neg z] at cd
    simp (disch := omega) only [Tt_L, Tt_S, Tt_C, Tt_Z, Tt_R0, Tt_R1, Tt_R2, Tt_R3, Tt_R4, Tt_R5, q10, eq_self, Nat.not_lt_zero, if_true, if_false, i_0, i_1, i_2, i_3, i_4, i_5, i_6, i_7, i_8, i_9, i_10, i_11, i_13, i_14, i_15, i_16, i_17, i_18, i_19, i_24, i_29, i_30, i_31, i_32, i_138, i_143, i_144, i_254, i_255, i_256, i_257, i_258, i_261, i_264, i_265, i_279, i_280, i_284, i_285, i_286, i_288, i_319, i_320, i_338, i_339, i_575, i_576, i_599, i_600, i_4096, i_8191, i_8192, i_8249, i_8250, i_8256, i_9000, i_16384, i_32767, i_32768, i_65520, i_65521, i_65535, i_65536, i_65999, i_66000, i_1300, i_120, i_156, nI_leI, e1, Tt_N, nI_clamp, yo.1, g, nI_eq]
    rw [if_neg z]
    refine ⟨by omega, ?_⟩
    by_cases y : f (ord d) = 0
    · rw [if_pos y]
      rw [if_pos y] at cd
      exact ih d _ _ _ _ _ _ _ _ _ _ _ _ _ _ _ _ _ (by omega) ⟨rfl, rfl, rfl, rfl, rfl, rfl, rfl, d, rfl, by omega, by omega, rfl, by rw [hcl, cd]⟩
    · rw [if_neg y]
      rw [if_neg y] at cd
      exact out (by rw [hcl, cd])
/-! one part, packed by the program -/
theorem cn_pos {g : Nat → Nat} {t : Nat} : ∀ {T : Nat}, t < T → 0 < cn g (g t) T := by
  intro T h
  have a := @cn_mono g (g t) (t + 1) T h
  rw [cn_s] at a
  omega
def cSf (b : Nat → Nat) (beg fin T s : Nat) : Nat := cn (sOf b beg fin) s T + (if s = 256 then 1 else 0)
def cDf (b : Nat → Nat) (beg fin T d : Nat) : Nat := cn (dOf b beg fin) d T
def fSf (b : Nat → Nat) (beg fin T : Nat) : Nat → Nat := fitL (cSf b beg fin T) 286 15
def fDf (b : Nat → Nat) (beg fin T : Nat) : Nat → Nat := fitL (cDf b beg fin T) 30 15
def lM (b : Nat → Nat) (beg fin T i : Nat) : Nat := if i < 288 then fSf b beg fin T i else fDf b beg fin T (i - 288)
def lF (i : Nat) : Nat := if i < 144 then 8 else if i < 256 then 9 else if i < 280 then 7 else if i < 288 then 8 else 5
theorem lF_b (i : Nat) : 5 ≤ lF i ∧ lF i ≤ 9 := by
  unfold lF
  split
  · omega
  · split
    · omega
    · split
      · omega
      · split <;> omega
theorem fSf_b (b : Nat → Nat) (beg fin T i : Nat) : fSf b beg fin T i ≤ 15 := fitL_hi (by omega) (by decide)
theorem fDf_b (b : Nat → Nat) (beg fin T i : Nat) : fDf b beg fin T i ≤ 15 := fitL_hi (by omega) (by decide)
theorem lM_b (b : Nat → Nat) (beg fin T i : Nat) : lM b beg fin T i ≤ 15 := by
  unfold lM
  split
  · exact fSf_b _ _ _ _ _
  · exact fDf_b _ _ _ _ _
theorem lM_S {b : Nat → Nat} {beg fin T i : Nat} (h : i < 288) : lM b beg fin T i = fSf b beg fin T i := if_pos h
theorem lM_D {b : Nat → Nat} {beg fin T d : Nat} : lM b beg fin T (288 + d) = fDf b beg fin T d := by
  unfold lM
  rw [if_neg (by omega), show 288 + d - 288 = d by omega]
theorem lM_u {b : Nat → Nat} {n beg fin T : Nat} (hb : ∀ i, b i < 256) (hn : n ≤ 8192) (hfn : fin ≤ n) (hpt : ∀ t, t < T → pos b beg fin t < fin) : usdT b beg fin T (lM b beg fin T) := by
  refine ⟨?_, fun t ht => ?_⟩
  · rw [lM_S (by omega)]
    refine fitL_lo (by omega) (by decide) (by omega) ?_
    show 0 < cn (sOf b beg fin) 256 T + (if 256 = 256 then 1 else 0)
    rw [if_pos rfl]
    omega
  · have tb := @tok_b b beg fin n t hb (hpt t ht) hfn
    have cp := @cn_pos (sOf b beg fin) t T ht
    have cq := @cn_pos (dOf b beg fin) t T ht
    rcases tb with tb | tb
    · have e2 : sOf b beg fin t = tV b beg fin t := if_pos tb.1
      rw [e2] at cp ⊢
      refine ⟨?_, fun q => absurd tb.1 q⟩
      rw [lM_S (by omega)]
      refine fitL_lo (by omega) (by decide) (by omega) ?_
      show 0 < cn (sOf b beg fin) (tV b beg fin t) T + _
      omega
    · have n0 : ¬ (tL b beg fin t = 0) := by omega
      have e2 : sOf b beg fin t = lsym (tL b beg fin t) := if_neg n0
      have e3 : dOf b beg fin t = dsym (tV b beg fin t) := if_neg n0
      have ylb := y_lsymB (tL b beg fin t) (by omega)
      have yd := @y_drest (tV b beg fin t) (by omega) (by omega)
      rw [e2] at cp ⊢
      rw [e3] at cq
      refine ⟨?_, fun _ => ?_⟩
      · rw [lM_S (by omega)]
        refine fitL_lo (by omega) (by decide) (by omega) ?_
        show 0 < cn (sOf b beg fin) (lsym (tL b beg fin t)) T + _
        omega
      · rw [lM_D]
        exact fitL_lo (by omega) (by decide) (by omega) cq
theorem lF_u {b : Nat → Nat} {beg fin T : Nat} : usdT b beg fin T lF := by
  refine ⟨?_, fun t ht => ⟨?_, fun _ => ?_⟩⟩
  · have := lF_b 256; omega
  · have := lF_b (sOf b beg fin t); omega
  · have := lF_b (288 + dsym (tV b beg fin t)); omega
theorem lM_cS {b : Nat → Nat} {beg fin T s : Nat} (hs : s < 286) : cAll (lM b beg fin T) s = rv (cde (fSf b beg fin T) 286 s) (fSf b beg fin T s) := by
  unfold cAll
  rw [if_pos (by omega), lM_S (by omega), cde_ext (f := fSf b beg fin T) (n := 286) (by omega) (fun i hi => (lM_S (by omega)).symm) (fun i h1 h2 => by rw [lM_S h2]; exact fitL_0 (by omega) (by decide) h1) hs]
theorem lM_cD {b : Nat → Nat} {beg fin T d : Nat} (hd : d < 30) : cAll (lM b beg fin T) (288 + d) = rv (cde (fDf b beg fin T) 30 d) (fDf b beg fin T d) := by
  unfold cAll
  rw [if_neg (by omega), lM_D, show 288 + d - 288 = d by omega, cde_ext (f := fDf b beg fin T) (n := 30) (by omega) (fun i hi => lM_D.symm) (fun i h1 h2 => by rw [lM_D]; exact fitL_0 (by omega) (by decide) h1) hd]
/-- bytes written as they are -/
def sto (b : Nat → Nat) (beg : Nat) (W : WS) : Nat → WS
  | 0 => W
  | i + 1 => app (sto b beg W i) (b (beg + i)) 8
def alg (W : WS) : WS := (W.1 + (8 - W.1 % 8) % 8, W.2)
def stW (b : Nat → Nat) (beg fin : Nat) (W : WS) : WS := sto b beg (app (app (alg W) (fin - beg) 16) (65535 - (fin - beg)) 16) (fin - beg)
def tkW (b : Nat → Nat) (beg fin T : Nat) (l : Nat → Nat) (W : WS) : WS := app (tws b beg fin l (cAll l) W T) (cAll l 256) (l 256)
def szS (W : WS) (beg fin : Nat) : Nat := (8 - (W.1 + 3) % 8) % 8 + 32 + 8 * (fin - beg)
def szM (b : Nat → Nat) (beg fin T : Nat) : Nat := 14 + 3 * cln (pF (fSf b beg fin T) (fDf b beg fin T)) 19 + pB (fSf b beg fin T) (fDf b beg fin T) + bitN b beg fin T (lM b beg fin T)
/-- one part -/
def pkW (b : Nat → Nat) (n beg fin T : Nat) (W : WS) : WS := if szS W beg fin ≤ bitN b beg fin T lF ∧ szS W beg fin ≤ szM b beg fin T then stW b beg fin (app (app W (if fin = n then 1 else 0) 1) 0 2) else if bitN b beg fin T lF ≤ szM b beg fin T then tkW b beg fin T lF (app (app W (if fin = n then 1 else 0) 1) 1 2) else tkW b beg fin T (lM b beg fin T) (hdr (pH (fSf b beg fin T)) (pD (fDf b beg fin T)) (pF (fSf b beg fin T) (fDf b beg fin T)) (pL (fSf b beg fin T) (fDf b beg fin T)) (app (app W (if fin = n then 1 else 0) 1) 2 2))
theorem t_storedC {c out : Nat → Int32} {b : Nat → Nat} {n beg fin : Nat} {len op oc x1 x2 : Int32} {W : WS} (h : Row c 0 n b) (hn : n ≤ 8192) (hfn : fin ≤ n) (hbe : beg ≤ fin) (h1 : x1 = nI beg) (h2 : x2 = nI fin) (hW : ClsW len op oc out W.1 W.2) : Tt (Packer_writeStored 200000 8192 (nI n) c len op oc out x1 x2) (fun u => ClsW u.2.1 u.2.2.1 u.2.2.2.1 u.2.2.2.2 (stW b beg fin W).1 (stW b beg fin W).2) := by
  subst h1 h2
  unfold Packer_writeStored
  simp (disch := omega) only [Tt_L, Tt_R4, i_0, i_1, i_2, i_3, i_4, i_5, i_6, i_7, i_8, i_9, i_10, i_11, i_13, i_14, i_15, i_16, i_17, i_18, i_19, i_24, i_29, i_30, i_31, i_32, i_138, i_143, i_144, i_254, i_255, i_256, i_257, i_258, i_261, i_264, i_265, i_279, i_280, i_284, i_285, i_286, i_288, i_319, i_320, i_338, i_339, i_575, i_576, i_599, i_600, i_4096, i_8191, i_8192, i_8249, i_8250, i_8256, i_9000, i_16384, i_32767, i_32768, i_65520, i_65521, i_65535, i_65536, i_65999, i_66000, i_1300, i_120, i_156, pk_sub]
  refine Tt_m (t_align hW) ?_
  rintro ⟨_, a1, a2, a3, a4⟩ hW1
  dsimp only at hW1 ⊢
  refine Tt_m (t_number hW1 (k := 16) (v := fin - beg) (by omega) (by omega) rfl rfl) ?_
  rintro ⟨_, a1, a2, a3, a4⟩ hW2
  dsimp only at hW2 ⊢
  refine Tt_m (t_number hW2 (k := 16) (v := 65535 - (fin - beg)) (by omega) (by omega) rfl rfl) ?_
  rintro ⟨_, a1, a2, a3, a4⟩ hW3
  dsimp only at hW3 ⊢
  have hW4 : ClsW a1 a2 a3 a4 (app (app (alg W) (fin - beg) 16) (65535 - (fin - beg)) 16).1 (app (app (alg W) (fin - beg) 16) (65535 - (fin - beg)) 16).2 := hW3
  unfold stW
  generalize app (app (alg W) (fin - beg) 16) (65535 - (fin - beg)) 16 = W4 at *
  refine Tt_W5 (fun mm len op oc out x4 => ∃ i, x4 = nI (beg + i) ∧ i ≤ fin - beg ∧ mm = fin - beg - i ∧ ClsW len op oc out (sto b beg W4 i).1 (sto b beg W4 i).2) ?_ 200000 (fin - beg) _ _ _ _ _ (by omega) ⟨0, rfl, by omega, rfl, hW4⟩
  rintro K mm len op oc out x4 ⟨i, rfl, hi, rfl, hC⟩ ih
  unfold Packer_writeStored_37
  by_cases z : fin ≤ beg + i
  · simp (disch := omega) only [Tt_C, Tt_S, nI_leI]
    rw [if_pos z, show fin - beg = i by omega]
    first | exact hC | exact Tt_Si hC
  · have g0 := @e_at 200000 8192 n (beg + i) c b (nI (beg + i)) (nI n) h hn (by omega) (by omega) rfl rfl
    have z0 : bz b n (beg + i) = b (beg + i) := if_pos (by omega)
    rw [z0] at g0
    have b0 := h.2 (beg + i)
    simp (disch := omega) only [Tt_L, Tt_S, Tt_C, Tt_Z, Tt_R0, Tt_R1, Tt_R2, Tt_R3, Tt_R4, Tt_R5, q10, eq_self, Nat.not_lt_zero, if_true, if_false, i_0, i_1, i_2, i_3, i_4, i_5, i_6, i_7, i_8, i_9, i_10, i_11, i_13, i_14, i_15, i_16, i_17, i_18, i_19, i_24, i_29, i_30, i_31, i_32, i_138, i_143, i_144, i_254, i_255, i_256, i_257, i_258, i_261, i_264, i_265, i_279, i_280, i_284, i_285, i_286, i_288, i_319, i_320, i_338, i_339, i_575, i_576, i_599, i_600, i_4096, i_8191, i_8192, i_8249, i_8250, i_8256, i_9000, i_16384, i_32767, i_32768, i_65520, i_65521, i_65535, i_65536, i_65999, i_66000, i_1300, i_120, i_156, nI_leI, g0, nI_add]
    rw [if_neg z]
    refine Tt_m (t_number hC (k := 8) (v := b (beg + i)) (by omega) (by omega) rfl rfl) ?_
    rintro ⟨_, a1, a2, a3, a4⟩ hC2
    exact ih (fin - beg - (i + 1)) _ _ _ _ _ (by omega) ⟨i + 1, rfl, by omega, rfl, hC2⟩
/-- the fixed codes, as the program has them -/
def FixC (fs fc fd fdc : Nat → Int32) : Prop := (∀ s, s < 288 → fs s = nI (lF s) ∧ fc s = nI (cAll lF s)) ∧ ∀ d, d < 32 → fd d = nI (lF (288 + d)) ∧ fdc d = nI (cAll lF (288 + d))
theorem cAll_lt (l : Nat → Nat) (s : Nat) : cAll l s < 2 ^ l s := by
  unfold cAll
  split <;> exact rv_lt _ _
theorem t_bitsWith {N1 N2 : Nat} {ex : Int32} {l1 sc l2 dc : Nat → Int32} {b l : Nat → Nat} {n beg fin T : Nat} (hb : ∀ i, b i < 256) (hn : n ≤ 8192) (hfn : fin ≤ n) (hpt : ∀ t, t < T → pos b beg fin t < fin) (hN1 : 286 ≤ N1) (hN1' : N1 ≤ 288) (hN2 : 30 ≤ N2) (hN2' : N2 ≤ 32) (hl1 : ∀ s, s < N1 → l1 s = nI (l s)) (hl2 : ∀ d, d < N2 → l2 d = nI (l (288 + d))) (hsc : ∀ s, s < 286 → sc s = nI (cn (sOf b beg fin) s T + (if s = 256 then 1 else 0))) (hdc : ∀ d, d < 30 → dc d = nI (cn (dOf b beg fin) d T)) (hex : ex = nI (sm (xOf b beg fin) T)) : Tt (Packer_bitsWith 200000 N1 N2 ex l1 sc l2 dc) (fun u => u.1 = nI (bitN b beg fin T l)) := by
  subst hex
  unfold Packer_bitsWith
  rw [Tt_R0]
  refine Tt_m (t_bitsFor (by omega) (by omega) hl1 hsc) ?_
  rintro ⟨r1, _⟩ h1
  have h1' : r1 = nI (sm (fun s => l s * (cn (sOf b beg fin) s T + (if s = 256 then 1 else 0))) (min N1 286)) := h1
  rw [Tt_R0]
  refine Tt_m (t_bitsFor (f := fun d => l (288 + d)) (by omega) (by omega) hl2 hdc) ?_
  rintro ⟨r2, _⟩ h2
  have h2' : r2 = nI (sm (fun d => l (288 + d) * cn (dOf b beg fin) d T) (min N2 30)) := h2
  rw [show min N1 286 = 286 by omega] at h1'
  rw [show min N2 30 = 30 by omega] at h2'
  subst h1' h2'
  rw [Tt_S]
  show nI _ + nI _ + nI _ = _
  rw [nI_add, nI_add, bits_eq (l := l) hb hn hfn hpt]
/-! one part, packed by the program -/
theorem rex_7 (w : Nat) : rex w ≤ 7 := by
  unfold rex
  split
  · omega
  · split
    · omega
    · split <;> omega
theorem sm_bd {f : Nat → Nat} {B : Nat} : ∀ {n : Nat}, (∀ i, i < n → f i ≤ B) → sm f n ≤ B * n := by
  intro n
  induction n with
  | zero => intro _; exact Nat.zero_le _
  | succ n ih =>
    intro h
    have i1 := ih (fun i hi => h i (by omega))
    have i2 := h n (by omega)
    show sm f n + f n ≤ B * (n + 1)
    rw [Nat.mul_add]
    omega
theorem pB_b (fS fD : Nat → Nat) : pB fS fD ≤ 4480 := by
  have l := told_n (rowF fS fD (pH fS)) (pH fS + pD fD)
  have h1 := pH_b fS
  have h2 := pD_b fD
  have l' : (pL fS fD).1 ≤ pH fS + pD fD := l
  have : pB fS fD ≤ 14 * (pL fS fD).1 := sm_bd (fun i _ => by
    have a1 : pF fS fD ((pL fS fD).2.1 i) ≤ 7 := fitL_hi (by omega) (by decide)
    have a2 := rex_7 ((pL fS fD).2.1 i)
    omega)
  omega
theorem szM_b {b : Nat → Nat} {n beg fin T : Nat} (hb : ∀ i, b i < 256) (hn : n ≤ 8192) (hfn : fin ≤ n) (hT : T ≤ 4096) (hpt : ∀ t, t < T → pos b beg fin t < fin) : szM b beg fin T ≤ 201174 ∧ bitN b beg fin T lF ≤ 196623 ∧ bitN b beg fin T (lM b beg fin T) ≤ 196623 := by
  have p := pB_b (fSf b beg fin T) (fDf b beg fin T)
  have c := (cln_b (pF (fSf b beg fin T) (fDf b beg fin T)) 19).1
  have b1 := @bitN_b b n beg fin T lF hb hn hfn hpt (fun i _ => by have := lF_b i; omega) T (Nat.le_refl T)
  have b2 := @bitN_b b n beg fin T (lM b beg fin T) hb hn hfn hpt (fun i _ => lM_b _ _ _ _ i) T (Nat.le_refl T)
  unfold szM
  omega
theorem t_part143 {c fs fd fc fdc : Nat → Int32} {tc ex many ol oo ooc hrl htc hsl hdl hcl : Int32} {sc dc toks msl lc ls ib it mdl msn msc mdn mdc hrow hcs htd hcle hnx hco od : Nat → Int32} {pr : Nat → Nat → Int32} {x1 x2 x3 x4 x5 s1 : Int32} {b : Nat → Nat} {n beg fin T : Nat} {W : WS} (h : Row c 0 n b) (hn : n ≤ 8192) (hfn : fin ≤ n) (hbe : beg ≤ fin) (hl : fin - beg ≤ 4096) (hT : T ≤ 4096) (hpt : ∀ t, t < T → pos b beg fin t < fin) (hF : FixC fs fc fd fdc) (htc0 : tc = nI T) (htk : ∀ t, t < T → toks t = nI (vOf b beg fin t)) (hms : ∀ s, s < 286 → msl s = nI (fSf b beg fin T s)) (hmd : ∀ d, d < 30 → mdl d = nI (fDf b beg fin T d)) (hmsc : ∀ s, s < 286 → 0 < fSf b beg fin T s → msc s = nI (rv (cde (fSf b beg fin T) 286 s) (fSf b beg fin T s))) (hmdc : ∀ d, d < 30 → 0 < fDf b beg fin T d → mdc d = nI (rv (cde (fDf b beg fin T) 30 d) (fDf b beg fin T d))) (hCT : CT htc htd hcs (pL (fSf b beg fin T) (fDf b beg fin T))) (hhs : hsl = nI (pH (fSf b beg fin T))) (hhd : hdl = nI (pD (fDf b beg fin T))) (hhc : hcl = nI (cln (pF (fSf b beg fin T) (fDf b beg fin T)) 19)) (hcl' : ∀ s, s < 19 → hcle s = nI (pF (fSf b beg fin T) (fDf b beg fin T) s)) (hco' : ∀ s, s < 19 → 0 < pF (fSf b beg fin T) (fDf b beg fin T) s → hco s = nI (rv (cde (pF (fSf b beg fin T) (fDf b beg fin T)) 19 s) (pF (fSf b beg fin T) (fDf b beg fin T) s))) (e1 : x1 = nI beg) (e2 : x2 = nI fin) (e3 : x3 = nI (szS W beg fin)) (e4 : x4 = nI (bitN b beg fin T lF)) (e5 : x5 = nI (szM b beg fin T)) (es : s1 = nI (if fin = n then 1 else 0)) (hW : ClsW ol oo ooc od W.1 W.2) : Tt (Packer_packPart_143 200000 8192 286 30 286 30 288 32 19 19 288 32 (nI n) c fs fd fc fdc x1 x2 tc ex sc dc toks msl many lc ls ib it pr mdl msn msc mdn mdc ol oo ooc hrl htc hsl hdl hcl hrow hcs htd hcle hnx hco od x3 x4 x5 s1) (fun (_, _, _, _, _, _, _, _, _, _, _, _, _, _, _, _, _, _, ol, oo, ooc, _, _, _, _, _, _, _, _, _, _, _, od) => ClsW ol oo ooc od (pkW b n beg fin T W).1 (pkW b n beg fin T W).2) := by
  subst e3 e4 e5 es
  obtain ⟨sz1, sz2, sz3⟩ := szM_b h.2 hn hfn hT hpt
  have sS : szS W beg fin ≤ 40000 := by unfold szS; omega
  have bit1 : (if fin = n then 1 else 0) < 2 ^ 1 := by split <;> omega
  unfold Packer_packPart_143
  rw [Tt_R4]
  refine Tt_m (t_number hW (k := 1) (by omega) bit1 rfl rfl) ?_
  rintro ⟨_, a1, a2, a3, a4⟩ hW1
  dsimp only at hW1 ⊢
  have hW1' : ClsW a1 a2 a3 a4 (app W (if fin = n then 1 else 0) 1).1 (app W (if fin = n then 1 else 0) 1).2 := hW1
  have em : (if nI (szM b beg fin T) < nI (bitN b beg fin T lF) then nI (szM b beg fin T) else nI (bitN b beg fin T lF)) = nI (min (szM b beg fin T) (bitN b beg fin T lF)) := by
    by_cases z : szM b beg fin T < bitN b beg fin T lF
    · rw [if_pos (by rw [nI_ltI (by omega) (by omega)]; exact z)]; exact congrArg nI (by omega)
    · rw [if_neg (by rw [nI_ltI (by omega) (by omega)]; exact z)]; exact congrArg nI (by omega)
  rw [em]
  simp (disch := omega) only [Tt_C, Tt_S, nI_ltI]
  by_cases z : min (szM b beg fin T) (bitN b beg fin T lF) < szS W beg fin
  · have hz : ¬ (szS W beg fin ≤ bitN b beg fin T lF ∧ szS W beg fin ≤ szM b beg fin T) := by omega
    rw [if_pos z]
    by_cases y : szM b beg fin T < bitN b beg fin T lF
    · have eW : pkW b n beg fin T W = tkW b beg fin T (lM b beg fin T) (hdr (pH (fSf b beg fin T)) (pD (fDf b beg fin T)) (pF (fSf b beg fin T) (fDf b beg fin T)) (pL (fSf b beg fin T) (fDf b beg fin T)) (app (app W (if fin = n then 1 else 0) 1) 2 2)) := by
        unfold pkW
        rw [if_neg hz, if_neg (show ¬ bitN b beg fin T lF ≤ szM b beg fin T by omega)]
      rw [if_pos y, eW, Tt_R4]
      generalize app W (if fin = n then 1 else 0) 1 = W1 at *
      refine Tt_m (t_number hW1' (k := 2) (v := 2) (by omega) (by omega) rfl rfl) ?_
      rintro ⟨_, a1, a2, a3, a4⟩ hW2
      dsimp only at hW2 ⊢
      have bH := pH_b (fSf b beg fin T)
      have bD := pD_b (fDf b beg fin T)
      have ln : (pL (fSf b beg fin T) (fDf b beg fin T)).1 ≤ pH (fSf b beg fin T) + pD (fDf b beg fin T) := told_n _ _
      rw [Tt_R4]
      refine Tt_m (t_writeHdC (W := app W1 2 2) bH.1 bH.2 bD.1 bD.2 hhs hhd hhc hcl' (fun i hi => fitL_hi (by omega) (by decide)) hco' hCT.1 (by omega) hCT.2.1 hCT.2.2.2 (fun t ht => ?_) hW2) ?_
      · exact fitL_lo (by omega) (by decide) (hCT.2.2.2 t ht).1 (cn_pos ht)
      · rintro ⟨_, a1, a2, a3, a4⟩ hW3
        dsimp only at hW3 ⊢
        rw [Tt_R4]
        refine Tt_m (t_writeTokC (N1 := 286) (N2 := 30) (l := lM b beg fin T) (c := cAll (lM b beg fin T)) h.2 hn hfn hT hpt htc0 htk (by omega) (by omega) (by omega) (by omega) (fun s hs => ⟨by rw [lM_S (by omega)]; exact hms s hs, lM_b _ _ _ _ s⟩) (fun d hd => ⟨by rw [lM_D]; exact hmd d hd, lM_b _ _ _ _ _⟩) (fun s hs h0 => ⟨?_, cAll_lt _ _⟩) (fun d hd h0 => ⟨?_, cAll_lt _ _⟩) (lM_u h.2 hn hfn hpt) hW3) ?_
        · rw [lM_cS hs]
          rw [lM_S (by omega)] at h0
          exact hmsc s hs h0
        · rw [lM_cD hd]
          rw [lM_D] at h0
          exact hmdc d hd h0
        · rintro ⟨_, a1, a2, a3, a4⟩ hW4
          first | exact hW4 | exact Tt_Si hW4
    · have eW : pkW b n beg fin T W = tkW b beg fin T lF (app (app W (if fin = n then 1 else 0) 1) 1 2) := by
        unfold pkW
        rw [if_neg hz, if_pos (show bitN b beg fin T lF ≤ szM b beg fin T by omega)]
      rw [if_neg y, eW, Tt_R4]
      generalize app W (if fin = n then 1 else 0) 1 = W1 at *
      refine Tt_m (t_number hW1' (k := 2) (v := 1) (by omega) (by omega) rfl rfl) ?_
      rintro ⟨_, a1, a2, a3, a4⟩ hW2
      dsimp only at hW2 ⊢
      rw [Tt_R4]
      refine Tt_m (t_writeTokC (N1 := 288) (N2 := 32) (l := lF) (c := cAll lF) (W := app W1 1 2) h.2 hn hfn hT hpt htc0 htk (by omega) (by omega) (by omega) (by omega) (fun s hs => ⟨(hF.1 s (by omega)).1, by have := lF_b s; omega⟩) (fun d hd => ⟨(hF.2 d (by omega)).1, by have := lF_b (288 + d); omega⟩) (fun s hs _ => ⟨(hF.1 s (by omega)).2, cAll_lt _ _⟩) (fun d hd _ => ⟨(hF.2 d (by omega)).2, cAll_lt _ _⟩) lF_u hW2) ?_
      rintro ⟨_, a1, a2, a3, a4⟩ hW4
      first | exact hW4 | exact Tt_Si hW4
  · have eW : pkW b n beg fin T W = stW b beg fin (app (app W (if fin = n then 1 else 0) 1) 0 2) := by
      unfold pkW
      rw [if_pos (show szS W beg fin ≤ bitN b beg fin T lF ∧ szS W beg fin ≤ szM b beg fin T by omega)]
    rw [if_neg z, eW, Tt_R4]
    generalize app W (if fin = n then 1 else 0) 1 = W1 at *
    refine Tt_m (t_number hW1' (k := 2) (v := 0) (by omega) (by omega) rfl rfl) ?_
    rintro ⟨_, a1, a2, a3, a4⟩ hW2
    dsimp only at hW2 ⊢
    rw [Tt_R4]
    refine Tt_m (t_storedC (W := app W1 0 2) h hn hfn hbe e1 e2 hW2) ?_
    rintro ⟨_, a1, a2, a3, a4⟩ hW4
    first | exact hW4 | exact Tt_Si hW4
/-- one part, packed by the program -/
theorem t_partC {before c fs fd fc fdc : Nat → Int32} {tc ex many ol oo ooc hrl htc hsl hdl hcl : Int32} {sc dc toks msl lc ls ib it mdl msn msc mdn mdc hrow hcs htd hcle hnx hco od : Nat → Int32} {pr : Nat → Nat → Int32} {x1 x2 : Int32} {b : Nat → Nat} {n beg fin : Nat} {W : WS} (h : Row c 0 n b) (hn : n ≤ 8192) (hB : ∀ p, p < n → before p = nI (lb (hf b n) p (hf b n p))) (hfn : fin ≤ n) (hbe : beg ≤ fin) (hl : fin - beg ≤ 4096) (hF : FixC fs fc fd fdc) (e1 : x1 = nI beg) (e2 : x2 = nI fin) (hW : ClsW ol oo ooc od W.1 W.2) : Tt (Packer_packPart 200000 8192 286 30 286 30 288 32 19 19 288 32 before (nI n) c fs fd fc fdc tc ex sc dc toks msl many lc ls ib it pr mdl msn msc mdn mdc ol oo ooc hrl htc hsl hdl hcl hrow hcs htd hcle hnx hco od x1 x2) (fun (_, _, _, _, _, _, _, _, _, _, _, _, _, _, _, _, _, _, ol, oo, ooc, _, _, _, _, _, _, _, _, _, _, _, od) => ∃ T, T ≤ fin - beg ∧ isT b beg fin T ∧ ClsW ol oo ooc od (pkW b n beg fin T W).1 (pkW b n beg fin T W).2) := by
  unfold Packer_packPart
  rw [Tt_R5]
  refine Tt_m (t_collect h hn hB hfn hbe hl e1 e2) ?_
  rintro ⟨_, tc1, ex1, sc1, dc1, tk1⟩ ⟨T, hT, hisT, g1, g2, g3, g4, g5⟩
  dsimp only at g1 g2 g3 g4 g5 ⊢
  have hT' : T ≤ 4096 := by omega
  have cl1 : ∀ i, cSf b beg fin T i ≤ 8192 := fun i => by
    have := cn_le (sOf b beg fin) i T
    unfold cSf
    split <;> omega
  have cl2 : ∀ i, cDf b beg fin T i ≤ 8192 := fun i => by
    have := cn_le (dOf b beg fin) i T
    unfold cDf
    omega
  rw [Tt_R7]
  refine Tt_m (t_fit (n := 286) (K := 15) (c := cSf b beg fin T) (by omega) g3 cl1 (by omega) (by omega) (by decide) rfl) ?_
  rintro ⟨_, msl1, many1, lc1, ls1, ib1, it1, pr1⟩ hms
  dsimp only at hms ⊢
  rw [Tt_R7]
  refine Tt_m (t_fit (n := 30) (K := 15) (c := cDf b beg fin T) (by omega) g4 cl2 (by omega) (by omega) (by decide) rfl) ?_
  rintro ⟨_, mdl1, many2, lc2, ls2, ib2, it2, pr2⟩ hmd
  dsimp only at hmd ⊢
  rw [Tt_R2]
  refine Tt_m (t_assign (N := 286) (f := fSf b beg fin T) (by omega) hms (fun i _ => fSf_b _ _ _ _ i)) ?_
  rintro ⟨_, msn1, msc1⟩ hmsc
  dsimp only at hmsc ⊢
  rw [Tt_R2]
  refine Tt_m (t_assign (N := 30) (f := fDf b beg fin T) (by omega) hmd (fun i _ => fDf_b _ _ _ _ i)) ?_
  rintro ⟨_, mdn1, mdc1⟩ hmdc
  dsimp only at hmdc ⊢
  rw [Tt_R0]
  refine Tt_m (t_leftBehind hW (k := 3) (by omega) rfl) ?_
  rintro ⟨r3, _⟩ h3
  have h3' : r3 = nI ((8 - (W.1 + 3) % 8) % 8) := h3
  subst h3'
  rw [Tt_L, Tt_R0]
  refine Tt_m (t_bitsWith (N1 := 288) (N2 := 32) (l := lF) h.2 hn hfn hisT.2 (by omega) (by omega) (by omega) (by omega) (fun s hs => (hF.1 s hs).1) (fun d hd => (hF.2 d hd).1) g3 g4 g2) ?_
  rintro ⟨r4, _⟩ h4
  dsimp only at h4 ⊢
  rw [Tt_R17]
  refine Tt_m (t_plan (fS := fSf b beg fin T) (fD := fDf b beg fin T) hms (fun i _ => fSf_b _ _ _ _ i) hmd (fun i _ => fDf_b _ _ _ _ i)) ?_
  rintro ⟨r5, q1, q2, q3, q4, q5, q6, q7, q8, q9, q10, q11, q12, q13, q14, q15, q16, q17⟩ ⟨k1, k2, k3, k4, k5, k6, k7⟩
  dsimp only
  rw [Tt_R0]
  refine Tt_m (t_bitsWith (N1 := 286) (N2 := 30) (l := lM b beg fin T) h.2 hn hfn hisT.2 (by omega) (by omega) (by omega) (by omega) (fun s hs => by rw [lM_S (by omega)]; exact hms s hs) (fun d hd => by rw [lM_D]; exact hmd d hd) g3 g4 g2) ?_
  rintro ⟨r6, _⟩ h6
  dsimp only at h6 ⊢
  subst e1 e2 h4 h6 k1
  rw [pk_sub hbe]
  simp only [i_0, i_1, i_2, i_3, i_4, i_5, i_6, i_7, i_8, i_9, i_10, i_11, i_13, i_14, i_15, i_16, i_17, i_18, i_19, i_24, i_29, i_30, i_31, i_32, i_138, i_143, i_144, i_254, i_255, i_256, i_257, i_258, i_261, i_264, i_265, i_279, i_280, i_284, i_285, i_286, i_288, i_319, i_320, i_338, i_339, i_575, i_576, i_599, i_600, i_4096, i_8191, i_8192, i_8249, i_8250, i_8256, i_9000, i_16384, i_32767, i_32768, i_65520, i_65521, i_65535, i_65536, i_65999, i_66000, i_1300, i_120, i_156, pk_mul, nI_add]
  unfold Bytes_length
  simp (disch := omega) only [Tt_L, Tt_R0, Tt_S, Tt_C, nI_eq]
  by_cases z : fin = n
  · rw [if_pos z]
    refine Tt_m (t_part143 (W := W) (s1 := nI 1) h hn hfn hbe hl hT' hisT.2 hF g1 g5 hms hmd hmsc hmdc k2 k3 k4 k5 k6 k7 rfl rfl rfl rfl rfl (by rw [if_pos z]) hW) ?_
    rintro ⟨_, tc9, ex9, sc9, dc9, toks9, msl9, many9, lc9, ls9, ib9, it9, pr9, mdl9, msn9, msc9, mdn9, mdc9, ol9, oo9, ooc9, hrl9, htc9, hsl9, hdl9, hcl9, hrow9, hcs9, htd9, hcle9, hnx9, hco9, od9⟩ hu
    exact ⟨T, hT, hisT, hu⟩
  · rw [if_neg z]
    refine Tt_m (t_part143 (W := W) (s1 := nI 0) h hn hfn hbe hl hT' hisT.2 hF g1 g5 hms hmd hmsc hmdc k2 k3 k4 k5 k6 k7 rfl rfl rfl rfl rfl (by rw [if_neg z]) hW) ?_
    rintro ⟨_, tc9, ex9, sc9, dc9, toks9, msl9, many9, lc9, ls9, ib9, it9, pr9, mdl9, msn9, msc9, mdn9, mdc9, ol9, oo9, ooc9, hrl9, htc9, hsl9, hdl9, hcl9, hrow9, hcs9, htd9, hcle9, hnx9, hco9, od9⟩ hu
    exact ⟨T, hT, hisT, hu⟩
/-! one part, packed by the reference -/
theorem t_makeFixed {c : Nat → Int32} : Tt (M_makeFixed 200000 c) (fun u => ∀ i, i < 320 → u.2 i = nI (lF i)) := by
  unfold M_makeFixed
  generalize hz : (0 : Int32) = z0
  obtain ⟨E, hE⟩ : ∃ E, E = 320 := ⟨_, rfl⟩
  refine Tt_W2 (fun mm c x1 => ∃ k, x1 = nI k ∧ k ≤ E ∧ mm = E - k ∧ ∀ i, i < k → c i = nI (lF i)) ?_ 200000 E c z0 (by omega) ⟨0, hz.symm, by omega, rfl, fun i hi => by omega⟩
  rintro K mm c x1 ⟨k, rfl, hk, rfl, hc⟩ ih
  have next : ∀ v, v = lF k → k < 320 → Tt (K (upd c k (nI v)) (nI (k + 1))) (fun u => ∀ i, i < 320 → u.2 i = nI (lF i)) := by
    intro v hv hk'
    refine ih (E - (k + 1)) _ _ (by omega) ⟨k + 1, rfl, by omega, rfl, fun i hi => ?_⟩
    by_cases e : i = k
    · rw [e, pk_us, hv]
    · rw [pk_un e]; exact hc i (by omega)
  unfold M_makeFixed_2 M_makeFixed_63
  simp (disch := omega) only [Tt_L, Tt_S, Tt_C, Tt_Z, Tt_R0, Tt_R1, Tt_R2, Tt_R3, Tt_R4, Tt_R5, q10, eq_self, Nat.not_lt_zero, if_true, if_false, i_0, i_1, i_2, i_3, i_4, i_5, i_6, i_7, i_8, i_9, i_10, i_11, i_13, i_14, i_15, i_16, i_17, i_18, i_19, i_24, i_29, i_30, i_31, i_32, i_138, i_143, i_144, i_254, i_255, i_256, i_257, i_258, i_261, i_264, i_265, i_279, i_280, i_284, i_285, i_286, i_288, i_319, i_320, i_338, i_339, i_575, i_576, i_599, i_600, i_4096, i_8191, i_8192, i_8249, i_8250, i_8256, i_9000, i_16384, i_32767, i_32768, i_65520, i_65521, i_65535, i_65536, i_65999, i_66000, i_1300, i_120, i_156, nI_leI, Tt_N, nI_clamp, nI_add]
  by_cases z : 320 ≤ k
  · rw [if_pos z]
    intro i hi
    exact hc i (by omega)
  · rw [if_neg z]
    unfold lF at next
    by_cases y1 : 144 ≤ k
    · rw [if_pos y1]
      rw [if_neg (by omega)] at next
      by_cases y2 : 256 ≤ k
      · rw [if_pos y2]
        rw [if_neg (by omega)] at next
        by_cases y3 : 280 ≤ k
        · rw [if_pos y3]
          rw [if_neg (by omega)] at next
          by_cases y4 : 288 ≤ k
          · rw [if_pos y4]
            rw [if_neg (by omega)] at next
            exact ⟨by omega, next 5 rfl (by omega)⟩
          · rw [if_neg y4]
            rw [if_pos (by omega)] at next
            exact ⟨by omega, next 8 rfl (by omega)⟩
        · rw [if_neg y3]
          rw [if_pos (by omega)] at next
          exact ⟨by omega, next 7 rfl (by omega)⟩
      · rw [if_neg y2]
        rw [if_pos (by omega)] at next
        exact ⟨by omega, next 9 rfl (by omega)⟩
    · rw [if_neg y1]
      rw [if_pos (by omega)] at next
      exact ⟨by omega, next 8 rfl (by omega)⟩
/-- what the reference knows of a part when it has planned it -/
def MP (b : Nat → Nat) (beg fin T : Nat) (tok st : Int32) (tl tv len sp mo : Nat → Int32) : Prop := tok = nI T ∧ (∀ t, t < T → tl t = nI (tL b beg fin t) ∧ tv t = nI (tV b beg fin t)) ∧ (∀ i, i < 320 → len i = nI (lM b beg fin T i)) ∧ (∀ s, s < 19 → len (320 + s) = nI ((pF (fSf b beg fin T) (fDf b beg fin T)) s)) ∧ st = nI (pL (fSf b beg fin T) (fDf b beg fin T)).1 ∧ (∀ t, t < (pL (fSf b beg fin T) (fDf b beg fin T)).1 → sp t = nI ((pL (fSf b beg fin T) (fDf b beg fin T)).2.1 t) ∧ mo t = nI ((pL (fSf b beg fin T) (fDf b beg fin T)).2.2 t)) ∧ LgB (pL (fSf b beg fin T) (fDf b beg fin T))
theorem hds_n (f : Nat → Nat) (W : WS) : ∀ i, (hds f W i).1 = W.1 + 3 * i := by
  intro i
  induction i with
  | zero => rfl
  | succ i ih =>
    show (hds f W i).1 + 3 = _
    omega
theorem hss_n {f : Nat → Nat} {L : Lg} {W : WS} (hf : ∀ x, f x ≤ 7) : ∀ t, (hss f L W t).1 ≤ W.1 + 14 * t := by
  intro t
  induction t with
  | zero => exact Nat.le_refl _
  | succ t ih =>
    have a1 := hf (L.2.1 t)
    have a2 := rex_7 (L.2.1 t)
    show (hss f L W t).1 + f (L.2.1 t) + rex (L.2.1 t) ≤ _
    omega
theorem t_part391 {pb tok st : Int32} {tl tv cnt rk len we wb it lr sp mo fx pk co : Nat → Int32} {x6 x7 x8 x9 x10 : Int32} {b : Nat → Nat} {n beg fin T : Nat} {W : WS} (hb : ∀ i, b i < 256) (hn : n ≤ 8192) (hfn : fin ≤ n) (hT : T ≤ 4096) (hpt : ∀ t, t < T → pos b beg fin t < fin) (hM : MP b beg fin T tok st tl tv len sp mo) (hfx : ∀ i, i < 320 → fx i = nI (lF i)) (e6 : x6 = nI (pH (fSf b beg fin T))) (e7 : x7 = nI (pD (fDf b beg fin T))) (e8 : x8 = nI (cln (pF (fSf b beg fin T) (fDf b beg fin T)) 19)) (e9 : x9 = nI (3 + szM b beg fin T)) (e10 : x10 = nI (3 + bitN b beg fin T lF)) (hw : W.1 ≤ 290000) (hW : RefW pb pk W.1 W.2) : Tt (M_packPart_391 200000 pb tok st tl tv cnt rk len we wb it lr sp mo fx pk co x6 x7 x8 x9 x10) (fun (_, pb, _, _, _, _, _, _, _, _, _, _, _, _, _, _, pk, _) => RefW pb pk ((if bitN b beg fin T lF ≤ szM b beg fin T then tkW b beg fin T lF (app W 1 2) else tkW b beg fin T (lM b beg fin T) (hdr (pH (fSf b beg fin T)) (pD (fDf b beg fin T)) (pF (fSf b beg fin T) (fDf b beg fin T)) (pL (fSf b beg fin T) (fDf b beg fin T)) (app W 2 2)))).1 ((if bitN b beg fin T lF ≤ szM b beg fin T then tkW b beg fin T lF (app W 1 2) else tkW b beg fin T (lM b beg fin T) (hdr (pH (fSf b beg fin T)) (pD (fDf b beg fin T)) (pF (fSf b beg fin T) (fDf b beg fin T)) (pL (fSf b beg fin T) (fDf b beg fin T)) (app W 2 2)))).2) := by
  subst e6 e7 e8 e9 e10
  obtain ⟨sz1, sz2, sz3⟩ := szM_b hb hn hfn hT hpt
  obtain ⟨m1, m2, m3, m4, m5, m6, m7⟩ := hM
  have bH := pH_b (fSf b beg fin T)
  have bD := pD_b (fDf b beg fin T)
  have cb := cln_b (pF (fSf b beg fin T) (fDf b beg fin T)) 19
  have cb2 := cb.2 (by omega)
  have ln : (pL (fSf b beg fin T) (fDf b beg fin T)).1 ≤ pH (fSf b beg fin T) + pD (fDf b beg fin T) := told_n _ _
  have f7 : ∀ x, (pF (fSf b beg fin T) (fDf b beg fin T)) x ≤ 7 := fun x => fitL_hi (by omega) (by decide)
  have fU : ∀ t, t < (pL (fSf b beg fin T) (fDf b beg fin T)).1 → 0 < (pF (fSf b beg fin T) (fDf b beg fin T)) ((pL (fSf b beg fin T) (fDf b beg fin T)).2.1 t) := fun t ht => fitL_lo (by omega) (by decide) (m7 t ht).1 (cn_pos ht)
  have lMu := @lM_u b n beg fin T hb hn hfn hpt
  have lMb : ∀ i, i < 320 → lM b beg fin T i ≤ 15 := fun i _ => lM_b _ _ _ _ i
  generalize (pF (fSf b beg fin T) (fDf b beg fin T)) = f at *
  generalize (pL (fSf b beg fin T) (fDf b beg fin T)) = L at *
  generalize pH (fSf b beg fin T) = h at *
  generalize pD (fDf b beg fin T) = d at *
  generalize lM b beg fin T = l at *
  generalize szM b beg fin T = sM at *
  unfold M_packPart_391
  simp (disch := omega) only [Tt_C, Tt_S, nI_ltI]
  by_cases y : 3 + sM < 3 + bitN b beg fin T lF
  · rw [if_pos y, if_neg (by omega), Tt_R2]
    refine Tt_m (t_writeNumber hW (k := 2) (v := 2) (by omega) (by omega) (by omega) rfl rfl) ?_
    rintro ⟨_, a1, a2⟩ hW1
    dsimp only at hW1 ⊢
    rw [show 2 % 2 ^ 2 = 2 from rfl] at hW1
    simp (disch := omega) only [Tt_L, Tt_R2, i_0, i_1, i_2, i_3, i_4, i_5, i_6, i_7, i_8, i_9, i_10, i_11, i_13, i_14, i_15, i_16, i_17, i_18, i_19, i_24, i_29, i_30, i_31, i_32, i_138, i_143, i_144, i_254, i_255, i_256, i_257, i_258, i_261, i_264, i_265, i_279, i_280, i_284, i_285, i_286, i_288, i_319, i_320, i_338, i_339, i_575, i_576, i_599, i_600, i_4096, i_8191, i_8192, i_8249, i_8250, i_8256, i_9000, i_16384, i_32767, i_32768, i_65520, i_65521, i_65535, i_65536, i_65999, i_66000, i_1300, i_120, i_156, pk_sub]
    refine Tt_m (t_writeNumber hW1 (k := 5) (v := h - 257) (by omega) (by omega) (by omega) rfl rfl) ?_
    rintro ⟨_, a1, a2⟩ hW2
    dsimp only at hW2 ⊢
    rw [Nat.mod_eq_of_lt (by omega)] at hW2
    refine Tt_m (t_writeNumber hW2 (k := 5) (v := d - 1) (by omega) (by omega) (by omega) rfl rfl) ?_
    rintro ⟨_, a1, a2⟩ hW3
    dsimp only at hW3 ⊢
    rw [Nat.mod_eq_of_lt (by omega)] at hW3
    refine Tt_m (t_writeNumber hW3 (k := 4) (v := cln f 19 - 4) (by omega) (by omega) (by omega) rfl rfl) ?_
    rintro ⟨_, a1, a2⟩ hW4
    dsimp only at hW4 ⊢
    rw [Nat.mod_eq_of_lt (by omega)] at hW4
    unfold hdr
    have hW5 : RefW a1 a2 (app (app (app (app W 2 2) (h - 257) 5) (d - 1) 5) (cln f 19 - 4) 4).1 (app (app (app (app W 2 2) (h - 257) 5) (d - 1) 5) (cln f 19 - 4) 4).2 := hW4
    have n5 : (app (app (app (app W 2 2) (h - 257) 5) (d - 1) 5) (cln f 19 - 4) 4).1 = W.1 + 16 := rfl
    generalize app (app (app (app W 2 2) (h - 257) 5) (d - 1) 5) (cln f 19 - 4) 4 = W5 at *
    refine Tt_W19 (fun mm pb1 tok1 st1 tl1 tv1 cnt1 rk1 len1 we1 wb1 it1 lr1 sp1 mo1 fx1 pk1 co1 x8 x13 => tok1 = tok ∧ st1 = st ∧ tl1 = tl ∧ tv1 = tv ∧ cnt1 = cnt ∧ rk1 = rk ∧ len1 = len ∧ we1 = we ∧ wb1 = wb ∧ it1 = it ∧ lr1 = lr ∧ sp1 = sp ∧ mo1 = mo ∧ fx1 = fx ∧ co1 = co ∧ x8 = nI (cln f 19) ∧ ∃ i, x13 = nI i ∧ i ≤ cln f 19 ∧ mm = cln f 19 - i ∧ RefW pb1 pk1 (hds f W5 i).1 (hds f W5 i).2) ?_ 200000 (cln f 19) _ _ _ _ _ _ _ _ _ _ _ _ _ _ _ _ _ _ _ (by omega) ⟨rfl, rfl, rfl, rfl, rfl, rfl, rfl, rfl, rfl, rfl, rfl, rfl, rfl, rfl, rfl, rfl, 0, rfl, by omega, rfl, hW5⟩
    rintro K1 mm pb1 tok1 st1 tl1 tv1 cnt1 rk1 len1 we1 wb1 it1 lr1 sp1 mo1 fx1 pk1 co1 x8 x13 ⟨rfl, rfl, rfl, rfl, rfl, rfl, rfl, rfl, rfl, rfl, rfl, rfl, rfl, rfl, rfl, rfl, i, rfl, hi, rfl, hC⟩ ih
    have hn1 := hds_n f W5 i
    unfold M_packPart_453
    by_cases z : cln f 19 ≤ i
    · simp (disch := omega) only [Tt_C, Tt_S, nI_leI]
      rw [if_pos z]
      have ei : i = cln f 19 := by omega
      rw [ei] at hC hn1
      generalize hds f W5 (cln f 19) = W6 at *
      unfold M_packPart_485
      rw [Tt_R1]
      refine Tt_m (t_makeCodes (a := 320) (N := 19) (f := f) rfl rfl (by omega) (by omega) m4 (fun i _ => by have := f7 i; omega)) ?_
      rintro ⟨_, co2⟩ ⟨k1, k2⟩
      dsimp only at k1 k2 ⊢
      refine Tt_W18 (fun mm pb2 tok2 st2 tl2 tv2 cnt2 rk2 len2 we2 wb2 it2 lr2 sp2 mo2 fx2 pk2 co3 x13 => tok2 = tok1 ∧ st2 = st1 ∧ tl2 = tl1 ∧ tv2 = tv1 ∧ len2 = len1 ∧ sp2 = sp1 ∧ mo2 = mo1 ∧ co3 = co2 ∧ ∃ t, x13 = nI t ∧ t ≤ L.1 ∧ mm = L.1 - t ∧ RefW pb2 pk2 (hss f L W6 t).1 (hss f L W6 t).2) ?_ 200000 L.1 _ _ _ _ _ _ _ _ _ _ _ _ _ _ _ _ _ _ (by omega) ⟨rfl, rfl, rfl, rfl, rfl, rfl, rfl, rfl, 0, rfl, by omega, rfl, hC⟩
      rintro K2 mm pb2 tok2 st2 tl2 tv2 cnt2 rk2 len2 we2 wb2 it2 lr2 sp2 mo2 fx2 pk2 co3 x13 ⟨rfl, rfl, rfl, rfl, rfl, rfl, rfl, rfl, t, rfl, ht, rfl, hC2⟩ ih2
      have hn2 := @hss_n f L W6 f7 t
      unfold M_packPart_501
      by_cases y2 : L.1 ≤ t
      · rw [m5]
        simp (disch := omega) only [Tt_C, Tt_S, nI_leI]
        rw [if_pos y2]
        have et : t = L.1 := by omega
        rw [et] at hC2 hn2
        unfold M_packPart_556 tkW
        rw [Tt_R3]
        refine Tt_m (t_writeTokM (N := 339) (l := l) hb hn hfn hT hpt m1 m2 (by omega) (by omega) m3 lMb lMu (by omega) hC2) ?_
        rintro ⟨_, a1, a2, a3⟩ hW9
        first | exact hW9 | exact Tt_Si hW9
      · obtain ⟨w1, w2⟩ := m7 t (by omega)
        obtain ⟨w3, w4⟩ := m6 t (by omega)
        have w5 := fU t (by omega)
        have yr := y_rex (L.2.1 t) w1
        have p7 : 2 ^ rex (L.2.1 t) ≤ 2 ^ 7 := Nat.pow_le_pow_right (by omega) yr.2.2
        have fw := f7 (L.2.1 t)
        have cb9 := @cde_b f 19 (L.2.1 t) w1 (by omega) (by omega)
        rw [m5]
        simp (disch := omega) only [Tt_L, Tt_S, Tt_C, Tt_Z, Tt_R0, Tt_R1, Tt_R2, Tt_R3, Tt_R4, Tt_R5, q10, eq_self, Nat.not_lt_zero, if_true, if_false, i_0, i_1, i_2, i_3, i_4, i_5, i_6, i_7, i_8, i_9, i_10, i_11, i_13, i_14, i_15, i_16, i_17, i_18, i_19, i_24, i_29, i_30, i_31, i_32, i_138, i_143, i_144, i_254, i_255, i_256, i_257, i_258, i_261, i_264, i_265, i_279, i_280, i_284, i_285, i_286, i_288, i_319, i_320, i_338, i_339, i_575, i_576, i_599, i_600, i_4096, i_8191, i_8192, i_8249, i_8250, i_8256, i_9000, i_16384, i_32767, i_32768, i_65520, i_65521, i_65535, i_65536, i_65999, i_66000, i_1300, i_120, i_156, nI_leI, Tt_N, nI_clamp, w3, w4, nI_add, yr.2.1]
        rw [if_neg y2]
        refine ⟨by omega, ?_⟩
        refine Tt_m (t_writeCode hC2 (by omega) (by omega) (s := 320 + L.2.1 t) rfl (by omega) (by omega) (m4 _ w1) (k1 _ w1 w5) (by omega)) ?_
        rintro ⟨_, a1, a2⟩ hC3
        dsimp only at hC3 ⊢
        refine ⟨by omega, by omega, ?_⟩
        refine Tt_m (t_writeNumber hC3 (by omega) (by omega) (by omega) rfl rfl) ?_
        rintro ⟨_, a1, a2⟩ hC4
        dsimp only at hC4 ⊢
        rw [Nat.mod_eq_of_lt w2] at hC4
        rw [← m5]
        exact ih2 (L.1 - (t + 1)) _ _ _ _ _ _ _ _ _ _ _ _ _ _ _ _ _ _ (by omega) ⟨rfl, rfl, rfl, rfl, rfl, rfl, rfl, rfl, t + 1, rfl, by omega, rfl, hC4⟩
    · have yo := y_ord i (by omega)
      have g := m4 (ord i) yo.2.2
      have fo := f7 (ord i)
      simp (disch := omega) only [Tt_L, Tt_S, Tt_C, Tt_Z, Tt_R0, Tt_R1, Tt_R2, Tt_R3, Tt_R4, Tt_R5, q10, eq_self, Nat.not_lt_zero, if_true, if_false, i_0, i_1, i_2, i_3, i_4, i_5, i_6, i_7, i_8, i_9, i_10, i_11, i_13, i_14, i_15, i_16, i_17, i_18, i_19, i_24, i_29, i_30, i_31, i_32, i_138, i_143, i_144, i_254, i_255, i_256, i_257, i_258, i_261, i_264, i_265, i_279, i_280, i_284, i_285, i_286, i_288, i_319, i_320, i_338, i_339, i_575, i_576, i_599, i_600, i_4096, i_8191, i_8192, i_8249, i_8250, i_8256, i_9000, i_16384, i_32767, i_32768, i_65520, i_65521, i_65535, i_65536, i_65999, i_66000, i_1300, i_120, i_156, nI_leI, yo.2.1, nI_add, Tt_N, nI_clamp, g]
      rw [if_neg z]
      refine ⟨by omega, ?_⟩
      refine Tt_m (t_writeNumber hC (k := 3) (v := f (ord i)) (by omega) (by omega) (by omega) rfl rfl) ?_
      rintro ⟨_, a1, a2⟩ hC4
      dsimp only at hC4 ⊢
      rw [Nat.mod_eq_of_lt (by omega)] at hC4
      exact ih (cln f 19 - (i + 1)) _ _ _ _ _ _ _ _ _ _ _ _ _ _ _ _ _ _ _ (by omega) ⟨rfl, rfl, rfl, rfl, rfl, rfl, rfl, rfl, rfl, rfl, rfl, rfl, rfl, rfl, rfl, rfl, i + 1, rfl, by omega, rfl, hC4⟩
  · rw [if_neg y, if_pos (by omega), Tt_R2]
    refine Tt_m (t_writeNumber hW (k := 2) (v := 1) (by omega) (by omega) (by omega) rfl rfl) ?_
    rintro ⟨_, a1, a2⟩ hW1
    dsimp only at hW1 ⊢
    rw [show 1 % 2 ^ 2 = 1 from rfl] at hW1
    rw [Tt_R3]
    unfold tkW
    refine Tt_m (t_writeTokM (N := 339) (l := lF) (W := app W 1 2) hb hn hfn hT hpt m1 m2 (by omega) (by omega) hfx (fun i _ => by have := lF_b i; omega) lF_u (by show W.1 + 2 ≤ 300000; omega) hW1) ?_
    rintro ⟨_, a1, a2, a3⟩ hW9
    first | exact hW9 | exact Tt_Si hW9
/-! one part, packed by the reference: from its end to its beginning -/
theorem sto_n (b : Nat → Nat) (beg : Nat) (W : WS) : ∀ i, (sto b beg W i).1 = W.1 + 8 * i := by
  intro i
  induction i with
  | zero => rfl
  | succ i ih =>
    show (sto b beg W i).1 + 8 = _
    omega
theorem t_part306 {pb tok st : Int32} {tl tv cnt rk len we wb it lr sp mo fx pk co : Nat → Int32} {x2 x3 x4 x6 x7 x8 x9 x10 x12 s1 : Int32} {c : Nat → Int32} {b : Nat → Nat} {N a n beg fin T : Nat} {W : WS} (h : Row c a n b) (hn : n ≤ 8192) (haN : a + n ≤ N) (hN : N ≤ 65536) (hfn : fin ≤ n) (hbe : beg ≤ fin) (hl : fin - beg ≤ 4096) (hT : T ≤ 4096) (hpt : ∀ t, t < T → pos b beg fin t < fin) (hM : MP b beg fin T tok st tl tv len sp mo) (hfx : ∀ i, i < 320 → fx i = nI (lF i)) (e2 : x2 = nI a) (e3 : x3 = nI beg) (e4 : x4 = nI fin) (e6 : x6 = nI (pH (fSf b beg fin T))) (e7 : x7 = nI (pD (fDf b beg fin T))) (e8 : x8 = nI (cln (pF (fSf b beg fin T) (fDf b beg fin T)) 19)) (e9 : x9 = nI (3 + szM b beg fin T)) (e10 : x10 = nI (3 + bitN b beg fin T lF)) (e12 : x12 = nI (3 + szS W beg fin)) (es : s1 = nI (if fin = n then 1 else 0)) (hw : W.1 ≤ 280000) (hW : RefW pb pk W.1 W.2) : Tt (M_packPart_306 200000 N c x2 x3 x4 pb tok st tl tv cnt rk len we wb it lr sp mo fx pk co x6 x7 x8 x9 x10 x12 s1) (fun (_, pb, _, _, _, _, _, _, _, _, _, _, _, _, _, _, pk, _) => RefW pb pk (pkW b n beg fin T W).1 (pkW b n beg fin T W).2) := by
  obtain ⟨sz1, sz2, sz3⟩ := szM_b h.2 hn hfn hT hpt
  have sS : szS W beg fin ≤ 40000 := by unfold szS; omega
  have bit1 : (if fin = n then 1 else 0) < 2 := by split <;> omega
  subst es
  unfold M_packPart_306
  rw [Tt_R2]
  refine Tt_m (t_writeBit hW (by omega) bit1 rfl) ?_
  rintro ⟨_, a1, a2⟩ hW1
  dsimp only at hW1 ⊢
  have hW1' : RefW a1 a2 (app W (if fin = n then 1 else 0) 1).1 (app W (if fin = n then 1 else 0) 1).2 := hW1
  have n1 : (app W (if fin = n then 1 else 0) 1).1 = W.1 + 1 := rfl
  unfold pkW
  generalize app W (if fin = n then 1 else 0) 1 = W1 at *
  have gen : ¬ (szS W beg fin ≤ bitN b beg fin T lF ∧ szS W beg fin ≤ szM b beg fin T) → Tt (M_packPart_391 200000 a1 tok st tl tv cnt rk len we wb it lr sp mo fx a2 co x6 x7 x8 x9 x10) (fun (_, pb, _, _, _, _, _, _, _, _, _, _, _, _, _, _, pk, _) => RefW pb pk ((if szS W beg fin ≤ bitN b beg fin T lF ∧ szS W beg fin ≤ szM b beg fin T then stW b beg fin (app W1 0 2) else if bitN b beg fin T lF ≤ szM b beg fin T then tkW b beg fin T lF (app W1 1 2) else tkW b beg fin T (lM b beg fin T) (hdr (pH (fSf b beg fin T)) (pD (fDf b beg fin T)) (pF (fSf b beg fin T) (fDf b beg fin T)) (pL (fSf b beg fin T) (fDf b beg fin T)) (app W1 2 2)))).1 ((if szS W beg fin ≤ bitN b beg fin T lF ∧ szS W beg fin ≤ szM b beg fin T then stW b beg fin (app W1 0 2) else if bitN b beg fin T lF ≤ szM b beg fin T then tkW b beg fin T lF (app W1 1 2) else tkW b beg fin T (lM b beg fin T) (hdr (pH (fSf b beg fin T)) (pD (fDf b beg fin T)) (pF (fSf b beg fin T) (fDf b beg fin T)) (pL (fSf b beg fin T) (fDf b beg fin T)) (app W1 2 2)))).2) := by
    intro z
    rw [if_neg z]
    exact t_part391 h.2 hn hfn hT hpt hM hfx e6 e7 e8 e9 e10 (by omega) hW1'
  rw [e9, e10, e12] at *
  simp (disch := omega) only [Tt_C, Tt_S, nI_ltI]
  by_cases z1 : 3 + bitN b beg fin T lF < 3 + szS W beg fin
  · rw [if_pos z1]
    exact gen (by omega)
  · rw [if_neg z1]
    by_cases z2 : 3 + szM b beg fin T < 3 + szS W beg fin
    · rw [if_pos z2]
      exact gen (by omega)
    · rw [if_neg z2, if_pos (by omega), Tt_R2]
      subst e2 e3 e4
      refine Tt_m (t_writeNumber hW1' (k := 2) (v := 0) (by omega) (by omega) (by omega) rfl rfl) ?_
      rintro ⟨_, a1, a2⟩ hW2
      dsimp only at hW2 ⊢
      rw [Tt_R2]
      refine Tt_m (t_endByte hW2 (by omega)) ?_
      rintro ⟨_, a1, a2⟩ hW3
      dsimp only at hW3 ⊢
      have hW3' : RefW a1 a2 (alg (app W1 0 2)).1 (alg (app W1 0 2)).2 := hW3
      have n3 : (alg (app W1 0 2)).1 ≤ W1.1 + 10 := by
        show W1.1 + 2 + (8 - (W1.1 + 2) % 8) % 8 ≤ _
        omega
      unfold stW
      generalize alg (app W1 0 2) = W3 at *
      rw [Tt_L, pk_sub hbe, Tt_R2]
      refine Tt_m (t_writeNumber hW3' (k := 16) (v := fin - beg) (by omega) (by omega) (by omega) rfl rfl) ?_
      rintro ⟨_, a1, a2⟩ hW4
      dsimp only at hW4 ⊢
      rw [Nat.mod_eq_of_lt (by omega)] at hW4
      rw [Tt_L, i_65535, pk_sub (by omega), nI_add, Tt_R2]
      refine Tt_m (t_writeNumber hW4 (k := 16) (v := 65535 - fin + beg) (by omega) (by omega) (by omega) rfl rfl) ?_
      rintro ⟨_, a1, a2⟩ hW5
      dsimp only at hW5 ⊢
      rw [Nat.mod_eq_of_lt (by omega), show 65535 - fin + beg = 65535 - (fin - beg) by omega] at hW5
      have hW5' : RefW a1 a2 (app (app W3 (fin - beg) 16) (65535 - (fin - beg)) 16).1 (app (app W3 (fin - beg) 16) (65535 - (fin - beg)) 16).2 := hW5
      have n5 : (app (app W3 (fin - beg) 16) (65535 - (fin - beg)) 16).1 = W3.1 + 32 := rfl
      generalize app (app W3 (fin - beg) 16) (65535 - (fin - beg)) 16 = W5 at *
      refine Tt_W18 (fun mm pb2 tok2 st2 tl2 tv2 cnt2 rk2 len2 we2 wb2 it2 lr2 sp2 mo2 fx2 pk2 co3 x13 => ∃ i, x13 = nI (beg + i) ∧ i ≤ fin - beg ∧ mm = fin - beg - i ∧ RefW pb2 pk2 (sto b beg W5 i).1 (sto b beg W5 i).2) ?_ 200000 (fin - beg) _ _ _ _ _ _ _ _ _ _ _ _ _ _ _ _ _ _ (by omega) ⟨0, rfl, by omega, rfl, hW5'⟩
      rintro K2 mm pb2 tok2 st2 tl2 tv2 cnt2 rk2 len2 we2 wb2 it2 lr2 sp2 mo2 fx2 pk2 co3 x13 ⟨i, rfl, hi, rfl, hC⟩ ih
      have sn := sto_n b beg W5 i
      unfold M_packPart_359
      by_cases y : fin ≤ beg + i
      · simp (disch := omega) only [Tt_C, Tt_S, nI_leI]
        rw [if_pos y, show fin - beg = i by omega]
        first | exact hC | exact Tt_Si hC
      · have c0 := h.1 (beg + i) (by omega)
        have b0 := h.2 (beg + i)
        simp (disch := omega) only [Tt_L, Tt_S, Tt_C, Tt_Z, Tt_R0, Tt_R1, Tt_R2, Tt_R3, Tt_R4, Tt_R5, q10, eq_self, Nat.not_lt_zero, if_true, if_false, i_0, i_1, i_2, i_3, i_4, i_5, i_6, i_7, i_8, i_9, i_10, i_11, i_13, i_14, i_15, i_16, i_17, i_18, i_19, i_24, i_29, i_30, i_31, i_32, i_138, i_143, i_144, i_254, i_255, i_256, i_257, i_258, i_261, i_264, i_265, i_279, i_280, i_284, i_285, i_286, i_288, i_319, i_320, i_338, i_339, i_575, i_576, i_599, i_600, i_4096, i_8191, i_8192, i_8249, i_8250, i_8256, i_9000, i_16384, i_32767, i_32768, i_65520, i_65521, i_65535, i_65536, i_65999, i_66000, i_1300, i_120, i_156, nI_leI, nI_add, Tt_N, nI_clamp, c0, sx_k]
        rw [if_neg y]
        refine ⟨by omega, ?_⟩
        refine Tt_m (t_writeNumber hC (k := 8) (v := b (beg + i)) (by omega) (by omega) (by omega) rfl rfl) ?_
        rintro ⟨_, a1, a2⟩ hC2
        dsimp only at hC2 ⊢
        rw [Nat.mod_eq_of_lt (by omega)] at hC2
        exact ih (fin - beg - (i + 1)) _ _ _ _ _ _ _ _ _ _ _ _ _ _ _ _ _ _ (by omega) ⟨i + 1, rfl, by omega, rfl, hC2⟩
theorem t_part239 {pb tok st : Int32} {tl tv cnt rk len we wb it lr sp mo fx pk co : Nat → Int32} {x2 x3 x4 x5 x6 x7 x8 x9 : Int32} {c : Nat → Int32} {b : Nat → Nat} {N a n beg fin T : Nat} {W : WS} (h : Row c a n b) (hn : n ≤ 8192) (haN : a + n ≤ N) (hN : N ≤ 65536) (hfn : fin ≤ n) (hbe : beg ≤ fin) (hl : fin - beg ≤ 4096) (hT : T ≤ 4096) (hpt : ∀ t, t < T → pos b beg fin t < fin) (hM : MP b beg fin T tok st tl tv len sp mo) (e2 : x2 = nI a) (e3 : x3 = nI beg) (e4 : x4 = nI fin) (e5 : x5 = nI (if fin = n then 1 else 0)) (e6 : x6 = nI (pH (fSf b beg fin T))) (e7 : x7 = nI (pD (fDf b beg fin T))) (e8 : x8 = nI (cln (pF (fSf b beg fin T) (fDf b beg fin T)) 19)) (e9 : x9 = nI (3 + szM b beg fin T)) (hw : W.1 ≤ 280000) (hW : RefW pb pk W.1 W.2) : Tt (M_packPart_239 200000 N c x2 x3 x4 x5 pb tok st tl tv cnt rk len we wb it lr sp mo fx pk co x6 x7 x8 x9) (fun (_, pb, _, _, _, _, _, _, _, _, _, _, _, _, _, _, pk, _) => RefW pb pk (pkW b n beg fin T W).1 (pkW b n beg fin T W).2) := by
  obtain ⟨m1, m2, m3, m4, m5, m6, m7⟩ := hM
  unfold M_packPart_239
  rw [Tt_R1]
  refine Tt_m t_makeFixed ?_
  rintro ⟨_, fx1⟩ hfx
  dsimp only at hfx ⊢
  rw [Tt_R0]
  refine Tt_m (t_bitsBy (N := 339) (l := lF) h.2 hn hfn hT hpt (by omega) (by omega) m1 m2 hfx) ?_
  rintro ⟨r, _⟩ hr
  have hr' : r = nI (bitN b beg fin T lF) := hr
  subst hr'
  obtain ⟨rfl, hV, hc⟩ := hW
  have e306 : ∀ x12 s1, x12 = nI (3 + szS W beg fin) → s1 = nI (if fin = n then 1 else 0) → Tt (M_packPart_306 200000 N c x2 x3 x4 (nI W.1) tok st tl tv cnt rk len we wb it lr sp mo fx1 pk co x6 x7 x8 x9 (nI (3 + bitN b beg fin T lF)) x12 s1) (fun (_, pb, _, _, _, _, _, _, _, _, _, _, _, _, _, _, pk, _) => RefW pb pk (pkW b n beg fin T W).1 (pkW b n beg fin T W).2) := by
    intro x12 s1 q1 q2
    exact t_part306 h hn haN hN hfn hbe hl hT hpt ⟨m1, m2, m3, m4, m5, m6, m7⟩ hfx e2 e3 e4 e6 e7 e8 e9 rfl q1 q2 hw ⟨rfl, hV, hc⟩
  unfold M_packPart_281
  subst e3 e4
  have s5 : (x5 = nI 1 ∧ fin = n) ∨ (x5 = nI 0 ∧ ¬ fin = n) := by
    by_cases y : fin = n
    · exact Or.inl ⟨by rw [e5, if_pos y], y⟩
    · exact Or.inr ⟨by rw [e5, if_neg y], y⟩
  rw [pk_sub hbe]
  rcases s5 with ⟨rfl, y⟩ | ⟨rfl, y⟩
  · simp (disch := omega) only [Tt_L, Tt_S, Tt_C, Tt_Z, Tt_R0, Tt_R1, Tt_R2, Tt_R3, Tt_R4, Tt_R5, q10, eq_self, Nat.not_lt_zero, if_true, if_false, i_0, i_1, i_2, i_3, i_4, i_5, i_6, i_7, i_8, i_9, i_10, i_11, i_13, i_14, i_15, i_16, i_17, i_18, i_19, i_24, i_29, i_30, i_31, i_32, i_138, i_143, i_144, i_254, i_255, i_256, i_257, i_258, i_261, i_264, i_265, i_279, i_280, i_284, i_285, i_286, i_288, i_319, i_320, i_338, i_339, i_575, i_576, i_599, i_600, i_4096, i_8191, i_8192, i_8249, i_8250, i_8256, i_9000, i_16384, i_32767, i_32768, i_65520, i_65521, i_65535, i_65536, i_65999, i_66000, i_1300, i_120, i_156, nI_add, pk_div, n_rem, n_rem2, pk_mul, nI_eq]
    by_cases z : (W.1 + 3) % 8 = 0
    · rw [if_pos z]
      exact e306 _ _ (by unfold szS; rw [z]; exact congrArg nI (by omega)) (by rw [if_pos y])
    · rw [if_neg z, pk_sub (by omega), nI_add, nI_add, nI_add]
      exact e306 _ _ (by unfold szS; exact congrArg nI (by omega)) (by rw [if_pos y])
  · simp (disch := omega) only [Tt_L, Tt_S, Tt_C, Tt_Z, Tt_R0, Tt_R1, Tt_R2, Tt_R3, Tt_R4, Tt_R5, q10, eq_self, Nat.not_lt_zero, if_true, if_false, i_0, i_1, i_2, i_3, i_4, i_5, i_6, i_7, i_8, i_9, i_10, i_11, i_13, i_14, i_15, i_16, i_17, i_18, i_19, i_24, i_29, i_30, i_31, i_32, i_138, i_143, i_144, i_254, i_255, i_256, i_257, i_258, i_261, i_264, i_265, i_279, i_280, i_284, i_285, i_286, i_288, i_319, i_320, i_338, i_339, i_575, i_576, i_599, i_600, i_4096, i_8191, i_8192, i_8249, i_8250, i_8256, i_9000, i_16384, i_32767, i_32768, i_65520, i_65521, i_65535, i_65536, i_65999, i_66000, i_1300, i_120, i_156, nI_add, pk_div, n_rem, n_rem2, pk_mul, nI_eq]
    by_cases z : (W.1 + 3) % 8 = 0
    · rw [if_pos z]
      exact e306 _ _ (by unfold szS; rw [z]; exact congrArg nI (by omega)) (by rw [if_neg y])
    · rw [if_neg z, pk_sub (by omega), nI_add, nI_add, nI_add]
      exact e306 _ _ (by unfold szS; exact congrArg nI (by omega)) (by rw [if_neg y])
theorem t_part171 {pb tok st : Int32} {tl tv cnt rk len we wb it lr sp mo fx pk co : Nat → Int32} {x2 x3 x4 x5 x6 x7 x8 : Int32} {c : Nat → Int32} {b : Nat → Nat} {N a n beg fin T : Nat} {W : WS} (h : Row c a n b) (hn : n ≤ 8192) (haN : a + n ≤ N) (hN : N ≤ 65536) (hfn : fin ≤ n) (hbe : beg ≤ fin) (hl : fin - beg ≤ 4096) (hT : T ≤ 4096) (hpt : ∀ t, t < T → pos b beg fin t < fin) (hM : MP b beg fin T tok st tl tv len sp mo) (e2 : x2 = nI a) (e3 : x3 = nI beg) (e4 : x4 = nI fin) (e5 : x5 = nI (if fin = n then 1 else 0)) (e6 : x6 = nI (pH (fSf b beg fin T))) (e7 : x7 = nI (pD (fDf b beg fin T))) (e8 : x8 = nI (cln (pF (fSf b beg fin T) (fDf b beg fin T)) 19)) (hw : W.1 ≤ 280000) (hW : RefW pb pk W.1 W.2) : Tt (M_packPart_171 200000 N c x2 x3 x4 x5 pb tok st tl tv cnt rk len we wb it lr sp mo fx pk co x6 x7 x8) (fun (_, pb, _, _, _, _, _, _, _, _, _, _, _, _, _, _, pk, _) => RefW pb pk (pkW b n beg fin T W).1 (pkW b n beg fin T W).2) := by
  have hM' := hM
  obtain ⟨m1, m2, m3, m4, m5, m6, m7⟩ := hM'
  have ln : (pL (fSf b beg fin T) (fDf b beg fin T)).1 ≤ pH (fSf b beg fin T) + pD (fDf b beg fin T) := told_n _ _
  have bH := pH_b (fSf b beg fin T)
  have bD := pD_b (fDf b beg fin T)
  unfold M_packPart_171
  rw [Tt_R0]
  refine Tt_m (t_bitsBy (N := 339) (l := lM b beg fin T) h.2 hn hfn hT hpt (by omega) (by omega) m1 m2 m3) ?_
  rintro ⟨r, _⟩ hr
  have hr' : r = nI (bitN b beg fin T (lM b beg fin T)) := hr
  subst hr' e8
  generalize hK9 : (pF (fSf b beg fin T) (fDf b beg fin T)) = f at *
  generalize hL9 : (pL (fSf b beg fin T) (fDf b beg fin T)) = L at *
  simp only [Tt_L, i_0, i_1, i_2, i_3, i_4, i_5, i_6, i_7, i_8, i_9, i_10, i_11, i_13, i_14, i_15, i_16, i_17, i_18, i_19, i_24, i_29, i_30, i_31, i_32, i_138, i_143, i_144, i_254, i_255, i_256, i_257, i_258, i_261, i_264, i_265, i_279, i_280, i_284, i_285, i_286, i_288, i_319, i_320, i_338, i_339, i_575, i_576, i_599, i_600, i_4096, i_8191, i_8192, i_8249, i_8250, i_8256, i_9000, i_16384, i_32767, i_32768, i_65520, i_65521, i_65535, i_65536, i_65999, i_66000, i_1300, i_120, i_156, pk_mul, nI_add]
  refine Tt_W22 (fun mm pb1 tok1 st1 tl1 tv1 cnt1 rk1 len1 we1 wb1 it1 lr1 sp1 mo1 fx1 pk1 co1 y6 y7 y8 x9 x10 => pb1 = pb ∧ tok1 = tok ∧ st1 = st ∧ tl1 = tl ∧ tv1 = tv ∧ cnt1 = cnt ∧ rk1 = rk ∧ len1 = len ∧ we1 = we ∧ wb1 = wb ∧ it1 = it ∧ lr1 = lr ∧ sp1 = sp ∧ mo1 = mo ∧ fx1 = fx ∧ pk1 = pk ∧ co1 = co ∧ y6 = x6 ∧ y7 = x7 ∧ y8 = nI (cln f 19) ∧ ∃ t, x10 = nI t ∧ t ≤ L.1 ∧ mm = L.1 - t ∧ x9 = nI (17 + 3 * cln f 19 + bitN b beg fin T (lM b beg fin T) + sm (fun t => f (L.2.1 t) + rex (L.2.1 t)) t)) ?_ 200000 L.1 _ _ _ _ _ _ _ _ _ _ _ _ _ _ _ _ _ _ _ _ _ _ (by omega) ⟨rfl, rfl, rfl, rfl, rfl, rfl, rfl, rfl, rfl, rfl, rfl, rfl, rfl, rfl, rfl, rfl, rfl, rfl, rfl, rfl, 0, rfl, by omega, rfl, rfl⟩
  rintro K1 mm pb1 tok1 st1 tl1 tv1 cnt1 rk1 len1 we1 wb1 it1 lr1 sp1 mo1 fx1 pk1 co1 y6 y7 y8 x9 x10 ⟨rfl, rfl, rfl, rfl, rfl, rfl, rfl, rfl, rfl, rfl, rfl, rfl, rfl, rfl, rfl, rfl, rfl, rfl, rfl, rfl, t, rfl, ht, rfl, rfl⟩ ih
  unfold M_packPart_192
  rw [m5]
  by_cases z : L.1 ≤ t
  · simp (disch := omega) only [Tt_C, Tt_S, nI_leI]
    rw [if_pos z, ← m5]
    subst hK9 hL9
    refine t_part239 h hn haN hN hfn hbe hl hT hpt hM e2 e3 e4 e5 e6 e7 rfl ?_ hw hW
    have et : t = (pL (fSf b beg fin T) (fDf b beg fin T)).1 := by omega
    rw [et]
    unfold szM pB
    congr 1
    omega
  · obtain ⟨w1, w2⟩ := m7 t (by omega)
    obtain ⟨w3, w4⟩ := m6 t (by omega)
    have yr := y_rex (L.2.1 t) w1
    simp (disch := omega) only [Tt_L, Tt_S, Tt_C, Tt_Z, Tt_R0, Tt_R1, Tt_R2, Tt_R3, Tt_R4, Tt_R5, q10, eq_self, Nat.not_lt_zero, if_true, if_false, i_0, i_1, i_2, i_3, i_4, i_5, i_6, i_7, i_8, i_9, i_10, i_11, i_13, i_14, i_15, i_16, i_17, i_18, i_19, i_24, i_29, i_30, i_31, i_32, i_138, i_143, i_144, i_254, i_255, i_256, i_257, i_258, i_261, i_264, i_265, i_279, i_280, i_284, i_285, i_286, i_288, i_319, i_320, i_338, i_339, i_575, i_576, i_599, i_600, i_4096, i_8191, i_8192, i_8249, i_8250, i_8256, i_9000, i_16384, i_32767, i_32768, i_65520, i_65521, i_65535, i_65536, i_65999, i_66000, i_1300, i_120, i_156, nI_leI, Tt_N, nI_clamp, w3, nI_add, yr.2.1, m4 _ w1]
    rw [if_neg z, ← m5]
    refine ⟨by omega, by omega, by omega, ih (L.1 - (t + 1)) _ _ _ _ _ _ _ _ _ _ _ _ _ _ _ _ _ _ _ _ _ _ (by omega) ⟨rfl, rfl, rfl, rfl, rfl, rfl, rfl, rfl, rfl, rfl, rfl, rfl, rfl, rfl, rfl, rfl, rfl, rfl, rfl, rfl, t + 1, rfl, by omega, rfl, ?_⟩⟩
    congr 1
    show _ = 17 + 3 * cln f 19 + bitN b beg fin T (lM b beg fin T) + (sm (fun t => f (L.2.1 t) + rex (L.2.1 t)) t + (f (L.2.1 t) + rex (L.2.1 t)))
    omega
theorem t_part116 {pb tok st : Int32} {tl tv cnt rk len we wb it lr sp mo fx pk co : Nat → Int32} {x2 x3 x4 x5 x6 x7 : Int32} {c : Nat → Int32} {b : Nat → Nat} {N a n beg fin T : Nat} {W : WS} (h : Row c a n b) (hn : n ≤ 8192) (haN : a + n ≤ N) (hN : N ≤ 65536) (hfn : fin ≤ n) (hbe : beg ≤ fin) (hl : fin - beg ≤ 4096) (hT : T ≤ 4096) (hpt : ∀ t, t < T → pos b beg fin t < fin) (m1 : tok = nI T) (m2 : ∀ t, t < T → tl t = nI (tL b beg fin t) ∧ tv t = nI (tV b beg fin t)) (m3 : ∀ i, i < 320 → len i = nI (lM b beg fin T i)) (hcz : ∀ s, s < 19 → cnt (320 + s) = nI 0) (hlr : ∀ i, i < pH (fSf b beg fin T) + pD (fDf b beg fin T) → lr i = nI (rowF (fSf b beg fin T) (fDf b beg fin T) (pH (fSf b beg fin T)) i)) (e2 : x2 = nI a) (e3 : x3 = nI beg) (e4 : x4 = nI fin) (e5 : x5 = nI (if fin = n then 1 else 0)) (e6 : x6 = nI (pH (fSf b beg fin T))) (e7 : x7 = nI (pD (fDf b beg fin T))) (hw : W.1 ≤ 280000) (hW : RefW pb pk W.1 W.2) : Tt (M_packPart_116 200000 N c x2 x3 x4 x5 pb tok st tl tv cnt rk len we wb it lr sp mo fx pk co x6 x7) (fun (_, pb, _, _, _, _, _, _, _, _, _, _, _, _, _, _, pk, _) => RefW pb pk (pkW b n beg fin T W).1 (pkW b n beg fin T W).2) := by
  have bH := pH_b (fSf b beg fin T)
  have bD := pD_b (fDf b beg fin T)
  have hrow : ∀ i, i < pH (fSf b beg fin T) + pD (fDf b beg fin T) → rowF (fSf b beg fin T) (fDf b beg fin T) (pH (fSf b beg fin T)) i ≤ 15 := by
    intro i hi
    unfold rowF
    split
    · exact fSf_b _ _ _ _ _
    · exact fDf_b _ _ _ _ _
  unfold M_packPart_116
  rw [Tt_L, e6, e7, nI_add, Tt_R4]
  refine Tt_m (t_tellRowM (c0 := cnt) (f := rowF (fSf b beg fin T) (fDf b beg fin T) (pH (fSf b beg fin T))) rfl (by omega) hlr hrow hcz (fun j _ => rfl)) ?_
  rintro ⟨_, st1, sp1, mo1, cnt1⟩ hRT
  dsimp only at hRT ⊢
  have hRT' : RT st1 sp1 mo1 cnt1 cnt (pL (fSf b beg fin T) (fDf b beg fin T)) := hRT
  have ln : (pL (fSf b beg fin T) (fDf b beg fin T)).1 ≤ pH (fSf b beg fin T) + pD (fDf b beg fin T) := told_n _ _
  obtain ⟨t1, t2, t3, t4, t5⟩ := hRT'
  rw [Tt_R5]
  refine Tt_m (t_findLengths (a := 320) (n := 19) (K := 7) (c := fun s => cn (pL (fSf b beg fin T) (fDf b beg fin T)).2.1 s (pL (fSf b beg fin T) (fDf b beg fin T)).1) rfl rfl rfl (by omega) (by omega) t3 (fun i => by have := cn_le (pL (fSf b beg fin T) (fDf b beg fin T)).2.1 i (pL (fSf b beg fin T) (fDf b beg fin T)).1; omega) (by omega) (by omega) (by decide)) ?_
  rintro ⟨_, rk1, len1, we1, wb1, it1⟩ hF
  dsimp only at hF ⊢
  have m4 : ∀ s, s < 19 → len1 (320 + s) = nI ((pF (fSf b beg fin T) (fDf b beg fin T)) s) := fun s hs => by
    rw [hF, if_pos (by omega), show 320 + s - 320 = s by omega]
    rfl
  have m3' : ∀ i, i < 320 → len1 i = nI (lM b beg fin T i) := fun i hi => by
    rw [hF, if_neg (by omega)]
    exact m3 i hi
  have hM : MP b beg fin T tok st1 tl tv len1 sp1 mo1 := ⟨m1, m2, m3', m4, t1, t2, t5⟩
  have f7 : ∀ x, (pF (fSf b beg fin T) (fDf b beg fin T)) x ≤ 7 := fun x => fitL_hi (by omega) (by decide)
  refine Tt_W20 (fun mm pb2 tok2 st2 tl2 tv2 cnt2 rk2 len2 we2 wb2 it2 lr2 sp2 mo2 fx2 pk2 co2 y6 y7 x8 => pb2 = pb ∧ tok2 = tok ∧ st2 = st1 ∧ tl2 = tl ∧ tv2 = tv ∧ len2 = len1 ∧ sp2 = sp1 ∧ mo2 = mo1 ∧ pk2 = pk ∧ y6 = nI (pH (fSf b beg fin T)) ∧ y7 = nI (pD (fDf b beg fin T)) ∧ ∃ k, x8 = nI k ∧ k ≤ 19 ∧ 4 ≤ k ∧ k = mm ∧ cln (pF (fSf b beg fin T) (fDf b beg fin T)) 19 = cln (pF (fSf b beg fin T) (fDf b beg fin T)) k) ?_ 200000 19 _ _ _ _ _ _ _ _ _ _ _ _ _ _ _ _ _ _ _ _ (by omega) ⟨rfl, rfl, rfl, rfl, rfl, rfl, rfl, rfl, rfl, rfl, rfl, 19, rfl, by omega, by omega, rfl, rfl⟩
  rintro K1 mm pb2 tok2 st2 tl2 tv2 cnt2 rk2 len2 we2 wb2 it2 lr2 sp2 mo2 fx2 pk2 co2 y6 y7 x8 ⟨rfl, rfl, rfl, rfl, rfl, rfl, rfl, rfl, rfl, rfl, rfl, k, rfl, hk1, hk2, rfl, hcl⟩ ih
  have out : cln (pF (fSf b beg fin T) (fDf b beg fin T)) 19 = k → Tt (M_packPart_171 200000 N c x2 x3 x4 x5 pb2 tok2 st2 tl2 tv2 cnt2 rk2 len2 we2 wb2 it2 lr2 sp2 mo2 fx2 pk2 co2 (nI (pH (fSf b beg fin T))) (nI (pD (fDf b beg fin T))) (nI k)) (fun (_, pb, _, _, _, _, _, _, _, _, _, _, _, _, _, _, pk, _) => RefW pb pk (pkW b n beg fin T W).1 (pkW b n beg fin T W).2) := by
    intro e
    exact t_part171 h hn haN hN hfn hbe hl hT hpt hM e2 e3 e4 e5 rfl rfl (by rw [e]) hw hW
  unfold M_packPart_140
  by_cases z : k ≤ 4
  · simp (disch := omega) only [Tt_C, Tt_S, i_0, i_1, i_2, i_3, i_4, i_5, i_6, i_7, i_8, i_9, i_10, i_11, i_13, i_14, i_15, i_16, i_17, i_18, i_19, i_24, i_29, i_30, i_31, i_32, i_138, i_143, i_144, i_254, i_255, i_256, i_257, i_258, i_261, i_264, i_265, i_279, i_280, i_284, i_285, i_286, i_288, i_319, i_320, i_338, i_339, i_575, i_576, i_599, i_600, i_4096, i_8191, i_8192, i_8249, i_8250, i_8256, i_9000, i_16384, i_32767, i_32768, i_65520, i_65521, i_65535, i_65536, i_65999, i_66000, i_1300, i_120, i_156, nI_leI]
    rw [if_pos z]
    apply out
    have : k = 4 := by omega
    rw [hcl, this]
    rfl
  · obtain ⟨d, rfl⟩ : ∃ d, k = d + 1 := ⟨k - 1, by omega⟩
    have yo := y_ord d (by omega)
    have e1 : nI (d + 1) - nI 1 = nI d := nI_pred d
    have g := m4 (ord d) yo.2.2
    have fo := f7 (ord d)
    have cd : cln (pF (fSf b beg fin T) (fDf b beg fin T)) (d + 1) = if d + 1 ≤ 4 then d + 1 else if (pF (fSf b beg fin T) (fDf b beg fin T)) (ord d) = 0 then cln (pF (fSf b beg fin T) (fDf b beg fin T)) d else d + 1 := rfl
    rw [if_neg z] at cd
    simp (disch := omega) only [Tt_L, Tt_S, Tt_C, Tt_Z, Tt_R0, Tt_R1, Tt_R2, Tt_R3, Tt_R4, Tt_R5, q10, eq_self, Nat.not_lt_zero, if_true, if_false, i_0, i_1, i_2, i_3, i_4, i_5, i_6, i_7, i_8, i_9, i_10, i_11, i_13, i_14, i_15, i_16, i_17, i_18, i_19, i_24, i_29, i_30, i_31, i_32, i_138, i_143, i_144, i_254, i_255, i_256, i_257, i_258, i_261, i_264, i_265, i_279, i_280, i_284, i_285, i_286, i_288, i_319, i_320, i_338, i_339, i_575, i_576, i_599, i_600, i_4096, i_8191, i_8192, i_8249, i_8250, i_8256, i_9000, i_16384, i_32767, i_32768, i_65520, i_65521, i_65535, i_65536, i_65999, i_66000, i_1300, i_120, i_156, nI_leI, e1, yo.2.1, nI_add, Tt_N, nI_clamp, g, nI_eq, n_dec2, Nat.add_sub_cancel]
    rw [if_neg z]
    refine ⟨by omega, ?_⟩
    by_cases y : (pF (fSf b beg fin T) (fDf b beg fin T)) (ord d) = 0
    · rw [if_pos y]
      rw [if_pos y] at cd
      exact ih d _ _ _ _ _ _ _ _ _ _ _ _ _ _ _ _ _ _ _ _ (by omega) ⟨rfl, rfl, rfl, rfl, rfl, rfl, rfl, rfl, rfl, rfl, rfl, d, rfl, by omega, by omega, rfl, by rw [hcl, cd]⟩
    · rw [if_neg y]
      rw [if_neg y] at cd
      exact out (by rw [hcl, cd])
theorem sOf_lt {b : Nat → Nat} {n beg fin t : Nat} (hb : ∀ i, b i < 256) (hn : n ≤ 8192) (hfn : fin ≤ n) (hp : pos b beg fin t < fin) : sOf b beg fin t < 286 ∧ (dOf b beg fin t < 30 ∨ dOf b beg fin t = 99) := by
  have tb := @tok_b b beg fin n t hb hp hfn
  unfold sOf dOf
  rcases tb with tb | tb
  · rw [if_pos tb.1, if_pos tb.1]; omega
  · rw [if_neg (by omega), if_neg (by omega)]
    have ylb := y_lsymB (tL b beg fin t) (by omega)
    have yd := @y_drest (tV b beg fin t) (by omega) (by omega)
    omega
theorem cn_none {g : Nat → Nat} {s : Nat} : ∀ {T : Nat}, (∀ t, t < T → g t ≠ s) → cn g s T = 0 := by
  intro T
  induction T with
  | zero => intro _; rfl
  | succ T ih =>
    intro h
    show cn g s T + (if g T = s then 1 else 0) = 0
    rw [ih (fun t ht => h t (by omega)), if_neg (h T (by omega))]
/-- one part, packed by the reference -/
theorem t_partM {pb tok st : Int32} {tl tv cnt rk len we wb it lr sp mo fx pk co : Nat → Int32} {before : Nat → Int32} {x2 x3 x4 x5 : Int32} {c : Nat → Int32} {b : Nat → Nat} {N a n beg fin : Nat} {W : WS} (h : Row c a n b) (hn : n ≤ 8192) (haN : a + n ≤ N) (hN : N ≤ 65536) (hB : ∀ p, p + 1 < n → before p = nI (lb (pf b) p (pf b p)) - 1) (hfn : fin ≤ n) (hbe : beg ≤ fin) (hl : fin - beg ≤ 4096) (e2 : x2 = nI a) (e3 : x3 = nI beg) (e4 : x4 = nI fin) (e5 : x5 = nI (if fin = n then 1 else 0)) (hw : W.1 ≤ 280000) (hW : RefW pb pk W.1 W.2) : Tt (M_packPart 200000 N before c pb tok st tl tv cnt rk len we wb it lr sp mo fx pk co x2 x3 x4 x5) (fun (_, pb, _, _, _, _, _, _, _, _, _, _, _, _, _, _, pk, _) => ∃ T, T ≤ fin - beg ∧ isT b beg fin T ∧ RefW pb pk (pkW b n beg fin T W).1 (pkW b n beg fin T W).2) := by
  unfold M_packPart
  rw [Tt_R3]
  refine Tt_m (t_cutPart h hn haN hN hB hfn hbe hl e2 e3 e4) ?_
  rintro ⟨_, tok1, tl1, tv1⟩ ⟨T, hT, hisT, m1, m2⟩
  dsimp only at m1 m2 ⊢
  have hT' : T ≤ 4096 := by omega
  rw [Tt_R1]
  refine Tt_m (t_countTokens h.2 hn hfn hT' hisT.2 m1 m2) ?_
  rintro ⟨_, cnt1⟩ hC
  dsimp only at hC ⊢
  have cl1 : ∀ i, cSf b beg fin T i ≤ 8192 := fun i => by
    have := cn_le (sOf b beg fin) i T
    unfold cSf
    split <;> omega
  have cl2 : ∀ i, cDf b beg fin T i ≤ 8192 := fun i => by
    have := cn_le (dOf b beg fin) i T
    unfold cDf
    omega
  have c1 : ∀ s, s < 288 → cnt1 (0 + s) = nI (cSf b beg fin T s) := fun s hs => by
    rw [Nat.zero_add, hC s (by omega)]
    unfold cntA cSf
    rw [if_pos hs]
  have c2 : ∀ d, d < 32 → cnt1 (288 + d) = nI (cDf b beg fin T d) := fun d hd => by
    rw [hC (288 + d) (by omega)]
    unfold cntA cDf
    rw [if_neg (by omega), if_pos (by omega), show 288 + d - 288 = d by omega]
  have z1 : ∀ i, 286 ≤ i → i < 286 + 2 → cSf b beg fin T i = 0 := fun i h1 h2 => by
    unfold cSf
    rw [if_neg (by omega), cn_none (fun t ht => by have := (sOf_lt h.2 hn hfn (hisT.2 t ht)).1; omega)]
  have z2 : ∀ i, 30 ≤ i → i < 30 + 2 → cDf b beg fin T i = 0 := fun i h1 h2 => by
    unfold cDf
    rw [cn_none (fun t ht => by have := (sOf_lt h.2 hn hfn (hisT.2 t ht)).2; omega)]
  rw [Tt_R5]
  refine Tt_m (t_findLengths (a := 0) (n := 288) (K := 15) (c := cSf b beg fin T) rfl rfl rfl (by omega) (by omega) c1 cl1 (by omega) (by omega) (by decide)) ?_
  rintro ⟨_, rk1, len1, we1, wb1, it1⟩ hF1
  dsimp only at hF1 ⊢
  rw [Tt_R5]
  refine Tt_m (t_findLengths (a := 288) (n := 32) (K := 15) (c := cDf b beg fin T) rfl rfl rfl (by omega) (by omega) c2 cl2 (by omega) (by omega) (by decide)) ?_
  rintro ⟨_, rk2, len2, we2, wb2, it2⟩ hF2
  dsimp only at hF2 ⊢
  have m3 : ∀ i, i < 320 → len2 i = nI (lM b beg fin T i) := fun i hi => by
    rw [hF2]
    by_cases y : i < 288
    · rw [if_neg (by omega), hF1, if_pos (by omega), Nat.sub_zero, lM_S y]
      congr 1
      exact @fitL_ext (cSf b beg fin T) 286 2 15 i z1
    · rw [if_pos (by omega)]
      unfold lM
      rw [if_neg y]
      congr 1
      exact @fitL_ext (cDf b beg fin T) 30 2 15 (i - 288) z2
  rw [Tt_R0]
  refine Tt_m (t_needed (a := 0) (n := 286) (least := 257) (f := fSf b beg fin T) rfl rfl rfl (by omega) (by omega) (by omega) (fun i hi => by rw [Nat.zero_add, m3 i (by omega), lM_S (by omega)]) (fun i _ => fSf_b _ _ _ _ i)) ?_
  rintro ⟨r1, _⟩ h1
  have h1' : r1 = nI (pH (fSf b beg fin T)) := h1
  rw [Tt_R0]
  refine Tt_m (t_needed (a := 288) (n := 30) (least := 1) (f := fDf b beg fin T) rfl rfl rfl (by omega) (by omega) (by omega) (fun i hi => by rw [m3 (288 + i) (by omega), lM_D]) (fun i _ => fDf_b _ _ _ _ i)) ?_
  rintro ⟨r2, _⟩ h2
  have h2' : r2 = nI (pD (fDf b beg fin T)) := h2
  subst h1' h2'
  dsimp only
  have bH := pH_b (fSf b beg fin T)
  have bD := pD_b (fDf b beg fin T)
  refine Tt_W20 (fun mm pb2 tok2 st2 tl2 tv2 cnt2 rk2' len2' we2' wb2' it2' lr2 sp2 mo2 fx2 pk2 co2 y6 y7 x8 => pb2 = pb ∧ tok2 = tok1 ∧ tl2 = tl1 ∧ tv2 = tv1 ∧ cnt2 = cnt1 ∧ len2' = len2 ∧ pk2 = pk ∧ y6 = nI (pH (fSf b beg fin T)) ∧ y7 = nI (pD (fDf b beg fin T)) ∧ ∃ k, x8 = nI k ∧ k ≤ pH (fSf b beg fin T) + pD (fDf b beg fin T) ∧ mm = pH (fSf b beg fin T) + pD (fDf b beg fin T) - k ∧ ∀ i, i < k → lr2 i = nI (rowF (fSf b beg fin T) (fDf b beg fin T) (pH (fSf b beg fin T)) i)) ?_ 200000 (pH (fSf b beg fin T) + pD (fDf b beg fin T)) _ _ _ _ _ _ _ _ _ _ _ _ _ _ _ _ _ _ _ _ (by omega) ⟨rfl, rfl, rfl, rfl, rfl, rfl, rfl, rfl, rfl, 0, rfl, by omega, rfl, fun i hi => by omega⟩
  rintro K1 mm pb2 tok2 st2 tl2 tv2 cnt2 rk2' len2' we2' wb2' it2' lr2 sp2 mo2 fx2 pk2 co2 y6 y7 x8 ⟨rfl, rfl, rfl, rfl, rfl, rfl, rfl, rfl, rfl, k, rfl, hk, rfl, hlr⟩ ih
  unfold M_packPart_62
  by_cases z : pH (fSf b beg fin T) + pD (fDf b beg fin T) ≤ k
  · simp (disch := omega) only [Tt_C, Tt_S, nI_add, nI_leI]
    rw [if_pos z]
    refine Tt_m (t_part116 (W := W) h hn haN hN hfn hbe hl hT' hisT.2 m1 m2 m3 (fun s hs => ?_) (fun i hi => hlr i (by omega)) e2 e3 e4 e5 rfl rfl hw hW) ?_
    · rw [hC (320 + s) (by omega)]
      unfold cntA
      rw [if_neg (by omega), if_neg (by omega)]
    · rintro ⟨_, pb9, tok9, st9, tl9, tv9, cnt9, rk9, len9, we9, wb9, it9, lr9, sp9, mo9, fx9, pk9, co9⟩ hu
      exact ⟨T, hT, hisT, hu⟩
  · have next : ∀ v, v = nI (rowF (fSf b beg fin T) (fDf b beg fin T) (pH (fSf b beg fin T)) k) → Tt (M_packPart_109 200000 K1 pb2 tok2 st2 tl2 tv2 cnt2 rk2' len2' we2' wb2' it2' lr2 sp2 mo2 fx2 pk2 co2 (nI (pH (fSf b beg fin T))) (nI (pD (fDf b beg fin T))) (nI k) (nI k) v) (fun (_, pb, _, _, _, _, _, _, _, _, _, _, _, _, _, _, pk, _) => ∃ T, T ≤ fin - beg ∧ isT b beg fin T ∧ RefW pb pk (pkW b n beg fin T W).1 (pkW b n beg fin T W).2) := by
      intro v hv
      unfold M_packPart_109
      simp (disch := omega) only [Tt_L, i_0, i_1, i_2, i_3, i_4, i_5, i_6, i_7, i_8, i_9, i_10, i_11, i_13, i_14, i_15, i_16, i_17, i_18, i_19, i_24, i_29, i_30, i_31, i_32, i_138, i_143, i_144, i_254, i_255, i_256, i_257, i_258, i_261, i_264, i_265, i_279, i_280, i_284, i_285, i_286, i_288, i_319, i_320, i_338, i_339, i_575, i_576, i_599, i_600, i_4096, i_8191, i_8192, i_8249, i_8250, i_8256, i_9000, i_16384, i_32767, i_32768, i_65520, i_65521, i_65535, i_65536, i_65999, i_66000, i_1300, i_120, i_156, Tt_N, nI_clamp, nI_add]
      refine ⟨by omega, ih (pH (fSf b beg fin T) + pD (fDf b beg fin T) - (k + 1)) _ _ _ _ _ _ _ _ _ _ _ _ _ _ _ _ _ _ _ _ (by omega) ⟨rfl, rfl, rfl, rfl, rfl, rfl, rfl, rfl, rfl, k + 1, rfl, by omega, rfl, fun i hi => ?_⟩⟩
      by_cases e : i = k
      · rw [e, pk_us, hv]
      · rw [pk_un e]; exact hlr i (by omega)
    simp (disch := omega) only [Tt_C, Tt_S, Tt_L, i_0, i_1, i_2, i_3, i_4, i_5, i_6, i_7, i_8, i_9, i_10, i_11, i_13, i_14, i_15, i_16, i_17, i_18, i_19, i_24, i_29, i_30, i_31, i_32, i_138, i_143, i_144, i_254, i_255, i_256, i_257, i_258, i_261, i_264, i_265, i_279, i_280, i_284, i_285, i_286, i_288, i_319, i_320, i_338, i_339, i_575, i_576, i_599, i_600, i_4096, i_8191, i_8192, i_8249, i_8250, i_8256, i_9000, i_16384, i_32767, i_32768, i_65520, i_65521, i_65535, i_65536, i_65999, i_66000, i_1300, i_120, i_156, nI_add, nI_leI]
    rw [if_neg z]
    by_cases y : pH (fSf b beg fin T) ≤ k
    · rw [if_pos y, pk_sub (by omega), Tt_N (by omega), nI_clamp (by omega)]
      refine ⟨by omega, next _ ?_⟩
      rw [show 288 + k - pH (fSf b beg fin T) = 288 + (k - pH (fSf b beg fin T)) by omega, m3 _ (by omega), lM_D]
      unfold rowF
      rw [if_neg (by omega)]
    · rw [if_neg y, Tt_N (by omega), nI_clamp (by omega)]
      refine ⟨by omega, next _ ?_⟩
      rw [m3 _ (by omega), lM_S (by omega)]
      unfold rowF
      rw [if_pos (by omega)]
/-! the check, and the whole packing -/
theorem l_sm : ∀ k, k < 64 → (((nI k).toInt64 &&& 63).toBitVec.smod 64).toNat = k := by decide +kernel
theorem l_shr {n k : Nat} (hn : n < 2 ^ 63) (hk : k < 64) : lN n >>> ((nI k).toInt64 &&& 63) = lN (n / 2 ^ k) := by
  apply Int64.toInt_inj.mp
  have h2 : n / 2 ^ k ≤ n := Nat.div_le_self _ _
  show ((lN n).toBitVec.sshiftRight (((nI k).toInt64 &&& 63).toBitVec.smod 64).toNat).toInt = _
  rw [l_sm k hk, BitVec.toInt_sshiftRight]
  show (lN n).toInt >>> k = _
  rw [pk_lT hn, pk_lT (by omega), Int.shiftRight_eq_div_pow]
  rfl
theorem l_and (a b : Nat) : lN a &&& lN b = lN (a &&& b) := by
  apply Int64.toBitVec_inj.1
  show BitVec.ofNat 64 a &&& BitVec.ofNat 64 b = BitVec.ofNat 64 (a &&& b)
  apply BitVec.eq_of_getLsbD_eq
  intro i hi
  simp [hi]
theorem l_255 (a : Nat) : lN a &&& 255 = lN (a % 256) := by
  show lN a &&& lN 255 = _
  rw [l_and, show (255 : Nat) = 2 ^ 8 - 1 from rfl, Nat.and_two_pow_sub_one_eq_mod]
def adl (b : Nat → Nat) : Nat → Nat × Nat
  | 0 => (1, 0)
  | i + 1 => (((adl b i).1 + b i) % 65521, ((adl b i).2 + ((adl b i).1 + b i) % 65521) % 65521)
theorem adl_b (b : Nat → Nat) : ∀ i, (adl b i).1 < 65521 ∧ (adl b i).2 < 65521 := by
  intro i
  cases i with
  | zero => exact ⟨by show 1 < 65521; omega, by show 0 < 65521; omega⟩
  | succ i => exact ⟨Nat.mod_lt _ (by omega), Nat.mod_lt _ (by omega)⟩
def adC (b : Nat → Nat) (n : Nat) : Nat := (adl b n).2 * 65536 + (adl b n).1
theorem adC_lt (b : Nat → Nat) (n : Nat) : adC b n < 2 ^ 32 := by
  have := adl_b b n
  unfold adC
  omega
theorem t_checkC {c : Nat → Int32} {B : Nat → Nat} {N len f0 : Nat} {y x1 : Int32} (h : Row c 0 len B) (hl : len ≤ N) (hN : N ≤ 100000) (hf : f0 ≤ len) (hy : y = nI len) (h1 : x1 = nI f0) : Tt (P_checkOf 200000 N y c x1) (fun u => u.1 = nI (adC (fun i => B (f0 + i)) (len - f0))) := by
  subst hy h1
  unfold P_checkOf
  refine Tt_W3 (fun mm x2 x3 x4 => ∃ i, x4 = nI (f0 + i) ∧ i ≤ len - f0 ∧ mm = len - f0 - i ∧ x2 = nI (adl (fun i => B (f0 + i)) i).1 ∧ x3 = nI (adl (fun i => B (f0 + i)) i).2) ?_ 200000 (len - f0) _ _ _ (by omega) ⟨0, rfl, by omega, rfl, rfl, rfl⟩
  rintro K mm x2 x3 x4 ⟨i, rfl, hi, rfl, rfl, rfl⟩ ih
  have ab := adl_b (fun i => B (f0 + i)) i
  unfold P_checkOf_7 Bytes_length
  by_cases z : len ≤ f0 + i
  · simp (disch := omega) only [Tt_R0, Tt_S, Tt_C, i_0, i_1, i_2, i_3, i_4, i_5, i_6, i_7, i_8, i_9, i_10, i_11, i_13, i_14, i_15, i_16, i_17, i_18, i_19, i_24, i_29, i_30, i_31, i_32, i_138, i_143, i_144, i_254, i_255, i_256, i_257, i_258, i_261, i_264, i_265, i_279, i_280, i_284, i_285, i_286, i_288, i_319, i_320, i_338, i_339, i_575, i_576, i_599, i_600, i_4096, i_8191, i_8192, i_8249, i_8250, i_8256, i_9000, i_16384, i_32767, i_32768, i_65520, i_65521, i_65535, i_65536, i_65999, i_66000, i_1300, i_120, i_156, nI_leI]
    have e : i = len - f0 := by omega
    rw [if_pos z, ← e, n_shl (by omega) (by omega), n_or, Nat.or_comm, ← n_or, n_ord (k := 16) (by omega)]
    unfold adC
    congr 1
    omega
  · have g0 := @e_at 200000 N len (f0 + i) c B (nI (f0 + i)) (nI len) h hl (by omega) (by omega) rfl rfl
    have z0 : bz B len (f0 + i) = B (f0 + i) := if_pos (by omega)
    rw [z0] at g0
    have b0 := h.2 (f0 + i)
    simp (disch := omega) only [Tt_R0, Tt_S, Tt_C, Tt_L, i_0, i_1, i_2, i_3, i_4, i_5, i_6, i_7, i_8, i_9, i_10, i_11, i_13, i_14, i_15, i_16, i_17, i_18, i_19, i_24, i_29, i_30, i_31, i_32, i_138, i_143, i_144, i_254, i_255, i_256, i_257, i_258, i_261, i_264, i_265, i_279, i_280, i_284, i_285, i_286, i_288, i_319, i_320, i_338, i_339, i_575, i_576, i_599, i_600, i_4096, i_8191, i_8192, i_8249, i_8250, i_8256, i_9000, i_16384, i_32767, i_32768, i_65520, i_65521, i_65535, i_65536, i_65999, i_66000, i_1300, i_120, i_156, nI_leI, g0, nI_add]
    rw [if_neg z]
    have m1 : ((adl (fun i => B (f0 + i)) i).1 + B (f0 + i)) % 65521 < 65521 := Nat.mod_lt _ (by omega)
    rw [pk_rem (by omega) (by omega) (by omega), nI_add, pk_rem (by omega) (by omega) (by omega)]
    exact ih (len - f0 - (i + 1)) _ _ _ (by omega) ⟨i + 1, rfl, by omega, rfl, rfl, rfl⟩
theorem t_checkM {c : Nat → Int32} {b : Nat → Nat} {N a n : Nat} {x1 x2 : Int32} (h : Row c a n b) (hl : a + n ≤ N) (hN : N ≤ 100000) (h1 : x1 = nI a) (h2 : x2 = nI n) : Tt (M_checkOf 200000 N c x1 x2) (fun u => u.1 = lN (adC b n)) := by
  subst h1 h2
  unfold M_checkOf
  refine Tt_W3 (fun mm x3 x5 x7 => ∃ i, x7 = nI (a + i) ∧ i ≤ n ∧ mm = n - i ∧ x3 = lN (adl b i).1 ∧ x5 = lN (adl b i).2) ?_ 200000 n _ _ _ (by omega) ⟨0, rfl, by omega, rfl, rfl, rfl⟩
  rintro K mm x3 x5 x7 ⟨i, rfl, hi, rfl, rfl, rfl⟩ ih
  have ab := adl_b b i
  unfold M_checkOf_8
  by_cases z : n ≤ i
  · simp (disch := omega) only [Tt_C, Tt_S, nI_add, nI_leI]
    have e : i = n := by omega
    rw [if_pos (by omega), ← e]
    show lN 65536 * lN (adl b i).2 + lN (adl b i).1 = _
    rw [lN_mul, lN_add]
    unfold adC
    congr 1
    omega
  · have c0 := h.1 i (by omega)
    have b0 := h.2 i
    simp (disch := omega) only [Tt_C, Tt_S, Tt_L, i_0, i_1, i_2, i_3, i_4, i_5, i_6, i_7, i_8, i_9, i_10, i_11, i_13, i_14, i_15, i_16, i_17, i_18, i_19, i_24, i_29, i_30, i_31, i_32, i_138, i_143, i_144, i_254, i_255, i_256, i_257, i_258, i_261, i_264, i_265, i_279, i_280, i_284, i_285, i_286, i_288, i_319, i_320, i_338, i_339, i_575, i_576, i_599, i_600, i_4096, i_8191, i_8192, i_8249, i_8250, i_8256, i_9000, i_16384, i_32767, i_32768, i_65520, i_65521, i_65535, i_65536, i_65999, i_66000, i_1300, i_120, i_156, nI_add, nI_leI, Tt_N, nI_clamp, c0, sx_k, nI_l, lN_add]
    rw [if_neg (by omega)]
    refine ⟨by omega, ?_⟩
    have e1 : lN ((adl b i).1 + b i) - lN ((adl b i).1 + b i) / 65521 * 65521 = lN (((adl b i).1 + b i) % 65521) := pk_lRem (b := 65521) (by omega) (by omega) (by omega)
    have m1 : ((adl b i).1 + b i) % 65521 < 65521 := Nat.mod_lt _ (by omega)
    rw [e1, lN_add]
    have e2 : lN ((adl b i).2 + ((adl b i).1 + b i) % 65521) - lN ((adl b i).2 + ((adl b i).1 + b i) % 65521) / 65521 * 65521 = lN (((adl b i).2 + ((adl b i).1 + b i) % 65521) % 65521) := pk_lRem (b := 65521) (by omega) (by omega) (by omega)
    rw [e2]
    exact ih (n - (i + 1)) _ _ _ (by omega) ⟨i + 1, rfl, by omega, rfl, rfl, rfl⟩
theorem pos_up {b : Nat → Nat} {beg fin : Nat} : ∀ {s t : Nat}, s ≤ t → pos b beg fin s ≤ pos b beg fin t := by
  intro s t h
  induction t with
  | zero => have : s = 0 := by omega
            subst this; exact Nat.le_refl _
  | succ t ih =>
    by_cases e : s = t + 1
    · subst e; exact Nat.le_refl _
    · have := ih (by omega)
      show pos b beg fin s ≤ pos b beg fin t + _
      omega
/-- how many tokens a part has -/
def pT (b : Nat → Nat) (beg fin : Nat) : Nat := sm (fun t => if pos b beg fin t < fin then 1 else 0) 4097
theorem pT_e {b : Nat → Nat} {beg fin T : Nat} (h : isT b beg fin T) (hT : T ≤ 4096) : pT b beg fin = T := by
  apply sm_pre (by omega)
  · intro i hi
    exact if_pos (h.2 i hi)
  · intro i h1 _
    have := @pos_up b beg fin T i h1
    exact if_neg (by have := h.1; omega)
def pkP (b : Nat → Nat) (n beg fin : Nat) (W : WS) : WS := pkW b n beg fin (pT b beg fin) W
def chP (c : Nat) (W : WS) : Nat → WS
  | 0 => W
  | j + 1 => app (chP c W j) (c / 2 ^ (24 - 8 * j) % 256) 8
def chW (c : Nat) (W : WS) : WS := chP c W 4
/-- all bits of a packed piece -/
def pkA (b : Nat → Nat) (n : Nat) : WS := chW (adC b n) (alg (if n ≤ 4096 then pkP b n 0 n (app (app (0, 0) 120 8) 156 8) else pkP b n 4096 n (pkP b n 0 4096 (app (app (0, 0) 120 8) 156 8))))
theorem t_packC79 {c : Nat → Int32} {tc ex ol oo ooc many hrl htc hsl hdl hcl : Int32} {late before od sc dc toks msl lc ls ib it mdl msn msc mdn mdc hrow hcs htd hcle hnx hco : Nat → Int32} {pr : Nat → Nat → Int32} {b : Nat → Nat} {n : Nat} {W : WS} (h : Row c 0 n b) (hn : n ≤ 8192) (hW : ClsW ol oo ooc od W.1 W.2) : Tt (Packer_pack_79 200000 8192 (nI n) c tc ex ol oo ooc late before od sc dc toks msl many lc ls ib it pr mdl msn msc mdn mdc hrl htc hsl hdl hcl hrow hcs htd hcle hnx hco) (fun (r, _, _, ol, oo, ooc, _, _, od, _, _, _, _, _, _, _, _, _, _, _, _, _, _, _, _, _, _, _, _, _, _, _, _, _, _) => r = ol ∧ ClsW ol oo ooc od (chW (adC b n) (alg W)).1 (chW (adC b n) (alg W)).2) := by
  have al := adC_lt b n
  unfold Packer_pack_79
  rw [Tt_R4]
  refine Tt_m (t_align hW) ?_
  rintro ⟨_, a1, a2, a3, a4⟩ hW1
  dsimp only at hW1 ⊢
  rw [Tt_R0]
  refine Tt_m (t_checkC (f0 := 0) h hn (by omega) (by omega) rfl rfl) ?_
  rintro ⟨r, _⟩ hr
  have hr' : r = nI (adC b n) := by
    have : r = nI (adC (fun i => b (0 + i)) (n - 0)) := hr
    rw [this, Nat.sub_zero, show (fun i => b (0 + i)) = b from funext (fun i => by rw [Nat.zero_add])]
  subst hr'
  dsimp only
  have hW2 : ClsW a1 a2 a3 a4 (alg W).1 (alg W).2 := hW1
  generalize alg W = W2 at *
  generalize adC b n = C at *
  unfold chW
  refine Tt_W36 (fun (mm : Nat) btc bex bol boo booc blate bbefore bod bsc bdc btoks bmsl bmany blc bls bib bit bpr bmdl bmsn bmsc bmdn bmdc bhrl bhtc bhsl bhdl bhcl bhrow bhcs bhtd bhcle bhnx bhco (x1 x2 : Int32) => x1 = nI C ∧ ∃ j, j ≤ 4 ∧ mm = 4 - j ∧ x2 = (if j = 4 then -8 else nI (24 - 8 * j)) ∧ ClsW bol boo booc bod (chP C W2 j).1 (chP C W2 j).2) ?_ 200000 4 _ _ _ _ _ _ _ _ _ _ _ _ _ _ _ _ _ _ _ _ _ _ _ _ _ _ _ _ _ _ _ _ _ _ _ _ (by omega) ⟨rfl, 0, by omega, rfl, rfl, hW2⟩
  rintro K mm btc bex bol boo booc blate bbefore bod bsc bdc btoks bmsl bmany blc bls bib bit bpr bmdl bmsn bmsc bmdn bmdc bhrl bhtc bhsl bhdl bhcl bhrow bhcs bhtd bhcle bhnx bhco x1 x2 ⟨rfl, j, hj, rfl, rfl, hC⟩ ih
  unfold Packer_pack_98
  by_cases z : j = 4
  · subst z
    rw [if_pos rfl, Tt_C, if_pos (by decide)]
    unfold Packer_pack_124 BitWriter_length
    rw [Tt_R0, Tt_S, Tt_S]
    exact ⟨rfl, hC⟩
  · rw [if_neg z, Tt_C, if_neg (nI_pos (by omega)), Tt_L, i_31, n_ush (by omega) (by omega), i_255, n_255, Tt_R4]
    have m1 : C / 2 ^ (24 - 8 * j) % 256 < 2 ^ 8 := Nat.mod_lt _ (by omega)
    refine Tt_m (t_number hC (k := 8) (by omega) m1 rfl rfl) ?_
    rintro ⟨_, a1, a2, a3, a4⟩ hW3
    dsimp only at hW3 ⊢
    rw [Tt_L]
    refine ih (4 - (j + 1)) _ _ _ _ _ _ _ _ _ _ _ _ _ _ _ _ _ _ _ _ _ _ _ _ _ _ _ _ _ _ _ _ _ _ _ _ (by omega) ⟨rfl, j + 1, by omega, rfl, ?_, hW3⟩
    have : j = 0 ∨ j = 1 ∨ j = 2 ∨ j = 3 := by omega
    rcases this with rfl | rfl | rfl | rfl <;> decide
/-! the whole packing: program -/
theorem pkW_n {b : Nat → Nat} {n beg fin T : Nat} {W : WS} (hb : ∀ i, b i < 256) (hn : n ≤ 8192) (hfn : fin ≤ n) (hl : fin - beg ≤ 4096) (hT : T ≤ 4096) (hpt : ∀ t, t < T → pos b beg fin t < fin) : (pkW b n beg fin T W).1 ≤ W.1 + 202000 := by
  have t1 := @tws_n b n beg fin T lF (cAll lF) (app (app W (if fin = n then 1 else 0) 1) 1 2) hb hn hfn hpt (fun i _ => by have := lF_b i; omega) T (Nat.le_refl T)
  have f7 : ∀ x, pF (fSf b beg fin T) (fDf b beg fin T) x ≤ 7 := fun x => fitL_hi (by omega) (by decide)
  have t2 := @tws_n b n beg fin T (lM b beg fin T) (cAll (lM b beg fin T)) (hdr (pH (fSf b beg fin T)) (pD (fDf b beg fin T)) (pF (fSf b beg fin T) (fDf b beg fin T)) (pL (fSf b beg fin T) (fDf b beg fin T)) (app (app W (if fin = n then 1 else 0) 1) 2 2)) hb hn hfn hpt (fun i _ => lM_b _ _ _ _ i) T (Nat.le_refl T)
  have l1 := lF_b 256
  have l2 := lM_b b beg fin T 256
  have ln : (pL (fSf b beg fin T) (fDf b beg fin T)).1 ≤ pH (fSf b beg fin T) + pD (fDf b beg fin T) := told_n _ _
  have bH := pH_b (fSf b beg fin T)
  have bD := pD_b (fDf b beg fin T)
  have cb := (cln_b (pF (fSf b beg fin T) (fDf b beg fin T)) 19).1
  have h2 : (hdr (pH (fSf b beg fin T)) (pD (fDf b beg fin T)) (pF (fSf b beg fin T) (fDf b beg fin T)) (pL (fSf b beg fin T) (fDf b beg fin T)) (app (app W (if fin = n then 1 else 0) 1) 2 2)).1 ≤ W.1 + 3 + 14 + 57 + 14 * 316 := by
    unfold hdr
    have q1 := @hss_n (pF (fSf b beg fin T) (fDf b beg fin T)) (pL (fSf b beg fin T) (fDf b beg fin T)) (hds (pF (fSf b beg fin T) (fDf b beg fin T)) (app (app (app (app (app W (if fin = n then 1 else 0) 1) 2 2) (pH (fSf b beg fin T) - 257) 5) (pD (fDf b beg fin T) - 1) 5) (cln (pF (fSf b beg fin T) (fDf b beg fin T)) 19 - 4) 4) (cln (pF (fSf b beg fin T) (fDf b beg fin T)) 19)) f7 (pL (fSf b beg fin T) (fDf b beg fin T)).1
    rw [hds_n] at q1
    have q2 : (app (app (app (app (app W (if fin = n then 1 else 0) 1) 2 2) (pH (fSf b beg fin T) - 257) 5) (pD (fDf b beg fin T) - 1) 5) (cln (pF (fSf b beg fin T) (fDf b beg fin T)) 19 - 4) 4).1 = W.1 + 1 + 2 + 5 + 5 + 4 := rfl
    rw [q2] at q1
    omega
  have w1 : (app (app W (if fin = n then 1 else 0) 1) 1 2).1 = W.1 + 1 + 2 := rfl
  unfold pkW
  split
  · unfold stW
    rw [sto_n]
    show W.1 + 1 + 2 + (8 - (W.1 + 1 + 2) % 8) % 8 + 16 + 16 + 8 * (fin - beg) ≤ _
    omega
  · split
    · unfold tkW
      show (tws b beg fin lF (cAll lF) (app (app W (if fin = n then 1 else 0) 1) 1 2) T).1 + lF 256 ≤ _
      omega
    · unfold tkW
      show (tws b beg fin (lM b beg fin T) (cAll (lM b beg fin T)) (hdr (pH (fSf b beg fin T)) (pD (fDf b beg fin T)) (pF (fSf b beg fin T) (fDf b beg fin T)) (pL (fSf b beg fin T) (fDf b beg fin T)) (app (app W (if fin = n then 1 else 0) 1) 2 2)) T).1 + lM b beg fin T 256 ≤ _
      omega
theorem t_packC39 {c fs fd fc fdc : Nat → Int32} {tc ex ol oo ooc many hrl htc hsl hdl hcl : Int32} {late before od sc dc toks msl lc ls ib it mdl msn msc mdn mdc hrow hcs htd hcle hnx hco : Nat → Int32} {pr : Nat → Nat → Int32} {b : Nat → Nat} {n beg fin : Nat} {W : WS} {k79 k39 : _} {Q : _ → Prop} (h : Row c 0 n b) (hn : n ≤ 8192) (hB : ∀ p, p < n → before p = nI (lb (hf b n) p (hf b n p))) (hF : FixC fs fc fd fdc) (hb1 : beg < n) (hfin : fin = min (beg + 4096) n) (hW : ClsW ol oo ooc od W.1 W.2) (hQ : ∀ tc2 ex2 sc2 dc2 toks2 msl2 many2 lc2 ls2 ib2 it2 pr2 mdl2 msn2 msc2 mdn2 mdc2 ol2 oo2 ooc2 hrl2 htc2 hsl2 hdl2 hcl2 hrow2 hcs2 htd2 hcle2 hnx2 hco2 od2, ClsW ol2 oo2 ooc2 od2 (pkP b n beg fin W).1 (pkP b n beg fin W).2 → Tt (k39 tc2 ex2 ol2 oo2 ooc2 late before od2 sc2 dc2 toks2 msl2 many2 lc2 ls2 ib2 it2 pr2 mdl2 msn2 msc2 mdn2 mdc2 hrl2 htc2 hsl2 hdl2 hcl2 hrow2 hcs2 htd2 hcle2 hnx2 hco2 (nI (beg + 4096))) Q) : Tt (Packer_pack_39 200000 8192 286 30 286 30 288 32 19 19 288 32 (nI n) c fs fd fc fdc k79 k39 tc ex ol oo ooc late before od sc dc toks msl many lc ls ib it pr mdl msn msc mdn mdc hrl htc hsl hdl hcl hrow hcs htd hcle hnx hco (nI beg)) Q := by
  unfold Packer_pack_39 Bytes_length
  simp (disch := omega) only [Tt_R0, Tt_S, Tt_C, nI_leI]
  rw [if_neg (by omega)]
  have e1 : (if nI n < nI (beg + 4096) then nI n else nI (beg + 4096)) = nI fin := by
    by_cases z : n < beg + 4096
    · rw [if_pos (by rw [nI_ltI (by omega) (by omega)]; exact z)]; exact congrArg nI (by omega)
    · rw [if_neg (by rw [nI_ltI (by omega) (by omega)]; exact z)]; exact congrArg nI (by omega)
  simp only [Tt_L, i_0, i_1, i_2, i_3, i_4, i_5, i_6, i_7, i_8, i_9, i_10, i_11, i_13, i_14, i_15, i_16, i_17, i_18, i_19, i_24, i_29, i_30, i_31, i_32, i_138, i_143, i_144, i_254, i_255, i_256, i_257, i_258, i_261, i_264, i_265, i_279, i_280, i_284, i_285, i_286, i_288, i_319, i_320, i_338, i_339, i_575, i_576, i_599, i_600, i_4096, i_8191, i_8192, i_8249, i_8250, i_8256, i_9000, i_16384, i_32767, i_32768, i_65520, i_65521, i_65535, i_65536, i_65999, i_66000, i_1300, i_120, i_156, nI_add, e1]
  rw [Tt_R32]
  refine Tt_m (t_partC h hn hB (by omega) (by omega) (by omega) hF rfl rfl hW) ?_
  rintro ⟨_, tc2, ex2, sc2, dc2, toks2, msl2, many2, lc2, ls2, ib2, it2, pr2, mdl2, msn2, msc2, mdn2, mdc2, ol2, oo2, ooc2, hrl2, htc2, hsl2, hdl2, hcl2, hrow2, hcs2, htd2, hcle2, hnx2, hco2, od2⟩ ⟨T, hT, hisT, hu⟩
  have ep : pT b beg fin = T := pT_e hisT (by omega)
  refine hQ tc2 ex2 sc2 dc2 toks2 msl2 many2 lc2 ls2 ib2 it2 pr2 mdl2 msn2 msc2 mdn2 mdc2 ol2 oo2 ooc2 hrl2 htc2 hsl2 hdl2 hcl2 hrow2 hcs2 htd2 hcle2 hnx2 hco2 od2 ?_
  unfold pkP
  rw [ep]
  first | exact hu | exact Tt_Si hu
/-- the program packs -/
theorem t_packC {c fs fd fc fdc : Nat → Int32} {tc ex ol oo ooc many hrl htc hsl hdl hcl : Int32} {late before od sc dc toks msl lc ls ib it mdl msn msc mdn mdc hrow hcs htd hcle hnx hco : Nat → Int32} {pr : Nat → Nat → Int32} {b : Nat → Nat} {n : Nat} {y : Int32} (h : Row c 0 n b) (hn0 : 1 ≤ n) (hn : n ≤ 8192) (hF : FixC fs fc fd fdc) (hy : y = nI n) : Tt (Packer_pack 200000 8192 286 30 286 30 288 32 19 19 288 32 y c fs fd fc fdc tc ex ol oo ooc late before od sc dc toks msl many lc ls ib it pr mdl msn msc mdn mdc hrl htc hsl hdl hcl hrow hcs htd hcle hnx hco) (fun (r, _, _, ol, oo, ooc, _, _, od, _, _, _, _, _, _, _, _, _, _, _, _, _, _, _, _, _, _, _, _, _, _, _, _, _, _) => r = ol ∧ ClsW ol oo ooc od (pkA b n).1 (pkA b n).2) := by
  subst hy
  unfold Packer_pack
  rw [Tt_R3]
  unfold BitWriter_clear
  rw [Tt_S, Tt_R2]
  refine Tt_m (t_chain h hn rfl) ?_
  rintro ⟨_, late2, before2⟩ hB
  dsimp only at hB ⊢
  rw [Tt_R4]
  refine Tt_m (t_number (n := 0) (V := 0) (k := 8) (v := 120) ⟨rfl, rfl, rfl, by omega, fun i hi => by omega⟩ (by omega) (by omega) rfl rfl) ?_
  rintro ⟨_, a1, a2, a3, a4⟩ hW1
  dsimp only at hW1 ⊢
  rw [Tt_R4]
  refine Tt_m (t_number hW1 (k := 8) (v := 156) (by omega) (by omega) rfl rfl) ?_
  rintro ⟨_, ol3, oo3, ooc3, od3⟩ hW2
  dsimp only at hW2 ⊢
  have hW3 : ClsW ol3 oo3 ooc3 od3 (app (app (0, 0) 120 8) 156 8).1 (app (app (0, 0) 120 8) 156 8).2 := hW2
  unfold pkA
  generalize app (app (0, 0) 120 8) 156 8 = W0 at *
  show Tt (Packer_pack_39 200000 8192 286 30 286 30 288 32 19 19 288 32 (nI n) c fs fd fc fdc (Packer_pack_79 200000 8192 (nI n) c) (mW35 (Packer_pack_39 200000 8192 286 30 286 30 288 32 19 19 288 32 (nI n) c fs fd fc fdc (Packer_pack_79 200000 8192 (nI n) c)) 199999) tc ex ol3 oo3 ooc3 late2 before2 od3 sc dc toks msl many lc ls ib it pr mdl msn msc mdn mdc hrl htc hsl hdl hcl hrow hcs htd hcle hnx hco (nI 0)) _
  refine t_packC39 (fin := min (0 + 4096) n) h hn hB hF (by omega) rfl hW3 ?_
  intro tc2 ex2 sc2 dc2 toks2 msl2 many2 lc2 ls2 ib2 it2 pr2 mdl2 msn2 msc2 mdn2 mdc2 ol2 oo2 ooc2 hrl2 htc2 hsl2 hdl2 hcl2 hrow2 hcs2 htd2 hcle2 hnx2 hco2 od2 hW4
  by_cases z : n ≤ 4096
  · rw [if_pos z]
    rw [show min (0 + 4096) n = n by omega] at hW4
    generalize pkP b n 0 n W0 = W1 at *
    show Tt (Packer_pack_39 200000 8192 286 30 286 30 288 32 19 19 288 32 (nI n) c fs fd fc fdc (Packer_pack_79 200000 8192 (nI n) c) (mW35 (Packer_pack_39 200000 8192 286 30 286 30 288 32 19 19 288 32 (nI n) c fs fd fc fdc (Packer_pack_79 200000 8192 (nI n) c)) 199998) tc2 ex2 ol2 oo2 ooc2 late2 before2 od2 sc2 dc2 toks2 msl2 many2 lc2 ls2 ib2 it2 pr2 mdl2 msn2 msc2 mdn2 mdc2 hrl2 htc2 hsl2 hdl2 hcl2 hrow2 hcs2 htd2 hcle2 hnx2 hco2 (nI (0 + 4096))) _
    unfold Packer_pack_39 Bytes_length
    simp (disch := omega) only [Tt_R0, Tt_S, Tt_C, nI_leI]
    rw [if_pos (by omega)]
    exact t_packC79 h hn hW4
  · rw [if_neg z]
    rw [show min (0 + 4096) n = 4096 by omega] at hW4
    generalize pkP b n 0 4096 W0 = W1 at *
    show Tt (Packer_pack_39 200000 8192 286 30 286 30 288 32 19 19 288 32 (nI n) c fs fd fc fdc (Packer_pack_79 200000 8192 (nI n) c) (mW35 (Packer_pack_39 200000 8192 286 30 286 30 288 32 19 19 288 32 (nI n) c fs fd fc fdc (Packer_pack_79 200000 8192 (nI n) c)) 199998) tc2 ex2 ol2 oo2 ooc2 late2 before2 od2 sc2 dc2 toks2 msl2 many2 lc2 ls2 ib2 it2 pr2 mdl2 msn2 msc2 mdn2 mdc2 hrl2 htc2 hsl2 hdl2 hcl2 hrow2 hcs2 htd2 hcle2 hnx2 hco2 (nI (0 + 4096))) _
    refine t_packC39 (beg := 4096) (fin := n) h hn hB hF (by omega) (by omega) hW4 ?_
    intro tc3 ex3 sc3 dc3 toks3 msl3 many3 lc3 ls3 ib3 it3 pr3 mdl3 msn3 msc3 mdn3 mdc3 ol3 oo3 ooc3 hrl3 htc3 hsl3 hdl3 hcl3 hrow3 hcs3 htd3 hcle3 hnx3 hco3 od3 hW5
    generalize pkP b n 4096 n W1 = W2 at *
    show Tt (Packer_pack_39 200000 8192 286 30 286 30 288 32 19 19 288 32 (nI n) c fs fd fc fdc (Packer_pack_79 200000 8192 (nI n) c) (mW35 (Packer_pack_39 200000 8192 286 30 286 30 288 32 19 19 288 32 (nI n) c fs fd fc fdc (Packer_pack_79 200000 8192 (nI n) c)) 199997) tc3 ex3 ol3 oo3 ooc3 late2 before2 od3 sc3 dc3 toks3 msl3 many3 lc3 ls3 ib3 it3 pr3 mdl3 msn3 msc3 mdn3 mdc3 hrl3 htc3 hsl3 hdl3 hcl3 hrow3 hcs3 htd3 hcle3 hnx3 hco3 (nI (4096 + 4096))) _
    unfold Packer_pack_39 Bytes_length
    simp (disch := omega) only [Tt_R0, Tt_S, Tt_C, nI_leI]
    rw [if_pos (by omega)]
    exact t_packC79 h hn hW5
/-! the whole packing: reference -/
theorem t_packM94 {c : Nat → Int32} {pb tok st : Int32} {pl before pk tl tv cnt rk len we wb it lr sp mo fx co : Nat → Int32} {b : Nat → Nat} {N a n : Nat} {W : WS} (h : Row c a n b) (hn : n ≤ 8192) (haN : a + n ≤ N) (hN : N ≤ 65536) (hw : W.1 ≤ 500000) (hW : RefW pb pk W.1 W.2) : Tt (M_pack_94 200000 N c (nI a) (nI n) pb tok st pl before pk tl tv cnt rk len we wb it lr sp mo fx co) (fun (r, pb, _, _, _, _, pk, _, _, _, _, _, _, _, _, _, _, _, _, _) => r = nI ((chW (adC b n) (alg W)).1 / 8) ∧ RefW pb pk (chW (adC b n) (alg W)).1 (chW (adC b n) (alg W)).2) := by
  have al := adC_lt b n
  unfold M_pack_94
  rw [Tt_R2]
  refine Tt_m (t_endByte hW (by omega)) ?_
  rintro ⟨_, a1, a2⟩ hW1
  dsimp only at hW1 ⊢
  rw [Tt_R0]
  refine Tt_m (t_checkM h haN (by omega) rfl rfl) ?_
  rintro ⟨r, _⟩ hr
  have hr' : r = lN (adC b n) := hr
  subst hr'
  dsimp only
  have hW2 : RefW a1 a2 (alg W).1 (alg W).2 := hW1
  have n2 : (alg W).1 ≤ W.1 + 7 := by show W.1 + (8 - W.1 % 8) % 8 ≤ _; omega
  generalize alg W = W2 at *
  generalize adC b n = C at *
  unfold chW
  have nP : ∀ j, (chP C W2 j).1 = W2.1 + 8 * j := by
    intro j
    induction j with
    | zero => rfl
    | succ j ih =>
      show (chP C W2 j).1 + 8 = _
      omega
  refine Tt_W21 (fun (mm : Nat) bpb btok bst bpl bbefore bpk btl btv bcnt brk blen bwe bwb bit blr bsp bmo bfx bco (x6 : Int64) (x8 : Int32) => x6 = lN C ∧ ∃ j, j ≤ 4 ∧ mm = 4 - j ∧ x8 = (if j = 4 then -8 else nI (24 - 8 * j)) ∧ RefW bpb bpk (chP C W2 j).1 (chP C W2 j).2) ?_ 200000 4 _ _ _ _ _ _ _ _ _ _ _ _ _ _ _ _ _ _ _ _ _ (by omega) ⟨rfl, 0, by omega, rfl, rfl, hW2⟩
  rintro K mm bpb btok bst bpl bbefore bpk btl btv bcnt brk blen bwe bwb bit blr bsp bmo bfx bco x6 x8 ⟨rfl, j, hj, rfl, rfl, hC⟩ ih
  have nj := nP j
  unfold M_pack_110
  by_cases z : j = 4
  · subst z
    rw [if_pos rfl, Tt_C, if_pos (by decide), Tt_S]
    refine ⟨?_, hC⟩
    rw [hC.1, i_8, pk_div (by omega) (by omega) (by omega)]
  · rw [if_neg z, Tt_C, if_neg (nI_pos (by omega)), Tt_L, l_shr (by omega) (by omega), l_255, lN_i, Tt_R2]
    have m1 : C / 2 ^ (24 - 8 * j) % 256 < 2 ^ 8 := Nat.mod_lt _ (by omega)
    refine Tt_m (t_writeNumber hC (k := 8) (by omega) (by omega) (by omega) rfl rfl) ?_
    rintro ⟨_, a1, a2⟩ hW3
    dsimp only at hW3 ⊢
    rw [Nat.mod_eq_of_lt m1] at hW3
    rw [Tt_L]
    refine ih (4 - (j + 1)) _ _ _ _ _ _ _ _ _ _ _ _ _ _ _ _ _ _ _ _ _ (by omega) ⟨rfl, j + 1, by omega, rfl, ?_, hW3⟩
    have : j = 0 ∨ j = 1 ∨ j = 2 ∨ j = 3 := by omega
    rcases this with rfl | rfl | rfl | rfl <;> decide
theorem t_packM35 {c : Nat → Int32} {pb tok st : Int32} {pl before pk tl tv cnt rk len we wb it lr sp mo fx co : Nat → Int32} {b : Nat → Nat} {N a n beg fin : Nat} {W : WS} {k94 k35 : _} {Q : _ → Prop} (h : Row c a n b) (hn : n ≤ 8192) (haN : a + n ≤ N) (hN : N ≤ 65536) (hB : ∀ p, p + 1 < n → before p = nI (lb (pf b) p (pf b p)) - 1) (hb1 : beg < n) (hfin : fin = min (beg + 4096) n) (hw : W.1 ≤ 280000) (hW : RefW pb pk W.1 W.2) (hQ : ∀ pb2 tok2 st2 tl2 tv2 cnt2 rk2 len2 we2 wb2 it2 lr2 sp2 mo2 fx2 pk2 co2, (pkP b n beg fin W).1 ≤ W.1 + 202000 → RefW pb2 pk2 (pkP b n beg fin W).1 (pkP b n beg fin W).2 → Tt (k35 pb2 tok2 st2 pl before pk2 tl2 tv2 cnt2 rk2 len2 we2 wb2 it2 lr2 sp2 mo2 fx2 co2 (nI fin) (nI (if fin = n then 1 else 0))) Q) : Tt (M_pack_35 200000 N c (nI a) (nI n) k94 k35 pb tok st pl before pk tl tv cnt rk len we wb it lr sp mo fx co (nI beg) 0) Q := by
  have body : Tt (M_pack_60 200000 N c (nI a) (nI n) k35 pb tok st pl before pk tl tv cnt rk len we wb it lr sp mo fx co (nI beg) (nI fin)) Q := by
    have run : ∀ s0, s0 = nI (if fin = n then 1 else 0) → Tt (M_pack_73 200000 N c (nI a) k35 pb tok st pl before pk tl tv cnt rk len we wb it lr sp mo fx co (nI beg) (nI fin) s0) Q := by
      intro s0 hs
      unfold M_pack_73
      rw [Tt_R17]
      refine Tt_m (t_partM (W := W) h hn haN hN hB (by omega) (by omega) (by omega) rfl rfl rfl hs hw hW) ?_
      rintro ⟨_, pb2, tok2, st2, tl2, tv2, cnt2, rk2, len2, we2, wb2, it2, lr2, sp2, mo2, fx2, pk2, co2⟩ ⟨T, hT, hisT, hu⟩
      have ep : pT b beg fin = T := pT_e hisT (by omega)
      subst hs
      have e2 : pkP b n beg fin W = pkW b n beg fin T W := by unfold pkP; rw [ep]
      refine hQ pb2 tok2 st2 tl2 tv2 cnt2 rk2 len2 we2 wb2 it2 lr2 sp2 mo2 fx2 pk2 co2 ?_ ?_
      · rw [e2]; exact pkW_n h.2 hn (by omega) (by omega) (by omega) hisT.2
      · rw [e2]; exact hu
    unfold M_pack_60
    simp (disch := omega) only [Tt_C, Tt_S, nI_eq]
    by_cases z : fin = n
    · rw [if_pos z]
      exact run _ (by rw [if_pos z]; rfl)
    · rw [if_neg z]
      exact run _ (by rw [if_neg z]; rfl)
  unfold M_pack_35
  rw [Tt_C, if_pos rfl]
  simp (disch := omega) only [Tt_C, Tt_S, i_0, i_1, i_2, i_3, i_4, i_5, i_6, i_7, i_8, i_9, i_10, i_11, i_13, i_14, i_15, i_16, i_17, i_18, i_19, i_24, i_29, i_30, i_31, i_32, i_138, i_143, i_144, i_254, i_255, i_256, i_257, i_258, i_261, i_264, i_265, i_279, i_280, i_284, i_285, i_286, i_288, i_319, i_320, i_338, i_339, i_575, i_576, i_599, i_600, i_4096, i_8191, i_8192, i_8249, i_8250, i_8256, i_9000, i_16384, i_32767, i_32768, i_65520, i_65521, i_65535, i_65536, i_65999, i_66000, i_1300, i_120, i_156, nI_add, nI_leI]
  by_cases z : n ≤ beg + 4096
  · rw [if_pos z]
    rw [show fin = n by omega] at body
    exact body
  · rw [if_neg z]
    rw [show fin = beg + 4096 by omega] at body
    exact body
/-- the reference packs -/
theorem t_packM {c : Nat → Int32} {pb tok st : Int32} {pl before pk tl tv cnt rk len we wb it lr sp mo fx co : Nat → Int32} {b : Nat → Nat} {N a n : Nat} {x2 x3 : Int32} (h : Row c a n b) (hn0 : 1 ≤ n) (hn : n ≤ 8192) (haN : a + n ≤ N) (hN : N ≤ 65536) (e2 : x2 = nI a) (e3 : x3 = nI n) : Tt (M_pack 200000 N c pb tok st pl before pk tl tv cnt rk len we wb it lr sp mo fx co x2 x3) (fun (r, pb, _, _, _, _, pk, _, _, _, _, _, _, _, _, _, _, _, _, _) => r = nI ((pkA b n).1 / 8) ∧ RefW pb pk (pkA b n).1 (pkA b n).2) := by
  subst e2 e3
  unfold M_pack
  rw [Tt_R2]
  refine Tt_m (t_notePairs h hn haN hN rfl rfl) ?_
  rintro ⟨_, pl2, before2⟩ hB
  dsimp only at hB ⊢
  rw [Tt_R2]
  refine Tt_m (t_writeNumber (n := 0) (V := 0) (k := 8) (v := 120) ⟨rfl, by omega, fun i hi => by omega⟩ (by omega) (by omega) (by omega) rfl rfl) ?_
  rintro ⟨_, a1, a2⟩ hW1
  dsimp only at hW1 ⊢
  rw [Tt_R2]
  refine Tt_m (t_writeNumber hW1 (k := 8) (v := 156) (by omega) (by omega) (by omega) rfl rfl) ?_
  rintro ⟨_, pb3, pk3⟩ hW2
  dsimp only at hW2 ⊢
  have hW3 : RefW pb3 pk3 (app (app (0, 0) 120 8) 156 8).1 (app (app (0, 0) 120 8) 156 8).2 := hW2
  have n0 : (app (app (0, 0) 120 8) 156 8).1 = 16 := rfl
  unfold pkA
  generalize app (app (0, 0) 120 8) 156 8 = W0 at *
  show Tt (M_pack_35 200000 N c (nI a) (nI n) (M_pack_94 200000 N c (nI a) (nI n)) (mW21 (M_pack_35 200000 N c (nI a) (nI n) (M_pack_94 200000 N c (nI a) (nI n))) 199999) pb3 tok st pl2 before2 pk3 tl tv cnt rk len we wb it lr sp mo fx co (nI 0) 0) _
  refine t_packM35 (fin := min (0 + 4096) n) h hn haN hN hB (by omega) rfl (by omega) hW3 ?_
  intro pb2 tok2 st2 tl2 tv2 cnt2 rk2 len2 we2 wb2 it2 lr2 sp2 mo2 fx2 pk2 co2 nW4 hW4
  by_cases z : n ≤ 4096
  · rw [if_pos z]
    rw [show min (0 + 4096) n = n by omega] at hW4 nW4 ⊢
    rw [if_pos rfl]
    generalize pkP b n 0 n W0 = W1 at *
    show Tt (M_pack_35 200000 N c (nI a) (nI n) (M_pack_94 200000 N c (nI a) (nI n)) (mW21 (M_pack_35 200000 N c (nI a) (nI n) (M_pack_94 200000 N c (nI a) (nI n))) 199998) pb2 tok2 st2 pl2 before2 pk2 tl2 tv2 cnt2 rk2 len2 we2 wb2 it2 lr2 sp2 mo2 fx2 co2 (nI n) (nI 1)) _
    unfold M_pack_35
    rw [Tt_C, if_neg (by decide)]
    exact t_packM94 h hn haN hN (by omega) hW4
  · rw [if_neg z]
    rw [show min (0 + 4096) n = 4096 by omega] at hW4 nW4 ⊢
    rw [if_neg (by omega)]
    generalize pkP b n 0 4096 W0 = W1 at *
    show Tt (M_pack_35 200000 N c (nI a) (nI n) (M_pack_94 200000 N c (nI a) (nI n)) (mW21 (M_pack_35 200000 N c (nI a) (nI n) (M_pack_94 200000 N c (nI a) (nI n))) 199998) pb2 tok2 st2 pl2 before2 pk2 tl2 tv2 cnt2 rk2 len2 we2 wb2 it2 lr2 sp2 mo2 fx2 co2 (nI 4096) 0) _
    refine t_packM35 (beg := 4096) (fin := n) h hn haN hN hB (by omega) (by omega) (by omega) hW4 ?_
    intro pb3 tok3 st3 tl3 tv3 cnt3 rk3 len3 we3 wb3 it3 lr3 sp3 mo3 fx3 pk3 co3 nW5 hW5
    rw [if_pos rfl]
    generalize pkP b n 4096 n W1 = W2 at *
    show Tt (M_pack_35 200000 N c (nI a) (nI n) (M_pack_94 200000 N c (nI a) (nI n)) (mW21 (M_pack_35 200000 N c (nI a) (nI n) (M_pack_94 200000 N c (nI a) (nI n))) 199997) pb3 tok3 st3 pl2 before2 pk3 tl3 tv3 cnt3 rk3 len3 we3 wb3 it3 lr3 sp3 mo3 fx3 co3 (nI n) (nI 1)) _
    unfold M_pack_35
    rw [Tt_C, if_neg (by decide)]
    exact t_packM94 h hn haN hN (by omega) hW5
