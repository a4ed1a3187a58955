/-! tokens written: program and reference write the same -/
abbrev WS := Nat × Nat
def app (W : WS) (v k : Nat) : WS := (W.1 + k, W.2 + v * 2 ^ W.1)
def twk (b : Nat → Nat) (beg fin : Nat) (l c : Nat → Nat) (W : WS) (t : Nat) : WS := if tL b beg fin t = 0 then app W (c (tV b beg fin t)) (l (tV b beg fin t)) else app (app (app (app W (c (lsym (tL b beg fin t))) (l (lsym (tL b beg fin t)))) (tL b beg fin t - lbase (lsym (tL b beg fin t))) (lex (lsym (tL b beg fin t)))) (c (288 + dsym (tV b beg fin t))) (l (288 + dsym (tV b beg fin t)))) (tV b beg fin t - dbase (dsym (tV b beg fin t))) (dex (dsym (tV b beg fin t)))
def tws (b : Nat → Nat) (beg fin : Nat) (l c : Nat → Nat) (W : WS) : Nat → WS
  | 0 => W
  | t + 1 => twk b beg fin l c (tws b beg fin l c W t) t
/-- what a token uses has a code -/
def usdT (b : Nat → Nat) (beg fin T : Nat) (l : Nat → Nat) : Prop := 0 < l 256 ∧ ∀ t, t < T → 0 < l (sOf b beg fin t) ∧ (tL b beg fin t ≠ 0 → 0 < l (288 + dsym (tV b beg fin t)))
theorem t_writeTokC {b : Nat → Nat} {n beg fin T N1 N2 : Nat} {tc len op oc : Int32} {toks l1 c1 l2 c2 out : Nat → Int32} {l c : Nat → Nat} {W : WS} (hb : ∀ i, b i < 256) (hn : n ≤ 8192) (hfn : fin ≤ n) (hT : T ≤ 4096) (hpt : ∀ t, t < T → pos b beg fin t < fin) (htc : tc = nI T) (hv : ∀ t, t < T → toks t = nI (vOf b beg fin t)) (hN1 : 286 ≤ N1) (hN1' : N1 ≤ 288) (hN2 : 30 ≤ N2) (hN2' : N2 ≤ 32) (hl1 : ∀ s, s < 286 → l1 s = nI (l s) ∧ l s ≤ 15) (hl2 : ∀ d, d < 30 → l2 d = nI (l (288 + d)) ∧ l (288 + d) ≤ 15) (hc1 : ∀ s, s < 286 → 0 < l s → c1 s = nI (c s) ∧ c s < 2 ^ l s) (hc2 : ∀ d, d < 30 → 0 < l (288 + d) → c2 d = nI (c (288 + d)) ∧ c (288 + d) < 2 ^ l (288 + d)) (hU : usdT b beg fin T l) (h : ClsW len op oc out W.1 W.2) : Tt (Packer_writeTokens 200000 N1 N1 N2 N2 tc toks l1 c1 l2 c2 len op oc out) (fun u => ClsW u.2.1 u.2.2.1 u.2.2.2.1 u.2.2.2.2 (app (tws b beg fin l c W T) (c 256) (l 256)).1 (app (tws b beg fin l c W T) (c 256) (l 256)).2) := by
  subst htc
  unfold Packer_writeTokens
  refine Tt_W5 (fun mm len op oc out x3 => ∃ t, x3 = nI t ∧ t ≤ T ∧ mm = T - t ∧ ClsW len op oc out (tws b beg fin l c W t).1 (tws b beg fin l c W t).2) ?_ 200000 T _ _ _ _ _ (by omega) ⟨0, rfl, by omega, rfl, h⟩
  rintro K mm len op oc out x3 ⟨t, rfl, ht, rfl, hC⟩ ih
  unfold Packer_writeTokens_2
  by_cases z : T ≤ t
  · simp (disch := omega) only [Tt_C, nI_leI]
    rw [if_pos z]
    have et : t = T := by omega
    subst et
    unfold Packer_writeTokens_149
    rw [Tt_R4]
    refine Tt_m (t_codeWrite hC (hl1 256 (by omega)).2 (s := 256) rfl (by omega) (by omega) (hl1 256 (by omega)).1 (hc1 256 (by omega) hU.1).1 (hc1 256 (by omega) hU.1).2) ?_
    intro u hu
    exact hu
  · have tb := @tok_b b beg fin n t hb (hpt t (by omega)) hfn
    have v1 := hv t (by omega)
    have us := (hU.2 t (by omega)).1
    have ud := (hU.2 t (by omega)).2
    have next : ∀ len' op' oc' out', ClsW len' op' oc' out' (twk b beg fin l c (tws b beg fin l c W t) t).1 (twk b beg fin l c (tws b beg fin l c W t) t).2 → Tt (K len' op' oc' out' (nI (t + 1))) (fun u => ClsW u.2.1 u.2.2.1 u.2.2.2.1 u.2.2.2.2 (app (tws b beg fin l c W T) (c 256) (l 256)).1 (app (tws b beg fin l c W T) (c 256) (l 256)).2) := by
      intro len' op' oc' out' h'
      exact ih (T - (t + 1)) _ _ _ _ _ (by omega) ⟨t + 1, rfl, by omega, rfl, h'⟩
    generalize tws b beg fin l c W t = W0 at *
    unfold twk at next
    unfold Packer_writeTokens_143
    rcases tb with tb | tb
    · have e1 : vOf b beg fin t = tV b beg fin t := if_pos tb.1
      have e2 : sOf b beg fin t = tV b beg fin t := if_pos tb.1
      rw [e1] at v1
      rw [e2] at us
      rw [if_pos tb.1] at next
      have g1 := hl1 (tV b beg fin t) (by omega)
      have g2 := hc1 (tV b beg fin t) (by omega) us
      simp (disch := omega) only [Tt_L, Tt_S, Tt_C, Tt_Z, Tt_R0, Tt_R1, Tt_R2, Tt_R3, Tt_R4, Tt_R5, q10, eq_self, if_true, if_false, i_0, i_1, i_2, i_3, i_4, i_5, i_6, i_7, i_8, i_9, i_10, i_11, i_13, i_14, i_15, i_16, i_17, i_18, i_19, i_24, i_29, i_30, i_31, i_32, i_138, i_143, i_144, i_254, i_255, i_256, i_257, i_258, i_261, i_264, i_265, i_279, i_280, i_284, i_285, i_286, i_288, i_319, i_320, i_338, i_339, i_575, i_576, i_599, i_600, i_4096, i_8191, i_8192, i_8249, i_8250, i_8256, i_9000, i_16384, i_32767, i_32768, i_65520, i_65521, i_65535, i_65536, i_65999, i_66000, i_1300, i_120, i_156, nI_leI, Tt_N, nI_clamp, v1, nI_add]
      rw [if_neg z, if_neg (by omega), if_neg (by omega)]
      refine ⟨by omega, by omega, ?_⟩
      refine Tt_m (t_codeWrite hC g1.2 rfl (by omega) (by omega) g1.1 g2.1 g2.2) ?_
      rintro ⟨_, len', op', oc', out'⟩ h'
      exact next _ _ _ _ h'
    · have n0 : ¬ (tL b beg fin t = 0) := by omega
      have e1 : vOf b beg fin t = tL b beg fin t * 65536 + tV b beg fin t := if_neg n0
      have e2 : sOf b beg fin t = lsym (tL b beg fin t) := if_neg n0
      rw [e1] at v1
      rw [e2] at us
      have ud := ud n0
      rw [if_neg n0] at next
      have ylb := y_lsymB (tL b beg fin t) (by omega)
      have yd := @y_drest (tV b beg fin t) (by omega) (by omega)
      have yx := (y_lex (lsym (tL b beg fin t)) ylb.2 ylb.1).2
      have ye := (y_dex (dsym (tV b beg fin t)) yd.1).2
      have yb := (y_lbase (lsym (tL b beg fin t)) ylb.2 ylb.1).2
      have ydb := (y_dbase (dsym (tV b beg fin t)) yd.1).2
      have yl := y_lsymP (tL b beg fin t) (by omega) (by omega)
      have yr := y_lrest (tL b beg fin t) (by omega) (by omega)
      have q1 : (tL b beg fin t * 65536 + tV b beg fin t) / 2 ^ 16 = tL b beg fin t := by omega
      have q2 : (tL b beg fin t * 65536 + tV b beg fin t) % 65536 = tV b beg fin t := by omega
      have g1 := hl1 (lsym (tL b beg fin t)) (by omega)
      have g2 := hc1 (lsym (tL b beg fin t)) (by omega) us
      have g3 := hl2 (dsym (tV b beg fin t)) (by omega)
      have g4 := hc2 (dsym (tV b beg fin t)) (by omega) ud
      simp (disch := omega) only [Tt_L, Tt_S, Tt_C, Tt_Z, Tt_R0, Tt_R1, Tt_R2, Tt_R3, Tt_R4, Tt_R5, q10, eq_self, if_true, if_false, i_0, i_1, i_2, i_3, i_4, i_5, i_6, i_7, i_8, i_9, i_10, i_11, i_13, i_14, i_15, i_16, i_17, i_18, i_19, i_24, i_29, i_30, i_31, i_32, i_138, i_143, i_144, i_254, i_255, i_256, i_257, i_258, i_261, i_264, i_265, i_279, i_280, i_284, i_285, i_286, i_288, i_319, i_320, i_338, i_339, i_575, i_576, i_599, i_600, i_4096, i_8191, i_8192, i_8249, i_8250, i_8256, i_9000, i_16384, i_32767, i_32768, i_65520, i_65521, i_65535, i_65536, i_65999, i_66000, i_1300, i_120, i_156, nI_leI, Tt_N, nI_clamp, v1, nI_add, n_shr, n_65535, q1, q2, yl, yx.1, yb.1]
      rw [if_neg z, if_neg (by omega), if_pos (by omega)]
      refine ⟨by omega, by omega, ?_⟩
      refine Tt_m (t_codeWrite hC g1.2 rfl (by omega) (by omega) g1.1 g2.1 g2.2) ?_
      rintro ⟨_, len', op', oc', out'⟩ h'
      dsimp only
      rw [pk_sub yr.1]
      refine Tt_m (t_number h' (by omega) yr.2 rfl rfl) ?_
      rintro ⟨_, len2, op2, oc2, out2⟩ h2
      dsimp only
      refine ⟨by omega, ?_⟩
      refine Tt_m (t_dsymP (by omega) (by omega) rfl) ?_
      rintro ⟨r, _⟩ hr
      have hr' : r = nI (dsym (tV b beg fin t)) := hr
      subst hr'
      simp (disch := omega) only [Tt_L, Tt_S, Tt_C, Tt_Z, Tt_R0, Tt_R1, Tt_R2, Tt_R3, Tt_R4, Tt_R5, q10, eq_self, if_true, if_false, ye.1, ydb.1]
      refine Tt_m (t_codeWrite h2 g3.2 rfl (by omega) (by omega) g3.1 g4.1 g4.2) ?_
      rintro ⟨_, len3, op3, oc3, out3⟩ h3
      dsimp only
      rw [pk_sub yd.2.1]
      refine Tt_m (t_number h3 (by omega) yd.2.2 rfl rfl) ?_
      rintro ⟨_, len4, op4, oc4, out4⟩ h4
      exact next _ _ _ _ h4
/-- codes turned round, of all symbols and distances -/
def cAll (l : Nat → Nat) (s : Nat) : Nat := if s < 288 then rv (cde l 288 s) (l s) else rv (cde (fun d => l (288 + d)) 32 (s - 288)) (l s)
theorem tws_n {b : Nat → Nat} {n beg fin T : Nat} {l c : Nat → Nat} {W : WS} (hb : ∀ i, b i < 256) (hn : n ≤ 8192) (hfn : fin ≤ n) (hpt : ∀ t, t < T → pos b beg fin t < fin) (hl : ∀ i, i < 320 → l i ≤ 15) : ∀ t, t ≤ T → (tws b beg fin l c W t).1 ≤ W.1 + 48 * t := by
  intro t
  induction t with
  | zero => intro _; exact Nat.le_refl _
  | succ t ih =>
    intro ht
    have i1 := ih (by omega)
    have tb := @tok_b b beg fin n t hb (hpt t (by omega)) hfn
    show (twk b beg fin l c (tws b beg fin l c W t) t).1 ≤ _
    unfold twk
    rcases tb with tb | tb
    · rw [if_pos tb.1]
      have := hl (tV b beg fin t) (by omega)
      show (tws b beg fin l c W t).1 + l (tV b beg fin t) ≤ _
      omega
    · rw [if_neg (by omega)]
      have ylb := y_lsymB (tL b beg fin t) (by omega)
      have yd := @y_drest (tV b beg fin t) (by omega) (by omega)
      have a1 := hl (lsym (tL b beg fin t)) (by omega)
      have a2 := hl (288 + dsym (tV b beg fin t)) (by omega)
      have a3 := (y_lex (lsym (tL b beg fin t)) ylb.2 ylb.1).2.2
      have a4 := (y_dex (dsym (tV b beg fin t)) yd.1).2.2
      show (tws b beg fin l c W t).1 + l (lsym (tL b beg fin t)) + lex (lsym (tL b beg fin t)) + l (288 + dsym (tV b beg fin t)) + dex (dsym (tV b beg fin t)) ≤ _
      omega
theorem t_writeTokM {b : Nat → Nat} {n beg fin T N : Nat} {tok bits : Int32} {of tl tv codes packed : Nat → Int32} {l : Nat → Nat} {W : WS} (hb : ∀ i, b i < 256) (hn : n ≤ 8192) (hfn : fin ≤ n) (hT : T ≤ 4096) (hpt : ∀ t, t < T → pos b beg fin t < fin) (htc : tok = nI T) (hv : ∀ t, t < T → tl t = nI (tL b beg fin t) ∧ tv t = nI (tV b beg fin t)) (hN0 : 320 ≤ N) (hN : N ≤ 339) (hL : ∀ i, i < 320 → of i = nI (l i)) (hl : ∀ i, i < 320 → l i ≤ 15) (hU : usdT b beg fin T l) (hW : W.1 ≤ 300000) (h : RefW bits packed W.1 W.2) : Tt (M_writeTokens 200000 N tok of tl tv bits codes packed) (fun u => RefW u.2.1 u.2.2.2 (app (tws b beg fin l (cAll l) W T) (cAll l 256) (l 256)).1 (app (tws b beg fin l (cAll l) W T) (cAll l 256) (l 256)).2) := by
  subst htc
  unfold M_writeTokens
  rw [Tt_R1]
  refine Tt_m (t_makeCodes (a := 0) (N := 288) (f := l) rfl rfl (by omega) hN (fun i hi => by rw [Nat.zero_add]; exact hL i (by omega)) (fun i hi => hl i (by omega))) ?_
  rintro ⟨_, co1⟩ ⟨k1, k2⟩
  rw [Tt_R1]
  refine Tt_m (t_makeCodes (a := 288) (N := 32) (f := fun d => l (288 + d)) rfl rfl (by omega) hN (fun i hi => hL (288 + i) (by omega)) (fun i hi => hl (288 + i) (by omega))) ?_
  rintro ⟨_, co2⟩ ⟨k3, k4⟩
  dsimp only at k1 k2 k3 k4 ⊢
  have cS : ∀ s, s < 288 → 0 < l s → co2 s = nI (cde l 288 s) := fun s hs h0 => by
    rw [k4 s (Or.inl hs)]
    have := k1 s hs h0
    rw [Nat.zero_add] at this
    exact this
  have cD : ∀ d, d < 32 → 0 < l (288 + d) → co2 (288 + d) = nI (cde (fun d => l (288 + d)) 32 d) := k3
  have cA1 : ∀ s, s < 288 → cAll l s = rv (cde l 288 s) (l s) := fun s hs => if_pos hs
  have cA2 : ∀ d, cAll l (288 + d) = rv (cde (fun d => l (288 + d)) 32 d) (l (288 + d)) := fun d => by
    unfold cAll
    rw [if_neg (by omega), show 288 + d - 288 = d by omega]
  have tn := @tws_n b n beg fin T l (cAll l) W hb hn hfn hpt hl
  refine Tt_W4 (fun mm bits co packed x2 => co = co2 ∧ ∃ t, x2 = nI t ∧ t ≤ T ∧ mm = T - t ∧ RefW bits packed (tws b beg fin l (cAll l) W t).1 (tws b beg fin l (cAll l) W t).2) ?_ 200000 T _ _ _ _ (by omega) ⟨rfl, 0, rfl, by omega, rfl, h⟩
  rintro K mm bits co packed x2 ⟨rfl, t, rfl, ht, rfl, hC⟩ ih
  have tn0 := tn t ht
  unfold M_writeTokens_21
  by_cases z : T ≤ t
  · simp (disch := omega) only [Tt_C, nI_leI]
    rw [if_pos z]
    have et : t = T := by omega
    subst et
    unfold M_writeTokens_140
    rw [Tt_R2]
    have l256 := hl 256 (by omega)
    refine Tt_m (t_writeCode hC (by omega) (hl 256 (by omega)) (s := 256) rfl (by omega) hN (hL 256 (by omega)) (cS 256 (by omega) hU.1) (by have := @cde_b l 288 256 (by omega) (hl 256 (by omega)) (by omega); omega)) ?_
    intro u hu
    rw [cA1 256 (by omega)]
    exact hu
  · have tb := @tok_b b beg fin n t hb (hpt t (by omega)) hfn
    have v1 := (hv t (by omega)).1
    have v2 := (hv t (by omega)).2
    have us := (hU.2 t (by omega)).1
    have ud := (hU.2 t (by omega)).2
    have next : ∀ bits' packed', RefW bits' packed' (twk b beg fin l (cAll l) (tws b beg fin l (cAll l) W t) t).1 (twk b beg fin l (cAll l) (tws b beg fin l (cAll l) W t) t).2 → Tt (K bits' co packed' (nI (t + 1))) (fun u => RefW u.2.1 u.2.2.2 (app (tws b beg fin l (cAll l) W T) (cAll l 256) (l 256)).1 (app (tws b beg fin l (cAll l) W T) (cAll l 256) (l 256)).2) := by
      intro bits' packed' h'
      exact ih (T - (t + 1)) _ _ _ _ (by omega) ⟨rfl, t + 1, rfl, by omega, rfl, h'⟩
    generalize tws b beg fin l (cAll l) W t = W0 at *
    unfold twk at next
    unfold M_writeTokens_56 M_writeTokens_134
    rcases tb with tb | tb
    · have e2 : sOf b beg fin t = tV b beg fin t := if_pos tb.1
      rw [e2] at us
      rw [if_pos tb.1, cA1 _ (by omega)] at next
      have lb := hl (tV b beg fin t) (by omega)
      have cb := @cde_b l 288 (tV b beg fin t) (by omega) lb (by omega)
      rw [tb.1] at v1
      simp (disch := omega) only [Tt_L, Tt_S, Tt_C, Tt_Z, Tt_R0, Tt_R1, Tt_R2, Tt_R3, Tt_R4, Tt_R5, q10, eq_self, if_true, if_false, i_0, i_1, i_2, i_3, i_4, i_5, i_6, i_7, i_8, i_9, i_10, i_11, i_13, i_14, i_15, i_16, i_17, i_18, i_19, i_24, i_29, i_30, i_31, i_32, i_138, i_143, i_144, i_254, i_255, i_256, i_257, i_258, i_261, i_264, i_265, i_279, i_280, i_284, i_285, i_286, i_288, i_319, i_320, i_338, i_339, i_575, i_576, i_599, i_600, i_4096, i_8191, i_8192, i_8249, i_8250, i_8256, i_9000, i_16384, i_32767, i_32768, i_65520, i_65521, i_65535, i_65536, i_65999, i_66000, i_1300, i_120, i_156, nI_leI, Tt_N, nI_clamp, v1, v2, nI_add]
      rw [if_neg z]
      refine ⟨by omega, by omega, ?_⟩
      refine Tt_m (t_writeCode hC (by omega) lb rfl (by omega) hN (hL _ (by omega)) (cS _ (by omega) us) (by omega)) ?_
      rintro ⟨_, bits', packed'⟩ h'
      dsimp only
      refine ⟨by omega, ?_⟩
      rw [if_pos (Nat.le_refl 0)]
      exact next _ _ h'
    · have n0 : ¬ (tL b beg fin t = 0) := by omega
      have e2 : sOf b beg fin t = lsym (tL b beg fin t) := if_neg n0
      rw [e2] at us
      have ud := ud n0
      have ylb := y_lsymB (tL b beg fin t) (by omega)
      have yd := @y_drest (tV b beg fin t) (by omega) (by omega)
      rw [if_neg n0, cA1 _ (by omega), cA2] at next
      have yx := y_lex (lsym (tL b beg fin t)) ylb.2 ylb.1
      have ye := y_dex (dsym (tV b beg fin t)) yd.1
      have yb := y_lbase (lsym (tL b beg fin t)) ylb.2 ylb.1
      have ydb := y_dbase (dsym (tV b beg fin t)) yd.1
      have yl := y_lsymM (tL b beg fin t) (by omega)
      have yr := y_lrest (tL b beg fin t) (by omega) (by omega)
      have lb1 := hl (lsym (tL b beg fin t)) (by omega)
      have lb2 := hl (288 + dsym (tV b beg fin t)) (by omega)
      have cb1 := @cde_b l 288 (lsym (tL b beg fin t)) (by omega) lb1 (by omega)
      have cb2 := @cde_b (fun d => l (288 + d)) 32 (dsym (tV b beg fin t)) (by omega) lb2 (by omega)
      simp (disch := omega) only [Tt_L, Tt_S, Tt_C, Tt_Z, Tt_R0, Tt_R1, Tt_R2, Tt_R3, Tt_R4, Tt_R5, q10, eq_self, if_true, if_false, i_0, i_1, i_2, i_3, i_4, i_5, i_6, i_7, i_8, i_9, i_10, i_11, i_13, i_14, i_15, i_16, i_17, i_18, i_19, i_24, i_29, i_30, i_31, i_32, i_138, i_143, i_144, i_254, i_255, i_256, i_257, i_258, i_261, i_264, i_265, i_279, i_280, i_284, i_285, i_286, i_288, i_319, i_320, i_338, i_339, i_575, i_576, i_599, i_600, i_4096, i_8191, i_8192, i_8249, i_8250, i_8256, i_9000, i_16384, i_32767, i_32768, i_65520, i_65521, i_65535, i_65536, i_65999, i_66000, i_1300, i_120, i_156, nI_leI, nI_eq, Tt_N, nI_clamp, v1, v2, nI_add, yl]
      rw [if_neg z, if_neg n0]
      refine ⟨by omega, by omega, ?_⟩
      refine Tt_m (t_writeCode hC (by omega) lb1 rfl (by omega) hN (hL _ (by omega)) (cS _ (by omega) us) (by omega)) ?_
      rintro ⟨_, bits', packed'⟩ h'
      dsimp only
      rw [if_neg (by omega)]
      refine ⟨by omega, by omega, ?_⟩
      refine Tt_m (t_dsymM (by omega) rfl) ?_
      rintro ⟨r, _⟩ hr
      have hr' : r = nI (dsym (tV b beg fin t)) := hr
      subst hr'
      simp (disch := omega) only [Tt_L, Tt_S, Tt_C, Tt_Z, Tt_R0, Tt_R1, Tt_R2, Tt_R3, Tt_R4, Tt_R5, q10, eq_self, if_true, if_false, i_0, i_1, i_2, i_3, i_4, i_5, i_6, i_7, i_8, i_9, i_10, i_11, i_13, i_14, i_15, i_16, i_17, i_18, i_19, i_24, i_29, i_30, i_31, i_32, i_138, i_143, i_144, i_254, i_255, i_256, i_257, i_258, i_261, i_264, i_265, i_279, i_280, i_284, i_285, i_286, i_288, i_319, i_320, i_338, i_339, i_575, i_576, i_599, i_600, i_4096, i_8191, i_8192, i_8249, i_8250, i_8256, i_9000, i_16384, i_32767, i_32768, i_65520, i_65521, i_65535, i_65536, i_65999, i_66000, i_1300, i_120, i_156, nI_add, Tt_N, nI_clamp, yx.1, yb.1, ye.1, ydb.1]
      refine ⟨by omega, ?_⟩
      rw [pk_sub yr.1, pk_sub yd.2.1]
      refine Tt_m (t_writeNumber h' (by omega) (by omega) (by omega) rfl rfl) ?_
      rintro ⟨_, bits2, packed2⟩ h2
      dsimp only at h2 ⊢
      rw [Nat.mod_eq_of_lt yr.2] at h2
      refine Tt_m (t_writeCode h2 (by omega) lb2 rfl (by omega) hN (hL _ (by omega)) (cD _ (by omega) ud) (by omega)) ?_
      rintro ⟨_, bits3, packed3⟩ h3
      dsimp only at h3 ⊢
      refine ⟨by omega, ?_⟩
      refine Tt_m (t_writeNumber h3 (by omega) (by omega) (by omega) rfl rfl) ?_
      rintro ⟨_, bits4, packed4⟩ h4
      dsimp only at h4 ⊢
      rw [Nat.mod_eq_of_lt yd.2.2] at h4
      exact next _ _ h4
