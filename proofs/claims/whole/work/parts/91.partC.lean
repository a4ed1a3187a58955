/-! one part, packed by the program -/
theorem cn_pos {g : Nat → Nat} {t : Nat} : ∀ {T : Nat}, t < T → 0 < cn g (g t) T := by
  intro T h
  have a := @cn_mono g (g t) (t + 1) T h
  rw [cn_s] at a
  omega
def cSf (b : Nat → Nat) (beg fin T s : Nat) : Nat := cn (sOf b beg fin) s T + (if s = 256 then 1 else 0)
def cDf (b : Nat → Nat) (beg fin T d : Nat) : Nat := cn (dOf b beg fin) d T
def fSf (b : Nat → Nat) (beg fin T : Nat) : Nat → Nat := fitL (cSf b beg fin T) 286 15
def fDf (b : Nat → Nat) (beg fin T : Nat) : Nat → Nat := fitL (cDf b beg fin T) 30 15
def lM (b : Nat → Nat) (beg fin T i : Nat) : Nat := if i < 288 then fSf b beg fin T i else fDf b beg fin T (i - 288)
def lF (i : Nat) : Nat := if i < 144 then 8 else if i < 256 then 9 else if i < 280 then 7 else if i < 288 then 8 else 5
theorem lF_b (i : Nat) : 5 ≤ lF i ∧ lF i ≤ 9 := by
  unfold lF
  split
  · omega
  · split
    · omega
    · split
      · omega
      · split <;> omega
theorem fSf_b (b : Nat → Nat) (beg fin T i : Nat) : fSf b beg fin T i ≤ 15 := fitL_hi (by omega) (by decide)
theorem fDf_b (b : Nat → Nat) (beg fin T i : Nat) : fDf b beg fin T i ≤ 15 := fitL_hi (by omega) (by decide)
theorem lM_b (b : Nat → Nat) (beg fin T i : Nat) : lM b beg fin T i ≤ 15 := by
  unfold lM
  split
  · exact fSf_b _ _ _ _ _
  · exact fDf_b _ _ _ _ _
theorem lM_S {b : Nat → Nat} {beg fin T i : Nat} (h : i < 288) : lM b beg fin T i = fSf b beg fin T i := if_pos h
theorem lM_D {b : Nat → Nat} {beg fin T d : Nat} : lM b beg fin T (288 + d) = fDf b beg fin T d := by
  unfold lM
  rw [if_neg (by omega), show 288 + d - 288 = d by omega]
theorem lM_u {b : Nat → Nat} {n beg fin T : Nat} (hb : ∀ i, b i < 256) (hn : n ≤ 8192) (hfn : fin ≤ n) (hpt : ∀ t, t < T → pos b beg fin t < fin) : usdT b beg fin T (lM b beg fin T) := by
  refine ⟨?_, fun t ht => ?_⟩
  · rw [lM_S (by omega)]
    refine fitL_lo (by omega) (by decide) (by omega) ?_
    show 0 < cn (sOf b beg fin) 256 T + (if 256 = 256 then 1 else 0)
    rw [if_pos rfl]
    omega
  · have tb := @tok_b b beg fin n t hb (hpt t ht) hfn
    have cp := @cn_pos (sOf b beg fin) t T ht
    have cq := @cn_pos (dOf b beg fin) t T ht
    rcases tb with tb | tb
    · have e2 : sOf b beg fin t = tV b beg fin t := if_pos tb.1
      rw [e2] at cp ⊢
      refine ⟨?_, fun q => absurd tb.1 q⟩
      rw [lM_S (by omega)]
      refine fitL_lo (by omega) (by decide) (by omega) ?_
      show 0 < cn (sOf b beg fin) (tV b beg fin t) T + _
      omega
    · have n0 : ¬ (tL b beg fin t = 0) := by omega
      have e2 : sOf b beg fin t = lsym (tL b beg fin t) := if_neg n0
      have e3 : dOf b beg fin t = dsym (tV b beg fin t) := if_neg n0
      have ylb := y_lsymB (tL b beg fin t) (by omega)
      have yd := @y_drest (tV b beg fin t) (by omega) (by omega)
      rw [e2] at cp ⊢
      rw [e3] at cq
      refine ⟨?_, fun _ => ?_⟩
      · rw [lM_S (by omega)]
        refine fitL_lo (by omega) (by decide) (by omega) ?_
        show 0 < cn (sOf b beg fin) (lsym (tL b beg fin t)) T + _
        omega
      · rw [lM_D]
        exact fitL_lo (by omega) (by decide) (by omega) cq
theorem lF_u {b : Nat → Nat} {beg fin T : Nat} : usdT b beg fin T lF := by
  refine ⟨?_, fun t ht => ⟨?_, fun _ => ?_⟩⟩
  · have := lF_b 256; omega
  · have := lF_b (sOf b beg fin t); omega
  · have := lF_b (288 + dsym (tV b beg fin t)); omega
theorem lM_cS {b : Nat → Nat} {beg fin T s : Nat} (hs : s < 286) : cAll (lM b beg fin T) s = rv (cde (fSf b beg fin T) 286 s) (fSf b beg fin T s) := by
  unfold cAll
  rw [if_pos (by omega), lM_S (by omega), cde_ext (f := fSf b beg fin T) (n := 286) (by omega) (fun i hi => (lM_S (by omega)).symm) (fun i h1 h2 => by rw [lM_S h2]; exact fitL_0 (by omega) (by decide) h1) hs]
theorem lM_cD {b : Nat → Nat} {beg fin T d : Nat} (hd : d < 30) : cAll (lM b beg fin T) (288 + d) = rv (cde (fDf b beg fin T) 30 d) (fDf b beg fin T d) := by
  unfold cAll
  rw [if_neg (by omega), lM_D, show 288 + d - 288 = d by omega, cde_ext (f := fDf b beg fin T) (n := 30) (by omega) (fun i hi => lM_D.symm) (fun i h1 h2 => by rw [lM_D]; exact fitL_0 (by omega) (by decide) h1) hd]
/-- bytes written as they are -/
def sto (b : Nat → Nat) (beg : Nat) (W : WS) : Nat → WS
  | 0 => W
  | i + 1 => app (sto b beg W i) (b (beg + i)) 8
def alg (W : WS) : WS := (W.1 + (8 - W.1 % 8) % 8, W.2)
def stW (b : Nat → Nat) (beg fin : Nat) (W : WS) : WS := sto b beg (app (app (alg W) (fin - beg) 16) (65535 - (fin - beg)) 16) (fin - beg)
def tkW (b : Nat → Nat) (beg fin T : Nat) (l : Nat → Nat) (W : WS) : WS := app (tws b beg fin l (cAll l) W T) (cAll l 256) (l 256)
def szS (W : WS) (beg fin : Nat) : Nat := (8 - (W.1 + 3) % 8) % 8 + 32 + 8 * (fin - beg)
def szM (b : Nat → Nat) (beg fin T : Nat) : Nat := 14 + 3 * cln (pF (fSf b beg fin T) (fDf b beg fin T)) 19 + pB (fSf b beg fin T) (fDf b beg fin T) + bitN b beg fin T (lM b beg fin T)
/-- one part -/
def pkW (b : Nat → Nat) (n beg fin T : Nat) (W : WS) : WS := if szS W beg fin ≤ bitN b beg fin T lF ∧ szS W beg fin ≤ szM b beg fin T then stW b beg fin (app (app W (if fin = n then 1 else 0) 1) 0 2) else if bitN b beg fin T lF ≤ szM b beg fin T then tkW b beg fin T lF (app (app W (if fin = n then 1 else 0) 1) 1 2) else tkW b beg fin T (lM b beg fin T) (hdr (pH (fSf b beg fin T)) (pD (fDf b beg fin T)) (pF (fSf b beg fin T) (fDf b beg fin T)) (pL (fSf b beg fin T) (fDf b beg fin T)) (app (app W (if fin = n then 1 else 0) 1) 2 2))
theorem t_storedC {c out : Nat → Int32} {b : Nat → Nat} {n beg fin : Nat} {len op oc x1 x2 : Int32} {W : WS} (h : Row c 0 n b) (hn : n ≤ 8192) (hfn : fin ≤ n) (hbe : beg ≤ fin) (h1 : x1 = nI beg) (h2 : x2 = nI fin) (hW : ClsW len op oc out W.1 W.2) : Tt (Packer_writeStored 200000 8192 (nI n) c len op oc out x1 x2) (fun u => ClsW u.2.1 u.2.2.1 u.2.2.2.1 u.2.2.2.2 (stW b beg fin W).1 (stW b beg fin W).2) := by
  subst h1 h2
  unfold Packer_writeStored
  simp (disch := omega) only [Tt_L, Tt_R4, i_0, i_1, i_2, i_3, i_4, i_5, i_6, i_7, i_8, i_9, i_10, i_11, i_13, i_14, i_15, i_16, i_17, i_18, i_19, i_24, i_29, i_30, i_31, i_32, i_138, i_143, i_144, i_254, i_255, i_256, i_257, i_258, i_261, i_264, i_265, i_279, i_280, i_284, i_285, i_286, i_288, i_319, i_320, i_338, i_339, i_575, i_576, i_599, i_600, i_4096, i_8191, i_8192, i_8249, i_8250, i_8256, i_9000, i_16384, i_32767, i_32768, i_65520, i_65521, i_65535, i_65536, i_65999, i_66000, i_1300, i_120, i_156, pk_sub]
  refine Tt_m (t_align hW) ?_
  rintro ⟨_, a1, a2, a3, a4⟩ hW1
  dsimp only at hW1 ⊢
  refine Tt_m (t_number hW1 (k := 16) (v := fin - beg) (by omega) (by omega) rfl rfl) ?_
  rintro ⟨_, a1, a2, a3, a4⟩ hW2
  dsimp only at hW2 ⊢
  refine Tt_m (t_number hW2 (k := 16) (v := 65535 - (fin - beg)) (by omega) (by omega) rfl rfl) ?_
  rintro ⟨_, a1, a2, a3, a4⟩ hW3
  dsimp only at hW3 ⊢
  have hW4 : ClsW a1 a2 a3 a4 (app (app (alg W) (fin - beg) 16) (65535 - (fin - beg)) 16).1 (app (app (alg W) (fin - beg) 16) (65535 - (fin - beg)) 16).2 := hW3
  unfold stW
  generalize app (app (alg W) (fin - beg) 16) (65535 - (fin - beg)) 16 = W4 at *
  refine Tt_W5 (fun mm len op oc out x4 => ∃ i, x4 = nI (beg + i) ∧ i ≤ fin - beg ∧ mm = fin - beg - i ∧ ClsW len op oc out (sto b beg W4 i).1 (sto b beg W4 i).2) ?_ 200000 (fin - beg) _ _ _ _ _ (by omega) ⟨0, rfl, by omega, rfl, hW4⟩
  rintro K mm len op oc out x4 ⟨i, rfl, hi, rfl, hC⟩ ih
  unfold Packer_writeStored_37
  by_cases z : fin ≤ beg + i
  · simp (disch := omega) only [Tt_C, Tt_S, nI_leI]
    rw [if_pos z, show fin - beg = i by omega]
    exact hC
  · have g0 := @e_at 200000 8192 n (beg + i) c b (nI (beg + i)) (nI n) h hn (by omega) (by omega) rfl rfl
    have z0 : bz b n (beg + i) = b (beg + i) := if_pos (by omega)
    rw [z0] at g0
    have b0 := h.2 (beg + i)
    simp (disch := omega) only [Tt_L, Tt_S, Tt_C, Tt_Z, Tt_R0, Tt_R1, Tt_R2, Tt_R3, Tt_R4, Tt_R5, q10, eq_self, if_true, if_false, i_0, i_1, i_2, i_3, i_4, i_5, i_6, i_7, i_8, i_9, i_10, i_11, i_13, i_14, i_15, i_16, i_17, i_18, i_19, i_24, i_29, i_30, i_31, i_32, i_138, i_143, i_144, i_254, i_255, i_256, i_257, i_258, i_261, i_264, i_265, i_279, i_280, i_284, i_285, i_286, i_288, i_319, i_320, i_338, i_339, i_575, i_576, i_599, i_600, i_4096, i_8191, i_8192, i_8249, i_8250, i_8256, i_9000, i_16384, i_32767, i_32768, i_65520, i_65521, i_65535, i_65536, i_65999, i_66000, i_1300, i_120, i_156, nI_leI, g0, nI_add]
    rw [if_neg z]
    refine Tt_m (t_number hC (k := 8) (v := b (beg + i)) (by omega) (by omega) rfl rfl) ?_
    rintro ⟨_, a1, a2, a3, a4⟩ hC2
    exact ih (fin - beg - (i + 1)) _ _ _ _ _ (by omega) ⟨i + 1, rfl, by omega, rfl, hC2⟩
/-- the fixed codes, as the program has them -/
def FixC (fs fc fd fdc : Nat → Int32) : Prop := (∀ s, s < 288 → fs s = nI (lF s) ∧ fc s = nI (cAll lF s)) ∧ ∀ d, d < 32 → fd d = nI (lF (288 + d)) ∧ fdc d = nI (cAll lF (288 + d))
theorem cAll_lt (l : Nat → Nat) (s : Nat) : cAll l s < 2 ^ l s := by
  unfold cAll
  split <;> exact rv_lt _ _
theorem t_bitsWith {N1 N2 : Nat} {ex : Int32} {l1 sc l2 dc : Nat → Int32} {b l : Nat → Nat} {n beg fin T : Nat} (hb : ∀ i, b i < 256) (hn : n ≤ 8192) (hfn : fin ≤ n) (hpt : ∀ t, t < T → pos b beg fin t < fin) (hN1 : 286 ≤ N1) (hN1' : N1 ≤ 288) (hN2 : 30 ≤ N2) (hN2' : N2 ≤ 32) (hl1 : ∀ s, s < N1 → l1 s = nI (l s)) (hl2 : ∀ d, d < N2 → l2 d = nI (l (288 + d))) (hsc : ∀ s, s < 286 → sc s = nI (cn (sOf b beg fin) s T + (if s = 256 then 1 else 0))) (hdc : ∀ d, d < 30 → dc d = nI (cn (dOf b beg fin) d T)) (hex : ex = nI (sm (xOf b beg fin) T)) : Tt (Packer_bitsWith 200000 N1 N2 ex l1 sc l2 dc) (fun u => u.1 = nI (bitN b beg fin T l)) := by
  subst hex
  unfold Packer_bitsWith
  rw [Tt_R0]
  refine Tt_m (t_bitsFor (by omega) (by omega) hl1 hsc) ?_
  rintro ⟨r1, _⟩ h1
  have h1' : r1 = nI (sm (fun s => l s * (cn (sOf b beg fin) s T + (if s = 256 then 1 else 0))) (min N1 286)) := h1
  rw [Tt_R0]
  refine Tt_m (t_bitsFor (f := fun d => l (288 + d)) (by omega) (by omega) hl2 hdc) ?_
  rintro ⟨r2, _⟩ h2
  have h2' : r2 = nI (sm (fun d => l (288 + d) * cn (dOf b beg fin) d T) (min N2 30)) := h2
  rw [show min N1 286 = 286 by omega] at h1'
  rw [show min N2 30 = 30 by omega] at h2'
  subst h1' h2'
  show nI _ + nI _ + nI _ = _
  rw [nI_add, nI_add, bits_eq (l := l) hb hn hfn hpt]
