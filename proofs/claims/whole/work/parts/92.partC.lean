/-! one part, packed by the program -/
theorem rex_7 (w : Nat) : rex w ≤ 7 := by
  unfold rex
  split
  · omega
  · split
    · omega
    · split <;> omega
theorem sm_bd {f : Nat → Nat} {B : Nat} : ∀ {n : Nat}, (∀ i, i < n → f i ≤ B) → sm f n ≤ B * n := by
  intro n
  induction n with
  | zero => intro _; exact Nat.zero_le _
  | succ n ih =>
    intro h
    have i1 := ih (fun i hi => h i (by omega))
    have i2 := h n (by omega)
    show sm f n + f n ≤ B * (n + 1)
    rw [Nat.mul_add]
    omega
theorem pB_b (fS fD : Nat → Nat) : pB fS fD ≤ 4480 := by
  have l := told_n (rowF fS fD (pH fS)) (pH fS + pD fD)
  have h1 := pH_b fS
  have h2 := pD_b fD
  have l' : (pL fS fD).1 ≤ pH fS + pD fD := l
  have : pB fS fD ≤ 14 * (pL fS fD).1 := sm_bd (fun i _ => by
    have a1 : pF fS fD ((pL fS fD).2.1 i) ≤ 7 := fitL_hi (by omega) (by decide)
    have a2 := rex_7 ((pL fS fD).2.1 i)
    omega)
  omega
theorem szM_b {b : Nat → Nat} {n beg fin T : Nat} (hb : ∀ i, b i < 256) (hn : n ≤ 8192) (hfn : fin ≤ n) (hT : T ≤ 4096) (hpt : ∀ t, t < T → pos b beg fin t < fin) : szM b beg fin T ≤ 201174 ∧ bitN b beg fin T lF ≤ 196623 ∧ bitN b beg fin T (lM b beg fin T) ≤ 196623 := by
  have p := pB_b (fSf b beg fin T) (fDf b beg fin T)
  have c := (cln_b (pF (fSf b beg fin T) (fDf b beg fin T)) 19).1
  have b1 := @bitN_b b n beg fin T lF hb hn hfn hpt (fun i _ => by have := lF_b i; omega) T (Nat.le_refl T)
  have b2 := @bitN_b b n beg fin T (lM b beg fin T) hb hn hfn hpt (fun i _ => lM_b _ _ _ _ i) T (Nat.le_refl T)
  unfold szM
  omega
theorem t_part143 {before c fs fd fc fdc : Nat → Int32} {tc ex many ol oo ooc hrl htc hsl hdl hcl : Int32} {sc dc toks msl lc ls ib it mdl msn msc mdn mdc hrow hcs htd hcle hnx hco od : Nat → Int32} {pr : Nat → Nat → Int32} {x1 x2 x3 x4 x5 s1 : Int32} {b : Nat → Nat} {n beg fin T : Nat} {W : WS} (h : Row c 0 n b) (hn : n ≤ 8192) (hfn : fin ≤ n) (hbe : beg ≤ fin) (hl : fin - beg ≤ 4096) (hT : T ≤ 4096) (hpt : ∀ t, t < T → pos b beg fin t < fin) (hF : FixC fs fc fd fdc) (htc : tc = nI T) (htk : ∀ t, t < T → toks t = nI (vOf b beg fin t)) (hms : ∀ s, s < 286 → msl s = nI (fSf b beg fin T s)) (hmd : ∀ d, d < 30 → mdl d = nI (fDf b beg fin T d)) (hmsc : ∀ s, s < 286 → 0 < fSf b beg fin T s → msc s = nI (rv (cde (fSf b beg fin T) 286 s) (fSf b beg fin T s))) (hmdc : ∀ d, d < 30 → 0 < fDf b beg fin T d → mdc d = nI (rv (cde (fDf b beg fin T) 30 d) (fDf b beg fin T d))) (hCT : CT htc htd hcs (pL (fSf b beg fin T) (fDf b beg fin T))) (hhs : hsl = nI (pH (fSf b beg fin T))) (hhd : hdl = nI (pD (fDf b beg fin T))) (hhc : hcl = nI (cln (pF (fSf b beg fin T) (fDf b beg fin T)) 19)) (hcl' : ∀ s, s < 19 → hcle s = nI (pF (fSf b beg fin T) (fDf b beg fin T) s)) (hco' : ∀ s, s < 19 → 0 < pF (fSf b beg fin T) (fDf b beg fin T) s → hco s = nI (rv (cde (pF (fSf b beg fin T) (fDf b beg fin T)) 19 s) (pF (fSf b beg fin T) (fDf b beg fin T) s))) (e1 : x1 = nI beg) (e2 : x2 = nI fin) (e3 : x3 = nI (szS W beg fin)) (e4 : x4 = nI (bitN b beg fin T lF)) (e5 : x5 = nI (szM b beg fin T)) (es : s1 = nI (if fin = n then 1 else 0)) (hW : ClsW ol oo ooc od W.1 W.2) : Tt (Packer_packPart_143 200000 8192 286 30 286 30 288 32 19 19 288 32 (nI n) c fs fd fc fdc x1 x2 tc ex sc dc toks msl many lc ls ib it pr mdl msn msc mdn mdc ol oo ooc hrl htc hsl hdl hcl hrow hcs htd hcle hnx hco od x3 x4 x5 s1) (fun (_, _, _, _, _, _, _, _, _, _, _, _, _, _, _, _, _, _, ol, oo, ooc, _, _, _, _, _, _, _, _, _, _, _, od) => ClsW ol oo ooc od (pkW b n beg fin T W).1 (pkW b n beg fin T W).2) := by
  subst e3 e4 e5 es
  obtain ⟨sz1, sz2, sz3⟩ := szM_b h.2 hn hfn hT hpt
  have sS : szS W beg fin ≤ 40000 := by unfold szS; omega
  have bit1 : (if fin = n then 1 else 0) < 2 ^ 1 := by split <;> omega
  unfold Packer_packPart_143
  rw [Tt_R4]
  refine Tt_m (t_number hW (k := 1) (by omega) bit1 rfl rfl) ?_
  rintro ⟨_, a1, a2, a3, a4⟩ hW1
  dsimp only at hW1 ⊢
  have hW1' : ClsW a1 a2 a3 a4 (app W (if fin = n then 1 else 0) 1).1 (app W (if fin = n then 1 else 0) 1).2 := hW1
  have em : (if nI (szM b beg fin T) < nI (bitN b beg fin T lF) then nI (szM b beg fin T) else nI (bitN b beg fin T lF)) = nI (min (szM b beg fin T) (bitN b beg fin T lF)) := by
    by_cases z : szM b beg fin T < bitN b beg fin T lF
    · rw [if_pos (by rw [nI_ltI (by omega) (by omega)]; exact z)]; congr 1; omega
    · rw [if_neg (by rw [nI_ltI (by omega) (by omega)]; exact z)]; congr 1; omega
  simp (disch := omega) only [Tt_C, em, nI_ltI]
  unfold pkW
  generalize app W (if fin = n then 1 else 0) 1 = W1 at *
  by_cases z : min (szM b beg fin T) (bitN b beg fin T lF) < szS W beg fin
  · rw [if_pos z, if_neg (by omega)]
    by_cases y : szM b beg fin T < bitN b beg fin T lF
    · rw [if_pos y, if_neg (by omega), Tt_R4]
      refine Tt_m (t_number hW1' (k := 2) (v := 2) (by omega) (by omega) rfl rfl) ?_
      rintro ⟨_, a1, a2, a3, a4⟩ hW2
      dsimp only at hW2 ⊢
      have bH := pH_b (fSf b beg fin T)
      have bD := pD_b (fDf b beg fin T)
      have ln : (pL (fSf b beg fin T) (fDf b beg fin T)).1 ≤ pH (fSf b beg fin T) + pD (fDf b beg fin T) := told_n _ _
      rw [Tt_R4]
      refine Tt_m (t_writeHdC (W := app W1 2 2) bH.1 bH.2 bD.1 bD.2 hhs hhd hhc hcl' (fun i hi => fitL_hi (by omega) (by decide)) hco' hCT.1 (by omega) hCT.2.1 hCT.2.2.2 (fun t ht => ?_) hW2) ?_
      · exact fitL_lo (by omega) (by decide) (hCT.2.2.2 t ht).1 (cn_pos ht)
      · rintro ⟨_, a1, a2, a3, a4⟩ hW3
        dsimp only at hW3 ⊢
        rw [Tt_R4]
        refine Tt_m (t_writeTokC (N1 := 286) (N2 := 30) (l := lM b beg fin T) (c := cAll (lM b beg fin T)) h.2 hn hfn hT hpt htc htk (by omega) (by omega) (by omega) (by omega) (fun s hs => ⟨by rw [lM_S (by omega)]; exact hms s hs, lM_b _ _ _ _ s⟩) (fun d hd => ⟨by rw [lM_D]; exact hmd d hd, lM_b _ _ _ _ _⟩) (fun s hs h0 => ⟨?_, cAll_lt _ _⟩) (fun d hd h0 => ⟨?_, cAll_lt _ _⟩) (lM_u h.2 hn hfn hpt) hW3) ?_
        · rw [lM_cS hs]
          rw [lM_S (by omega)] at h0
          exact hmsc s hs h0
        · rw [lM_cD hd]
          rw [lM_D] at h0
          exact hmdc d hd h0
        · rintro ⟨_, a1, a2, a3, a4⟩ hW4
          exact hW4
    · rw [if_neg y, if_pos (by omega), Tt_R4]
      refine Tt_m (t_number hW1' (k := 2) (v := 1) (by omega) (by omega) rfl rfl) ?_
      rintro ⟨_, a1, a2, a3, a4⟩ hW2
      dsimp only at hW2 ⊢
      rw [Tt_R4]
      refine Tt_m (t_writeTokC (N1 := 288) (N2 := 32) (l := lF) (c := cAll lF) (W := app W1 1 2) h.2 hn hfn hT hpt htc htk (by omega) (by omega) (by omega) (by omega) (fun s hs => ⟨(hF.1 s (by omega)).1, by have := lF_b s; omega⟩) (fun d hd => ⟨(hF.2 d (by omega)).1, by have := lF_b (288 + d); omega⟩) (fun s hs _ => ⟨(hF.1 s (by omega)).2, cAll_lt _ _⟩) (fun d hd _ => ⟨(hF.2 d (by omega)).2, cAll_lt _ _⟩) lF_u hW2) ?_
      rintro ⟨_, a1, a2, a3, a4⟩ hW4
      exact hW4
  · rw [if_neg z, if_pos (by omega), Tt_R4]
    refine Tt_m (t_number hW1' (k := 2) (v := 0) (by omega) (by omega) rfl rfl) ?_
    rintro ⟨_, a1, a2, a3, a4⟩ hW2
    dsimp only at hW2 ⊢
    rw [Tt_R4]
    refine Tt_m (t_storedC (W := app W1 0 2) h hn hfn hbe e1 e2 hW2) ?_
    rintro ⟨_, a1, a2, a3, a4⟩ hW4
    exact hW4
/-- one part, packed by the program -/
theorem t_partC {before c fs fd fc fdc : Nat → Int32} {tc ex many ol oo ooc hrl htc hsl hdl hcl : Int32} {sc dc toks msl lc ls ib it mdl msn msc mdn mdc hrow hcs htd hcle hnx hco od : Nat → Int32} {pr : Nat → Nat → Int32} {x1 x2 : Int32} {b : Nat → Nat} {n beg fin : Nat} {W : WS} (h : Row c 0 n b) (hn : n ≤ 8192) (hB : ∀ p, p < n → before p = nI (lb (hf b n) p (hf b n p))) (hfn : fin ≤ n) (hbe : beg ≤ fin) (hl : fin - beg ≤ 4096) (hF : FixC fs fc fd fdc) (e1 : x1 = nI beg) (e2 : x2 = nI fin) (hW : ClsW ol oo ooc od W.1 W.2) : Tt (Packer_packPart 200000 8192 286 30 286 30 288 32 19 19 288 32 before (nI n) c fs fd fc fdc tc ex sc dc toks msl many lc ls ib it pr mdl msn msc mdn mdc ol oo ooc hrl htc hsl hdl hcl hrow hcs htd hcle hnx hco od x1 x2) (fun (_, _, _, _, _, _, _, _, _, _, _, _, _, _, _, _, _, _, ol, oo, ooc, _, _, _, _, _, _, _, _, _, _, _, od) => ∃ T, T ≤ fin - beg ∧ isT b beg fin T ∧ ClsW ol oo ooc od (pkW b n beg fin T W).1 (pkW b n beg fin T W).2) := by
  unfold Packer_packPart
  rw [Tt_R5]
  refine Tt_m (t_collect h hn hB hfn hbe hl e1 e2) ?_
  rintro ⟨_, tc1, ex1, sc1, dc1, tk1⟩ ⟨T, hT, hisT, g1, g2, g3, g4, g5⟩
  dsimp only at g1 g2 g3 g4 g5 ⊢
  have hT' : T ≤ 4096 := by omega
  have cl1 : ∀ i, cSf b beg fin T i ≤ 8192 := fun i => by
    have := cn_le (sOf b beg fin) i T
    unfold cSf
    split <;> omega
  have cl2 : ∀ i, cDf b beg fin T i ≤ 8192 := fun i => by
    have := cn_le (dOf b beg fin) i T
    unfold cDf
    omega
  rw [Tt_R7]
  refine Tt_m (t_fit (n := 286) (K := 15) (c := cSf b beg fin T) (by omega) g3 cl1 (by omega) (by omega) (by decide) rfl) ?_
  rintro ⟨_, msl1, many1, lc1, ls1, ib1, it1, pr1⟩ hms
  dsimp only at hms ⊢
  rw [Tt_R7]
  refine Tt_m (t_fit (n := 30) (K := 15) (c := cDf b beg fin T) (by omega) g4 cl2 (by omega) (by omega) (by decide) rfl) ?_
  rintro ⟨_, mdl1, many2, lc2, ls2, ib2, it2, pr2⟩ hmd
  dsimp only at hmd ⊢
  rw [Tt_R2]
  refine Tt_m (t_assign (N := 286) (f := fSf b beg fin T) (by omega) hms (fun i _ => fSf_b _ _ _ _ i)) ?_
  rintro ⟨_, msn1, msc1⟩ hmsc
  dsimp only at hmsc ⊢
  rw [Tt_R2]
  refine Tt_m (t_assign (N := 30) (f := fDf b beg fin T) (by omega) hmd (fun i _ => fDf_b _ _ _ _ i)) ?_
  rintro ⟨_, mdn1, mdc1⟩ hmdc
  dsimp only at hmdc ⊢
  rw [Tt_R0]
  refine Tt_m (t_leftBehind hW (k := 3) (by omega) rfl) ?_
  rintro ⟨r3, _⟩ h3
  have h3' : r3 = nI ((8 - (W.1 + 3) % 8) % 8) := h3
  subst h3'
  rw [Tt_L, Tt_R0]
  refine Tt_m (t_bitsWith (N1 := 288) (N2 := 32) (l := lF) h.2 hn hfn hisT.2 (by omega) (by omega) (by omega) (by omega) (fun s hs => (hF.1 s hs).1) (fun d hd => (hF.2 d hd).1) g3 g4 g2) ?_
  rintro ⟨r4, _⟩ h4
  dsimp only at h4 ⊢
  rw [Tt_R17]
  refine Tt_m (t_plan (fS := fSf b beg fin T) (fD := fDf b beg fin T) hms (fun i _ => fSf_b _ _ _ _ i) hmd (fun i _ => fDf_b _ _ _ _ i)) ?_
  rintro ⟨r5, q1, q2, q3, q4, q5, q6, q7, q8, q9, q10, q11, q12, q13, q14, q15, q16, q17⟩ ⟨k1, k2, k3, k4, k5, k6, k7⟩
  dsimp only
  rw [Tt_R0]
  refine Tt_m (t_bitsWith (N1 := 286) (N2 := 30) (l := lM b beg fin T) h.2 hn hfn hisT.2 (by omega) (by omega) (by omega) (by omega) (fun s hs => by rw [lM_S (by omega)]; exact hms s hs) (fun d hd => by rw [lM_D]; exact hmd d hd) g3 g4 g2) ?_
  rintro ⟨r6, _⟩ h6
  dsimp only at h6 ⊢
  subst e1 e2 h4 h6 k1
  rw [pk_sub hbe]
  simp only [i_0, i_1, i_2, i_3, i_4, i_5, i_6, i_7, i_8, i_9, i_10, i_11, i_13, i_14, i_15, i_16, i_17, i_18, i_19, i_24, i_29, i_30, i_31, i_32, i_138, i_143, i_144, i_254, i_255, i_256, i_257, i_258, i_261, i_264, i_265, i_279, i_280, i_284, i_285, i_286, i_288, i_319, i_320, i_338, i_339, i_575, i_576, i_599, i_600, i_4096, i_8191, i_8192, i_8249, i_8250, i_8256, i_9000, i_16384, i_32767, i_32768, i_65520, i_65521, i_65535, i_65536, i_65999, i_66000, i_1300, i_120, i_156, pk_mul, nI_add]
  unfold Bytes_length
  simp (disch := omega) only [Tt_L, Tt_R0, Tt_S, Tt_C, nI_eq]
  by_cases z : fin = n
  · rw [if_pos z]
    refine Tt_m (t_part143 (W := W) (s1 := nI 1) h hn hfn hbe hl hT' hisT.2 hF g1 g5 hms hmd hmsc hmdc k2 k3 k4 k5 k6 k7 rfl rfl rfl rfl rfl (by rw [if_pos z]) hW) ?_
    rintro ⟨_, tc9, ex9, sc9, dc9, toks9, msl9, many9, lc9, ls9, ib9, it9, pr9, mdl9, msn9, msc9, mdn9, mdc9, ol9, oo9, ooc9, hrl9, htc9, hsl9, hdl9, hcl9, hrow9, hcs9, htd9, hcle9, hnx9, hco9, od9⟩ hu
    exact ⟨T, hT, hisT, hu⟩
  · rw [if_neg z]
    refine Tt_m (t_part143 (W := W) (s1 := nI 0) h hn hfn hbe hl hT' hisT.2 hF g1 g5 hms hmd hmsc hmdc k2 k3 k4 k5 k6 k7 rfl rfl rfl rfl rfl (by rw [if_neg z]) hW) ?_
    rintro ⟨_, tc9, ex9, sc9, dc9, toks9, msl9, many9, lc9, ls9, ib9, it9, pr9, mdl9, msn9, msc9, mdn9, mdc9, ol9, oo9, ooc9, hrl9, htc9, hsl9, hdl9, hcl9, hrow9, hcs9, htd9, hcle9, hnx9, hco9, od9⟩ hu
    exact ⟨T, hT, hisT, hu⟩
