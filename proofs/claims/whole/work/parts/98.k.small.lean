/-! the small calls -/
theorem t_startK {kn kl : Nat} {ks B : Nat → Nat} {vkp vkl vrs vrp x : Int32} {cks ckd rS rA rM rR : Nat → Int32} (hO : KnO kn kl ks B) (hC : KnC kn kl ks B vkp vkl cks ckd) (hM : KnM kn kl ks B vrs vrp rS rA rM rR) : ∃ r : Int32, Tt (P_start 200000 vkp cks x) (fun u => u.1 = r) ∧ Tt (M_start 200000 vrp rS x) (fun u => u.1 = r) := by
  obtain ⟨rfl, c2, c3, c4⟩ := hC
  obtain ⟨m1, rfl, m3, m4⟩ := hM
  have hO1 := hO.1
  by_cases w : x < 0
  · exact ⟨-2, by unfold P_start; exact Tt_p w (Tt_Si rfl), by unfold M_start; exact Tt_p w (Tt_Si rfl)⟩
  obtain ⟨i, hi, rfl⟩ := n_of w
  by_cases y : i < kn
  · refine ⟨nI (ks i), ?_, ?_⟩
    · unfold P_start
      refine Tt_n w (Tt_n (by first | decide | (simp (disch := omega) only [i_0, i_1, i_2, i_3, i_4, i_5, i_6, i_7, i_8, i_9, i_10, i_11, i_13, i_14, i_15, i_16, i_17, i_18, i_19, i_24, i_29, i_30, i_31, i_32, i_138, i_143, i_144, i_254, i_255, i_256, i_257, i_258, i_261, i_264, i_265, i_279, i_280, i_284, i_285, i_286, i_288, i_319, i_320, i_338, i_339, i_575, i_576, i_599, i_600, i_4096, i_8191, i_8192, i_8249, i_8250, i_8256, i_9000, i_16384, i_32767, i_32768, i_65520, i_65521, i_65535, i_65536, i_65999, i_66000, i_1300, i_120, i_156, nI_leI, nI_ltI, nI_eq, nI_add, n_neg, not_false_eq_true, not_true_eq_false] <;> omega)) (Tt_n (by first | decide | (simp (disch := omega) only [i_0, i_1, i_2, i_3, i_4, i_5, i_6, i_7, i_8, i_9, i_10, i_11, i_13, i_14, i_15, i_16, i_17, i_18, i_19, i_24, i_29, i_30, i_31, i_32, i_138, i_143, i_144, i_254, i_255, i_256, i_257, i_258, i_261, i_264, i_265, i_279, i_280, i_284, i_285, i_286, i_288, i_319, i_320, i_338, i_339, i_575, i_576, i_599, i_600, i_4096, i_8191, i_8192, i_8249, i_8250, i_8256, i_9000, i_16384, i_32767, i_32768, i_65520, i_65521, i_65535, i_65536, i_65999, i_66000, i_1300, i_120, i_156, nI_leI, nI_ltI, nI_eq, nI_add, n_neg, not_false_eq_true, not_true_eq_false] <;> omega)) (Tt_g (by omega) (by omega) (Tt_Si ?_))))
      dsimp only
      rw [nI_clamp (by omega), c3 i y]
    · unfold M_start
      refine Tt_n w (Tt_p (by first | decide | (simp (disch := omega) only [i_0, i_1, i_2, i_3, i_4, i_5, i_6, i_7, i_8, i_9, i_10, i_11, i_13, i_14, i_15, i_16, i_17, i_18, i_19, i_24, i_29, i_30, i_31, i_32, i_138, i_143, i_144, i_254, i_255, i_256, i_257, i_258, i_261, i_264, i_265, i_279, i_280, i_284, i_285, i_286, i_288, i_319, i_320, i_338, i_339, i_575, i_576, i_599, i_600, i_4096, i_8191, i_8192, i_8249, i_8250, i_8256, i_9000, i_16384, i_32767, i_32768, i_65520, i_65521, i_65535, i_65536, i_65999, i_66000, i_1300, i_120, i_156, nI_leI, nI_ltI, nI_eq, nI_add, n_neg, not_false_eq_true, not_true_eq_false] <;> omega)) (Tt_g (by omega) (by omega) (Tt_Si ?_)))
      dsimp only
      rw [nI_clamp (by omega), (m3 i y).1]
  · exact ⟨-2, by unfold P_start; exact Tt_n w (Tt_p (by first | decide | (simp (disch := omega) only [i_0, i_1, i_2, i_3, i_4, i_5, i_6, i_7, i_8, i_9, i_10, i_11, i_13, i_14, i_15, i_16, i_17, i_18, i_19, i_24, i_29, i_30, i_31, i_32, i_138, i_143, i_144, i_254, i_255, i_256, i_257, i_258, i_261, i_264, i_265, i_279, i_280, i_284, i_285, i_286, i_288, i_319, i_320, i_338, i_339, i_575, i_576, i_599, i_600, i_4096, i_8191, i_8192, i_8249, i_8250, i_8256, i_9000, i_16384, i_32767, i_32768, i_65520, i_65521, i_65535, i_65536, i_65999, i_66000, i_1300, i_120, i_156, nI_leI, nI_ltI, nI_eq, nI_add, n_neg, not_false_eq_true, not_true_eq_false] <;> omega)) (Tt_Si rfl)), by unfold M_start; exact Tt_n w (Tt_n (by first | decide | (simp (disch := omega) only [i_0, i_1, i_2, i_3, i_4, i_5, i_6, i_7, i_8, i_9, i_10, i_11, i_13, i_14, i_15, i_16, i_17, i_18, i_19, i_24, i_29, i_30, i_31, i_32, i_138, i_143, i_144, i_254, i_255, i_256, i_257, i_258, i_261, i_264, i_265, i_279, i_280, i_284, i_285, i_286, i_288, i_319, i_320, i_338, i_339, i_575, i_576, i_599, i_600, i_4096, i_8191, i_8192, i_8249, i_8250, i_8256, i_9000, i_16384, i_32767, i_32768, i_65520, i_65521, i_65535, i_65536, i_65999, i_66000, i_1300, i_120, i_156, nI_leI, nI_ltI, nI_eq, nI_add, n_neg, not_false_eq_true, not_true_eq_false] <;> omega)) (Tt_Si rfl))⟩
theorem t_sizeK {kn kl : Nat} {ks B : Nat → Nat} {vkp vkl vrs vrp vi x : Int32} {cks ckd rS rA rM rR : Nat → Int32} (hC : KnC kn kl ks B vkp vkl cks ckd) (hM : KnM kn kl ks B vrs vrp rS rA rM rR) : ∃ r : Int32, Tt (P_size 200000 vkp vkl vi x) (fun u => u.1 = r) ∧ Tt (M_size 200000 vi vrs vrp x) (fun u => u.1 = r) := by
  obtain ⟨rfl, rfl, c3, c4⟩ := hC
  obtain ⟨rfl, rfl, m3, m4⟩ := hM
  have el : ∀ v, Bytes_length 200000 v = some (v, ()) := fun _ => rfl
  unfold P_size M_size
  by_cases w0 : x = 0
  · exact ⟨vi, Tt_p w0 (Tt_R0.2 (Tt_o (el _) (Tt_Si rfl))), Tt_p w0 (Tt_Si rfl)⟩
  by_cases w1 : x = 1
  · exact ⟨nI kl, Tt_n w0 (Tt_p w1 (Tt_R0.2 (Tt_o (el _) (Tt_Si rfl)))), Tt_n w0 (Tt_p w1 (Tt_Si rfl))⟩
  by_cases w2 : x = 2
  · exact ⟨nI kn, Tt_n w0 (Tt_n w1 (Tt_p w2 (Tt_Si rfl))), Tt_n w0 (Tt_n w1 (Tt_p w2 (Tt_Si rfl)))⟩
  · exact ⟨-1, Tt_n w0 (Tt_n w1 (Tt_n w2 (Tt_Si rfl))), Tt_n w0 (Tt_n w1 (Tt_n w2 (Tt_Si rfl)))⟩
theorem t_refK {s : ASt} {cz : Nat} {vp vl vi vr vpM viM : Int32} {pd img row imgM sts : Nat → Int32} (hcz : cz ≤ 1) (hS : cz = 0 → AOK s ∧ CRl s vp vl pd vi img ∧ MRl s vr vpM viM row imgM sts) : ∃ r : Int64, Tt (P_reference 200000 (nI cz) vi vl) (fun u => u.1 = r) ∧ Tt (M_reference 200000 (nI cz) vr sts) (fun u => u.1 = r) := by
  have el : ∀ v, Bytes_length 200000 v = some (v, ()) := fun _ => rfl
  by_cases z : cz = 0
  · subst z
    obtain ⟨ho, hC, hM⟩ := hS rfl
    obtain ⟨k, l, b, len, bi⟩ := s
    obtain ⟨h1, h2, h3, h4, h5, h6⟩ := ho
    obtain ⟨g1, g2, g3, g4, g5⟩ := hC
    obtain ⟨m1, m2, m3, m4, m5, m6, m7⟩ := hM
    unfold tot at m1
    dsimp only at h1 h2 h3 h4 h5 h6 g1 g2 g3 g4 g5 m1 m2 m3 m4 m5 m6 m7
    subst g2 g4 m1
    refine ⟨65536 * (nI len).toInt64 + (nI l).toInt64, ?_, ?_⟩
    · unfold P_reference
      exact Tt_p rfl (Tt_R0.2 (Tt_o (el _) (Tt_R0.2 (Tt_o (el _) (Tt_Si rfl)))))
    · unfold M_reference
      have e1 : nI (8192 * k + l) / 8192 = nI k := by
        have e : nI (8192 * k + l) / 8192 = nI ((8192 * k + l) / 8192) := pk_div (d := 8192) (by omega) (by decide) (by decide)
        rw [e]
        exact congrArg nI (by omega)
      have e2 : nI (8192 * k + l) - nI (8192 * k + l) / 8192 * 8192 = nI l := by
        have e : nI (8192 * k + l) - nI (8192 * k + l) / 8192 * 8192 = nI ((8192 * k + l) % 8192) := n_rm (d := 8192) (by omega) (by omega) (by omega)
        rw [e]
        exact congrArg nI (by omega)
      refine Tt_p rfl (Tt_l ?_)
      rw [e2, e1]
      refine Tt_g (by omega) (by omega) (Tt_Si ?_)
      dsimp only
      rw [nI_clamp (by omega), m6]
  · refine ⟨-1, ?_, ?_⟩
    · unfold P_reference
      exact Tt_n (by first | decide | (simp (disch := omega) only [i_0, i_1, i_2, i_3, i_4, i_5, i_6, i_7, i_8, i_9, i_10, i_11, i_13, i_14, i_15, i_16, i_17, i_18, i_19, i_24, i_29, i_30, i_31, i_32, i_138, i_143, i_144, i_254, i_255, i_256, i_257, i_258, i_261, i_264, i_265, i_279, i_280, i_284, i_285, i_286, i_288, i_319, i_320, i_338, i_339, i_575, i_576, i_599, i_600, i_4096, i_8191, i_8192, i_8249, i_8250, i_8256, i_9000, i_16384, i_32767, i_32768, i_65520, i_65521, i_65535, i_65536, i_65999, i_66000, i_1300, i_120, i_156, nI_leI, nI_ltI, nI_eq, nI_add, n_neg, not_false_eq_true, not_true_eq_false] <;> omega)) (Tt_Si rfl)
    · unfold M_reference
      exact Tt_n (by first | decide | (simp (disch := omega) only [i_0, i_1, i_2, i_3, i_4, i_5, i_6, i_7, i_8, i_9, i_10, i_11, i_13, i_14, i_15, i_16, i_17, i_18, i_19, i_24, i_29, i_30, i_31, i_32, i_138, i_143, i_144, i_254, i_255, i_256, i_257, i_258, i_261, i_264, i_265, i_279, i_280, i_284, i_285, i_286, i_288, i_319, i_320, i_338, i_339, i_575, i_576, i_599, i_600, i_4096, i_8191, i_8192, i_8249, i_8250, i_8256, i_9000, i_16384, i_32767, i_32768, i_65520, i_65521, i_65535, i_65536, i_65999, i_66000, i_1300, i_120, i_156, nI_leI, nI_ltI, nI_eq, nI_add, n_neg, not_false_eq_true, not_true_eq_false] <;> omega)) (Tt_Si rfl)
theorem Row_upd {c : Nat → Int32} {len i v : Nat} {b : Nat → Nat} {x : Int32} (h : Row c 0 len b) (hv : v < 256) (hx : x = sx v) : Row (upd c i x) 0 len (push b i v) := by
  refine ⟨fun j hj => ?_, push_b h.2 hv⟩
  rw [Nat.zero_add]
  show _ = sx (if j = i then v else b j)
  by_cases e : j = i
  · rw [e, pk_us, if_pos rfl, hx]
  · rw [pk_un e, if_neg e]
    have := h.1 j hj
    rw [Nat.zero_add] at this
    exact this
theorem t_patchK {c c' : Nat → Int32} {len cz : Nat} {bi : Nat → Nat} {x1 x2 : Int32} (h : Row c 0 len bi) (h' : Row c' 0 len bi) (hlen : len ≤ 66000) (hcz : cz ≤ 1) : ∃ (r : Int32) (bi' : Nat → Nat), (cz = 0 → bi' = bi) ∧ Tt (P_patch 200000 66000 (nI cz) (nI len) c x1 x2) (fun u => u.1 = r ∧ Row u.2 0 len bi' ∧ (cz = 0 → u.2 = c)) ∧ Tt (M_patch 200000 (nI cz) (nI len) c' x1 x2) (fun u => u.1 = r ∧ Row u.2 0 len bi' ∧ (cz = 0 → u.2 = c')) := by
  have el : ∀ v, Bytes_length 200000 v = some (v, ()) := fun _ => rfl
  by_cases z : cz = 0
  · subst z
    exact ⟨-1, bi, fun _ => rfl, by unfold P_patch; exact Tt_p rfl (Tt_Si ⟨rfl, h, fun _ => rfl⟩), by unfold M_patch; exact Tt_p rfl (Tt_Si ⟨rfl, h', fun _ => rfl⟩)⟩
  have nz : ¬ nI cz = 0 := (by first | decide | (simp (disch := omega) only [i_0, i_1, i_2, i_3, i_4, i_5, i_6, i_7, i_8, i_9, i_10, i_11, i_13, i_14, i_15, i_16, i_17, i_18, i_19, i_24, i_29, i_30, i_31, i_32, i_138, i_143, i_144, i_254, i_255, i_256, i_257, i_258, i_261, i_264, i_265, i_279, i_280, i_284, i_285, i_286, i_288, i_319, i_320, i_338, i_339, i_575, i_576, i_599, i_600, i_4096, i_8191, i_8192, i_8249, i_8250, i_8256, i_9000, i_16384, i_32767, i_32768, i_65520, i_65521, i_65535, i_65536, i_65999, i_66000, i_1300, i_120, i_156, nI_leI, nI_ltI, nI_eq, nI_add, n_neg, not_false_eq_true, not_true_eq_false] <;> omega))
  by_cases w : x1 < 0
  · exact ⟨-2, bi, fun _ => rfl, by unfold P_patch; exact Tt_n nz (Tt_p w (Tt_Si ⟨rfl, h, fun _ => rfl⟩)), by unfold M_patch; exact Tt_n nz (Tt_p w (Tt_Si ⟨rfl, h', fun _ => rfl⟩))⟩
  obtain ⟨i, hi, rfl⟩ := n_of w
  by_cases y : i < len
  · refine ⟨nI (bi i), push bi i (bo x2), fun k => absurd k z, ?_, ?_⟩
    · unfold P_patch
      have ea := e_atB h hlen (by omega) (x := i) hi
      rw [if_pos y] at ea
      refine Tt_n nz (Tt_n w (Tt_R0.2 (Tt_o (el _) (Tt_p (by first | decide | (simp (disch := omega) only [i_0, i_1, i_2, i_3, i_4, i_5, i_6, i_7, i_8, i_9, i_10, i_11, i_13, i_14, i_15, i_16, i_17, i_18, i_19, i_24, i_29, i_30, i_31, i_32, i_138, i_143, i_144, i_254, i_255, i_256, i_257, i_258, i_261, i_264, i_265, i_279, i_280, i_284, i_285, i_286, i_288, i_319, i_320, i_338, i_339, i_575, i_576, i_599, i_600, i_4096, i_8191, i_8192, i_8249, i_8250, i_8256, i_9000, i_16384, i_32767, i_32768, i_65520, i_65521, i_65535, i_65536, i_65999, i_66000, i_1300, i_120, i_156, nI_leI, nI_ltI, nI_eq, nI_add, n_neg, not_false_eq_true, not_true_eq_false] <;> omega)) (Tt_R0.2 (Tt_o ea (Tt_R1.2 ?_)))))))
      unfold Bytes_set
      refine Tt_n w (Tt_n (by first | decide | (simp (disch := omega) only [i_0, i_1, i_2, i_3, i_4, i_5, i_6, i_7, i_8, i_9, i_10, i_11, i_13, i_14, i_15, i_16, i_17, i_18, i_19, i_24, i_29, i_30, i_31, i_32, i_138, i_143, i_144, i_254, i_255, i_256, i_257, i_258, i_261, i_264, i_265, i_279, i_280, i_284, i_285, i_286, i_288, i_319, i_320, i_338, i_339, i_575, i_576, i_599, i_600, i_4096, i_8191, i_8192, i_8249, i_8250, i_8256, i_9000, i_16384, i_32767, i_32768, i_65520, i_65521, i_65535, i_65536, i_65999, i_66000, i_1300, i_120, i_156, nI_leI, nI_ltI, nI_eq, nI_add, n_neg, not_false_eq_true, not_true_eq_false] <;> omega)) (Tt_g (by omega) (by omega) (Tt_l (Tt_Si (Tt_Si ⟨rfl, ?_, fun k => absurd k z⟩)))))
      dsimp only
      rw [nI_clamp (by omega)]
      exact Row_upd h (bo_lt x2) (bo_n x2)
    · unfold M_patch
      have c0 := h'.1 i y
      rw [Nat.zero_add] at c0
      have e : sx (bi i) &&& (255 : Int32) = nI (bi i) := sx_k _ (h'.2 i)
      refine Tt_n nz (Tt_n w (Tt_p (by first | decide | (simp (disch := omega) only [i_0, i_1, i_2, i_3, i_4, i_5, i_6, i_7, i_8, i_9, i_10, i_11, i_13, i_14, i_15, i_16, i_17, i_18, i_19, i_24, i_29, i_30, i_31, i_32, i_138, i_143, i_144, i_254, i_255, i_256, i_257, i_258, i_261, i_264, i_265, i_279, i_280, i_284, i_285, i_286, i_288, i_319, i_320, i_338, i_339, i_575, i_576, i_599, i_600, i_4096, i_8191, i_8192, i_8249, i_8250, i_8256, i_9000, i_16384, i_32767, i_32768, i_65520, i_65521, i_65535, i_65536, i_65999, i_66000, i_1300, i_120, i_156, nI_leI, nI_ltI, nI_eq, nI_add, n_neg, not_false_eq_true, not_true_eq_false] <;> omega)) (Tt_g (by omega) (by omega) (Tt_l (Tt_g (by omega) (by omega) (Tt_l (Tt_Si ⟨?_, ?_, fun k => absurd k z⟩)))))))
      · dsimp only
        rw [nI_clamp (by omega), c0, e]
      · dsimp only
        rw [nI_clamp (by omega)]
        exact Row_upd h' (bo_lt x2) (bo_n x2)
  · refine ⟨-2, bi, fun _ => rfl, ?_, ?_⟩
    · unfold P_patch
      exact Tt_n nz (Tt_n w (Tt_R0.2 (Tt_o (el _) (Tt_n (by first | decide | (simp (disch := omega) only [i_0, i_1, i_2, i_3, i_4, i_5, i_6, i_7, i_8, i_9, i_10, i_11, i_13, i_14, i_15, i_16, i_17, i_18, i_19, i_24, i_29, i_30, i_31, i_32, i_138, i_143, i_144, i_254, i_255, i_256, i_257, i_258, i_261, i_264, i_265, i_279, i_280, i_284, i_285, i_286, i_288, i_319, i_320, i_338, i_339, i_575, i_576, i_599, i_600, i_4096, i_8191, i_8192, i_8249, i_8250, i_8256, i_9000, i_16384, i_32767, i_32768, i_65520, i_65521, i_65535, i_65536, i_65999, i_66000, i_1300, i_120, i_156, nI_leI, nI_ltI, nI_eq, nI_add, n_neg, not_false_eq_true, not_true_eq_false] <;> omega)) (Tt_Si ⟨rfl, h, fun _ => rfl⟩)))))
    · unfold M_patch
      exact Tt_n nz (Tt_n w (Tt_n (by first | decide | (simp (disch := omega) only [i_0, i_1, i_2, i_3, i_4, i_5, i_6, i_7, i_8, i_9, i_10, i_11, i_13, i_14, i_15, i_16, i_17, i_18, i_19, i_24, i_29, i_30, i_31, i_32, i_138, i_143, i_144, i_254, i_255, i_256, i_257, i_258, i_261, i_264, i_265, i_279, i_280, i_284, i_285, i_286, i_288, i_319, i_320, i_338, i_339, i_575, i_576, i_599, i_600, i_4096, i_8191, i_8192, i_8249, i_8250, i_8256, i_9000, i_16384, i_32767, i_32768, i_65520, i_65521, i_65535, i_65536, i_65999, i_66000, i_1300, i_120, i_156, nI_leI, nI_ltI, nI_eq, nI_add, n_neg, not_false_eq_true, not_true_eq_false] <;> omega)) (Tt_Si ⟨rfl, h', fun _ => rfl⟩)))
theorem t_cutK {len cz : Nat} {x1 : Int32} (hlen : len ≤ 66000) (hcz : cz ≤ 1) : ∃ (r : Int32) (len' : Nat), len' ≤ len ∧ (cz = 0 → len' = len) ∧ Tt (P_cut 200000 (nI cz) (nI len) x1) (fun u => u.1 = r ∧ u.2 = nI len') ∧ Tt (M_cut 200000 (nI cz) (nI len) x1) (fun u => u.1 = r ∧ u.2 = nI len') := by
  have el : ∀ v, Bytes_length 200000 v = some (v, ()) := fun _ => rfl
  by_cases z : cz = 0
  · subst z
    refine ⟨-1, len, by omega, fun _ => rfl, ?_, ?_⟩
    · unfold P_cut
      refine Tt_R0.2 (Tt_o (el _) ?_)
      dsimp only
      by_cases w1 : x1 < 0
      · exact Tt_p w1 (Tt_Si ⟨rfl, rfl⟩)
      · refine Tt_n w1 ?_
        by_cases w2 : nI len < x1
        · exact Tt_p w2 (Tt_Si ⟨rfl, rfl⟩)
        · exact Tt_n w2 (Tt_p rfl (Tt_Si ⟨rfl, rfl⟩))
    · unfold M_cut
      exact Tt_p rfl (Tt_Si ⟨rfl, rfl⟩)
  have nz : ¬ nI cz = 0 := (by first | decide | (simp (disch := omega) only [i_0, i_1, i_2, i_3, i_4, i_5, i_6, i_7, i_8, i_9, i_10, i_11, i_13, i_14, i_15, i_16, i_17, i_18, i_19, i_24, i_29, i_30, i_31, i_32, i_138, i_143, i_144, i_254, i_255, i_256, i_257, i_258, i_261, i_264, i_265, i_279, i_280, i_284, i_285, i_286, i_288, i_319, i_320, i_338, i_339, i_575, i_576, i_599, i_600, i_4096, i_8191, i_8192, i_8249, i_8250, i_8256, i_9000, i_16384, i_32767, i_32768, i_65520, i_65521, i_65535, i_65536, i_65999, i_66000, i_1300, i_120, i_156, nI_leI, nI_ltI, nI_eq, nI_add, n_neg, not_false_eq_true, not_true_eq_false] <;> omega))
  unfold P_cut M_cut
  by_cases w : x1 < 0
  · exact ⟨-1, len, by omega, fun _ => rfl, Tt_R0.2 (Tt_o (el _) (Tt_p w (Tt_Si ⟨rfl, rfl⟩))), Tt_n nz (Tt_p w (Tt_Si ⟨rfl, rfl⟩))⟩
  obtain ⟨i, hi, rfl⟩ := n_of w
  by_cases y : i ≤ len
  · have ek : Bytes_keep 200000 (nI len) (nI i) = some ((), nI i) := by
      unfold Bytes_keep mC
      rw [if_neg w, if_neg (by rw [nI_ltI (by omega) (by omega)]; omega)]
    exact ⟨nI (len - i), i, y, fun k => absurd k z, Tt_R0.2 (Tt_o (el _) (Tt_n w (Tt_n (by first | decide | (simp (disch := omega) only [i_0, i_1, i_2, i_3, i_4, i_5, i_6, i_7, i_8, i_9, i_10, i_11, i_13, i_14, i_15, i_16, i_17, i_18, i_19, i_24, i_29, i_30, i_31, i_32, i_138, i_143, i_144, i_254, i_255, i_256, i_257, i_258, i_261, i_264, i_265, i_279, i_280, i_284, i_285, i_286, i_288, i_319, i_320, i_338, i_339, i_575, i_576, i_599, i_600, i_4096, i_8191, i_8192, i_8249, i_8250, i_8256, i_9000, i_16384, i_32767, i_32768, i_65520, i_65521, i_65535, i_65536, i_65999, i_66000, i_1300, i_120, i_156, nI_leI, nI_ltI, nI_eq, nI_add, n_neg, not_false_eq_true, not_true_eq_false] <;> omega)) (Tt_n nz (Tt_R1.2 (Tt_o ek (Tt_Si ⟨pk_sub y, rfl⟩))))))), Tt_n nz (Tt_n w (Tt_p (by first | decide | (simp (disch := omega) only [i_0, i_1, i_2, i_3, i_4, i_5, i_6, i_7, i_8, i_9, i_10, i_11, i_13, i_14, i_15, i_16, i_17, i_18, i_19, i_24, i_29, i_30, i_31, i_32, i_138, i_143, i_144, i_254, i_255, i_256, i_257, i_258, i_261, i_264, i_265, i_279, i_280, i_284, i_285, i_286, i_288, i_319, i_320, i_338, i_339, i_575, i_576, i_599, i_600, i_4096, i_8191, i_8192, i_8249, i_8250, i_8256, i_9000, i_16384, i_32767, i_32768, i_65520, i_65521, i_65535, i_65536, i_65999, i_66000, i_1300, i_120, i_156, nI_leI, nI_ltI, nI_eq, nI_add, n_neg, not_false_eq_true, not_true_eq_false] <;> omega)) (Tt_l (Tt_Si ⟨pk_sub y, rfl⟩))))⟩
  · exact ⟨-1, len, by omega, fun _ => rfl, Tt_R0.2 (Tt_o (el _) (Tt_n w (Tt_p (by first | decide | (simp (disch := omega) only [i_0, i_1, i_2, i_3, i_4, i_5, i_6, i_7, i_8, i_9, i_10, i_11, i_13, i_14, i_15, i_16, i_17, i_18, i_19, i_24, i_29, i_30, i_31, i_32, i_138, i_143, i_144, i_254, i_255, i_256, i_257, i_258, i_261, i_264, i_265, i_279, i_280, i_284, i_285, i_286, i_288, i_319, i_320, i_338, i_339, i_575, i_576, i_599, i_600, i_4096, i_8191, i_8192, i_8249, i_8250, i_8256, i_9000, i_16384, i_32767, i_32768, i_65520, i_65521, i_65535, i_65536, i_65999, i_66000, i_1300, i_120, i_156, nI_leI, nI_ltI, nI_eq, nI_add, n_neg, not_false_eq_true, not_true_eq_false] <;> omega)) (Tt_Si ⟨rfl, rfl⟩)))), Tt_n nz (Tt_n w (Tt_n (by first | decide | (simp (disch := omega) only [i_0, i_1, i_2, i_3, i_4, i_5, i_6, i_7, i_8, i_9, i_10, i_11, i_13, i_14, i_15, i_16, i_17, i_18, i_19, i_24, i_29, i_30, i_31, i_32, i_138, i_143, i_144, i_254, i_255, i_256, i_257, i_258, i_261, i_264, i_265, i_279, i_280, i_284, i_285, i_286, i_288, i_319, i_320, i_338, i_339, i_575, i_576, i_599, i_600, i_4096, i_8191, i_8192, i_8249, i_8250, i_8256, i_9000, i_16384, i_32767, i_32768, i_65520, i_65521, i_65535, i_65536, i_65999, i_66000, i_1300, i_120, i_156, nI_leI, nI_ltI, nI_eq, nI_add, n_neg, not_false_eq_true, not_true_eq_false] <;> omega)) (Tt_Si ⟨rfl, rfl⟩)))⟩
/-! longs -/
theorem l_self (x : Int64) : lN x.toBitVec.toNat = x := by
  have e : (lN x.toBitVec.toNat).toBitVec = x.toBitVec := by
    show BitVec.ofNat 64 x.toBitVec.toNat = x.toBitVec
    exact BitVec.eq_of_toNat_eq (by rw [BitVec.toNat_ofNat]; exact Nat.mod_eq_of_lt x.toBitVec.isLt)
  exact Int64.toBitVec_inj.1 e
theorem l_inj {a b : Nat} (ha : a < 2 ^ 64) (hb : b < 2 ^ 64) (h : lN a = lN b) : a = b := by
  have e : BitVec.ofNat 64 a = BitVec.ofNat 64 b := congrArg Int64.toBitVec h
  have e2 := congrArg BitVec.toNat e
  rw [BitVec.toNat_ofNat, BitVec.toNat_ofNat, Nat.mod_eq_of_lt ha, Nat.mod_eq_of_lt hb] at e2
  exact e2
theorem l_or (a b : Nat) : lN a ||| lN b = lN (a ||| b) := by
  apply Int64.toBitVec_inj.1
  show BitVec.ofNat 64 a ||| BitVec.ofNat 64 b = BitVec.ofNat 64 (a ||| b)
  apply BitVec.eq_of_getLsbD_eq
  intro i hi
  simp [hi]
theorem l_ord {a b k : Nat} (h : a < 2 ^ k) : lN a ||| lN (b * 2 ^ k) = lN (a + b * 2 ^ k) := by
  rw [l_or]
  congr 1
  have := Nat.two_pow_add_eq_or_of_lt h b
  rw [Nat.mul_comm, Nat.or_comm, ← this]
  omega
theorem l_shl {a k : Nat} (hk : k < 64) : lN a <<< ((nI k).toInt64 &&& 63) = lN (a * 2 ^ k) := by
  apply Int64.toBitVec_inj.1
  show (lN a).toBitVec <<< (((nI k).toInt64 &&& 63).toBitVec.smod 64).toNat = BitVec.ofNat 64 (a * 2 ^ k)
  rw [l_sm k hk]
  apply BitVec.eq_of_toNat_eq
  rw [BitVec.toNat_shiftLeft, BitVec.toNat_ofNat, Nat.shiftLeft_eq]
  show BitVec.toNat (BitVec.ofNat 64 a) * 2 ^ k % 2 ^ 64 = _
  rw [BitVec.toNat_ofNat, Nat.mul_mod, Nat.mod_mod, ← Nat.mul_mod]
def wdA (f : Nat → Nat) : Nat → Nat
  | 0 => 0
  | k + 1 => wdA f k + f k * 2 ^ (8 * k)
theorem wdA_lt {f : Nat → Nat} (hf : ∀ i, f i < 256) : ∀ k, wdA f k < 2 ^ (8 * k) := by
  intro k
  induction k with
  | zero => exact Nat.one_pos
  | succ k ih =>
    show wdA f k + f k * 2 ^ (8 * k) < _
    have h := hf k
    have e : 2 ^ (8 * (k + 1)) = 256 * 2 ^ (8 * k) := by
      rw [show 8 * (k + 1) = 8 * k + 8 by omega, Nat.pow_add, Nat.mul_comm]
    have h2 : f k * 2 ^ (8 * k) ≤ 255 * 2 ^ (8 * k) := Nat.mul_le_mul_right _ (by omega)
    omega
theorem t_wordK {c c' : Nat → Int32} {len : Nat} {bi : Nat → Nat} {x1 : Int32} (h : Row c 0 len bi) (h' : Row c' 0 len bi) (hlen : len ≤ 66000) : ∃ r : Int64, Tt (P_word 200000 66000 (nI len) c x1) (fun u => u.1 = r) ∧ Tt (M_word 200000 (nI len) c' x1) (fun u => u.1 = r) := by
  have m0 : x1 < 0 ∨ ¬ x1 < 0 ∧ 8250 ≤ x1 → Tt (M_word 200000 (nI len) c' x1) (fun u => u.1 = 0) := by
    intro w
    unfold M_word
    refine Tt_W2 (fun mm x2 x4 => mm = 0 ∧ x2 = 0 ∧ x4 = 7) ?_ 200000 0 _ _ (by omega) ⟨rfl, rfl, rfl⟩
    rintro K mm x2 x4 ⟨rfl, rfl, rfl⟩ ih
    unfold M_word_6
    rcases w with w | ⟨w1, w2⟩
    · exact Tt_n (by decide) (Tt_p w (Tt_Si rfl))
    · exact Tt_n (by decide) (Tt_n w1 (Tt_p w2 (Tt_Si rfl)))
  by_cases w : x1 < 0
  · exact ⟨0, by unfold P_word; exact Tt_p w (Tt_Si rfl), m0 (Or.inl w)⟩
  obtain ⟨i, hi, rfl⟩ := n_of w
  have hf : ∀ k, (if 8 * i + k < len then bi (8 * i + k) else 0) < 256 := by
    intro k
    split
    · exact h.2 _
    · omega
  have pC : i ≤ 8250 → Tt (P_word 200000 66000 (nI len) c (nI i)) (fun u => u.1 = lN (wdA (fun k => if 8 * i + k < len then bi (8 * i + k) else 0) 8)) := by
    intro hi2
    unfold P_word
    refine Tt_n w (Tt_p (by first | decide | (simp (disch := omega) only [i_0, i_1, i_2, i_3, i_4, i_5, i_6, i_7, i_8, i_9, i_10, i_11, i_13, i_14, i_15, i_16, i_17, i_18, i_19, i_24, i_29, i_30, i_31, i_32, i_138, i_143, i_144, i_254, i_255, i_256, i_257, i_258, i_261, i_264, i_265, i_279, i_280, i_284, i_285, i_286, i_288, i_319, i_320, i_338, i_339, i_575, i_576, i_599, i_600, i_4096, i_8191, i_8192, i_8249, i_8250, i_8256, i_9000, i_16384, i_32767, i_32768, i_65520, i_65521, i_65535, i_65536, i_65999, i_66000, i_1300, i_120, i_156, nI_leI, nI_ltI, nI_eq, nI_add, n_neg, not_false_eq_true, not_true_eq_false] <;> omega)) ?_)
    refine Tt_W2 (fun mm x2 x4 => ∃ k, x4 = nI k ∧ k ≤ 8 ∧ mm = 8 - k ∧ x2 = lN (wdA (fun k => if 8 * i + k < len then bi (8 * i + k) else 0) k)) ?_ 200000 8 _ _ (by omega) ⟨0, rfl, by omega, rfl, rfl⟩
    rintro K mm x2 x4 ⟨k, rfl, hk, rfl, rfl⟩ ih
    unfold P_word_18
    by_cases z : 8 ≤ k
    · have e : k = 8 := by omega
      subst e
      exact Tt_p (by decide) (Tt_Si rfl)
    · have e8 : (8 : Int32) * nI i = nI (8 * i) := pk_mul 8 i
      have e8k : (8 : Int32) * nI k = nI (8 * k) := pk_mul 8 k
      refine Tt_n (by first | decide | (simp (disch := omega) only [i_0, i_1, i_2, i_3, i_4, i_5, i_6, i_7, i_8, i_9, i_10, i_11, i_13, i_14, i_15, i_16, i_17, i_18, i_19, i_24, i_29, i_30, i_31, i_32, i_138, i_143, i_144, i_254, i_255, i_256, i_257, i_258, i_261, i_264, i_265, i_279, i_280, i_284, i_285, i_286, i_288, i_319, i_320, i_338, i_339, i_575, i_576, i_599, i_600, i_4096, i_8191, i_8192, i_8249, i_8250, i_8256, i_9000, i_16384, i_32767, i_32768, i_65520, i_65521, i_65535, i_65536, i_65999, i_66000, i_1300, i_120, i_156, nI_leI, nI_ltI, nI_eq, nI_add, n_neg, not_false_eq_true, not_true_eq_false] <;> omega)) (Tt_l ?_)
      rw [e8, nI_add]
      refine Tt_R0.2 (Tt_o (e_atB h hlen (by omega) (x := 8 * i + k) (by omega)) (Tt_l (Tt_l ?_)))
      have fk := hf k
      dsimp only
      rw [nI_1, e8k, nI_l (by omega), l_shl (by omega), l_ord (wdA_lt hf k)]
      exact ih (8 - (k + 1)) _ _ (by omega) ⟨k + 1, rfl, by omega, rfl, rfl⟩
  by_cases y : i < 8250
  · refine ⟨_, pC (by omega), ?_⟩
    unfold M_word
    refine Tt_W2 (fun mm x2 x4 => ∃ k g, k ≤ 8 ∧ mm = k ∧ x4 = (if k = 0 then -1 else nI (k - 1)) ∧ x2 = lN g ∧ g < 2 ^ (8 * (8 - k)) ∧ wdA (fun k => if 8 * i + k < len then bi (8 * i + k) else 0) k + g * 2 ^ (8 * k) = wdA (fun k => if 8 * i + k < len then bi (8 * i + k) else 0) 8) ?_ 200000 8 _ _ (by omega) ⟨8, 0, by omega, rfl, rfl, rfl, by decide, by omega⟩
    rintro K mm x2 x4 ⟨k, g, hk, rfl, rfl, rfl, hg, he⟩ ih
    unfold M_word_6
    by_cases z : mm = 0
    · subst z
      rw [if_pos rfl]
      refine Tt_p (by decide) (Tt_Si ?_)
      dsimp only
      rw [← he]
      exact congrArg lN (by show g = 0 + g * 2 ^ (8 * 0); omega)
    · rw [if_neg z]
      have e8 : (8 : Int32) * nI i = nI (8 * i) := pk_mul 8 i
      have es : lN g <<< ((8 : Int32).toInt64 &&& 63) = lN (g * 2 ^ 8) := l_shl (k := 8) (by omega)
      have g60 : ∀ v, v = (if 8 * i + (mm - 1) < len then bi (8 * i + (mm - 1)) else 0) → Tt (M_word_60 200000 K (nI (mm - 1)) (lN (g * 2 ^ 8)) (nI v)) (fun u => u.1 = lN (wdA (fun k => if 8 * i + k < len then bi (8 * i + k) else 0) 8)) := by
        intro v hv
        have v256 : v < 256 := by rw [hv]; exact hf _
        unfold M_word_60
        refine Tt_l (Tt_l ?_)
        rw [nI_l (by omega), l_or, Nat.or_comm, ← l_or, l_ord (by omega)]
        have pw : 2 ^ (8 * (8 - (mm - 1))) = 256 * 2 ^ (8 * (8 - mm)) := by
          rw [show 8 * (8 - (mm - 1)) = 8 * (8 - mm) + 8 by omega, Nat.pow_add, Nat.mul_comm]
        have pw2 : 2 ^ (8 * mm) = 256 * 2 ^ (8 * (mm - 1)) := by
          rw [show 8 * mm = 8 * (mm - 1) + 8 by omega, Nat.pow_add, Nat.mul_comm]
        obtain ⟨q, rfl⟩ : ∃ q, mm = q + 1 := ⟨mm - 1, by omega⟩
        rw [show q + 1 - 1 = q by omega] at *
        refine ih q _ _ (by omega) ⟨q, v + g * 2 ^ 8, by omega, rfl, ?_, rfl, by omega, ?_⟩
        · by_cases q0 : q = 0
          · subst q0
            rfl
          · rw [if_neg q0]
            exact n_dec (by omega)
        · rw [← he]
          show wdA _ q + (v + g * 2 ^ 8) * 2 ^ (8 * q) = wdA _ q + (if 8 * i + q < len then bi (8 * i + q) else 0) * 2 ^ (8 * q) + g * 2 ^ (8 * (q + 1))
          rw [← hv, pw2, Nat.add_mul]
          have : g * 2 ^ 8 * 2 ^ (8 * q) = g * (256 * 2 ^ (8 * q)) := by rw [Nat.mul_assoc]
          omega
      refine Tt_n (nI_pos (by omega)) (Tt_n w (Tt_n (by first | decide | (simp (disch := omega) only [i_0, i_1, i_2, i_3, i_4, i_5, i_6, i_7, i_8, i_9, i_10, i_11, i_13, i_14, i_15, i_16, i_17, i_18, i_19, i_24, i_29, i_30, i_31, i_32, i_138, i_143, i_144, i_254, i_255, i_256, i_257, i_258, i_261, i_264, i_265, i_279, i_280, i_284, i_285, i_286, i_288, i_319, i_320, i_338, i_339, i_575, i_576, i_599, i_600, i_4096, i_8191, i_8192, i_8249, i_8250, i_8256, i_9000, i_16384, i_32767, i_32768, i_65520, i_65521, i_65535, i_65536, i_65999, i_66000, i_1300, i_120, i_156, nI_leI, nI_ltI, nI_eq, nI_add, n_neg, not_false_eq_true, not_true_eq_false] <;> omega)) ?_))
      rw [e8, nI_add, es]
      by_cases x : 8 * i + (mm - 1) < len
      · have c0 := h'.1 (8 * i + (mm - 1)) x
        rw [Nat.zero_add] at c0
        have e : sx (bi (8 * i + (mm - 1))) &&& (255 : Int32) = nI (bi (8 * i + (mm - 1))) := sx_k _ (h'.2 _)
        refine Tt_n (by first | decide | (simp (disch := omega) only [i_0, i_1, i_2, i_3, i_4, i_5, i_6, i_7, i_8, i_9, i_10, i_11, i_13, i_14, i_15, i_16, i_17, i_18, i_19, i_24, i_29, i_30, i_31, i_32, i_138, i_143, i_144, i_254, i_255, i_256, i_257, i_258, i_261, i_264, i_265, i_279, i_280, i_284, i_285, i_286, i_288, i_319, i_320, i_338, i_339, i_575, i_576, i_599, i_600, i_4096, i_8191, i_8192, i_8249, i_8250, i_8256, i_9000, i_16384, i_32767, i_32768, i_65520, i_65521, i_65535, i_65536, i_65999, i_66000, i_1300, i_120, i_156, nI_leI, nI_ltI, nI_eq, nI_add, n_neg, not_false_eq_true, not_true_eq_false] <;> omega)) (Tt_l (Tt_g (by omega) (by omega) ?_))
        rw [nI_clamp (by omega), c0, e]
        exact g60 _ (by rw [if_pos x])
      · exact Tt_p (by first | decide | (simp (disch := omega) only [i_0, i_1, i_2, i_3, i_4, i_5, i_6, i_7, i_8, i_9, i_10, i_11, i_13, i_14, i_15, i_16, i_17, i_18, i_19, i_24, i_29, i_30, i_31, i_32, i_138, i_143, i_144, i_254, i_255, i_256, i_257, i_258, i_261, i_264, i_265, i_279, i_280, i_284, i_285, i_286, i_288, i_319, i_320, i_338, i_339, i_575, i_576, i_599, i_600, i_4096, i_8191, i_8192, i_8249, i_8250, i_8256, i_9000, i_16384, i_32767, i_32768, i_65520, i_65521, i_65535, i_65536, i_65999, i_66000, i_1300, i_120, i_156, nI_leI, nI_ltI, nI_eq, nI_add, n_neg, not_false_eq_true, not_true_eq_false] <;> omega)) (g60 0 (by rw [if_neg x]))
  · refine ⟨0, ?_, m0 (Or.inr ⟨w, (by first | decide | (simp (disch := omega) only [i_0, i_1, i_2, i_3, i_4, i_5, i_6, i_7, i_8, i_9, i_10, i_11, i_13, i_14, i_15, i_16, i_17, i_18, i_19, i_24, i_29, i_30, i_31, i_32, i_138, i_143, i_144, i_254, i_255, i_256, i_257, i_258, i_261, i_264, i_265, i_279, i_280, i_284, i_285, i_286, i_288, i_319, i_320, i_338, i_339, i_575, i_576, i_599, i_600, i_4096, i_8191, i_8192, i_8249, i_8250, i_8256, i_9000, i_16384, i_32767, i_32768, i_65520, i_65521, i_65535, i_65536, i_65999, i_66000, i_1300, i_120, i_156, nI_leI, nI_ltI, nI_eq, nI_add, n_neg, not_false_eq_true, not_true_eq_false] <;> omega))⟩)⟩
    by_cases y2 : i = 8250
    · have p := pC (by omega)
      have z0 : ∀ k, wdA (fun k => if 8 * i + k < len then bi (8 * i + k) else 0) k = 0 := by
        intro k
        induction k with
        | zero => rfl
        | succ k ih =>
          show wdA _ k + (if 8 * i + k < len then bi (8 * i + k) else 0) * 2 ^ (8 * k) = 0
          rw [ih, if_neg (by omega), Nat.zero_mul]
      rw [z0 8] at p
      exact p
    · unfold P_word
      exact Tt_n w (Tt_n (by first | decide | (simp (disch := omega) only [i_0, i_1, i_2, i_3, i_4, i_5, i_6, i_7, i_8, i_9, i_10, i_11, i_13, i_14, i_15, i_16, i_17, i_18, i_19, i_24, i_29, i_30, i_31, i_32, i_138, i_143, i_144, i_254, i_255, i_256, i_257, i_258, i_261, i_264, i_265, i_279, i_280, i_284, i_285, i_286, i_288, i_319, i_320, i_338, i_339, i_575, i_576, i_599, i_600, i_4096, i_8191, i_8192, i_8249, i_8250, i_8256, i_9000, i_16384, i_32767, i_32768, i_65520, i_65521, i_65535, i_65536, i_65999, i_66000, i_1300, i_120, i_156, nI_leI, nI_ltI, nI_eq, nI_add, n_neg, not_false_eq_true, not_true_eq_false] <;> omega)) (Tt_Si rfl))
/-! bytes told by a reference -/
theorem l_ti {m : Nat} (h : m < 2 ^ 64) (z : ¬ m < 2 ^ 63) : (lN m).toInt = (m : Int) - 18446744073709551616 := by
  show (BitVec.ofNat 64 m).toInt = _
  rw [BitVec.toInt_eq_toNat_cond, BitVec.toNat_ofNat, Nat.mod_eq_of_lt h, if_neg (by omega)]
  omega
theorem y3_eq {N k : Nat} (hN : N < 2 ^ 64) (hk : k ≤ 66000) : lN N >>> ((16 : Int32).toInt64 &&& 63) = lN k ↔ N / 65536 = k := by
  by_cases z : N < 2 ^ 63
  · have e : lN N >>> ((16 : Int32).toInt64 &&& 63) = lN (N / 2 ^ 16) := l_shr (k := 16) z (by omega)
    rw [e, pk_lEQ (by omega) (by omega)]
  · constructor
    · intro h
      exfalso
      have e : (lN N >>> ((16 : Int32).toInt64 &&& 63)).toInt = (lN N).toInt >>> 16 := by
        show ((lN N).toBitVec.sshiftRight (((nI 16).toInt64 &&& 63).toBitVec.smod 64).toNat).toInt = _
        rw [l_sm 16 (by omega), BitVec.toInt_sshiftRight]
        rfl
      have g := congrArg Int64.toInt h
      rw [e, l_ti hN z, lN_toInt (by omega), Int.shiftRight_eq_div_pow] at g
      simp only [Nat.reducePow] at g
      omega
    · intro h
      omega
theorem t_byteAtK {kn kl : Nat} {ks B : Nat → Nat} {vkp vkl vrs vrp : Int32} {x1 : Int64} {cks ckd rS rA rM rR : Nat → Int32} (hO : KnO kn kl ks B) (hC : KnC kn kl ks B vkp vkl cks ckd) (hM : KnM kn kl ks B vrs vrp rS rA rM rR) : ∃ r : Int32, Tt (P_byteAt 200000 65536 vkp cks vkl ckd x1) (fun u => u.1 = r) ∧ Tt (M_byteAt 200000 vrp rS rM rA rR x1) (fun u => u.1 = r) := by
  obtain ⟨rfl, rfl, c3, c4⟩ := hC
  obtain ⟨rfl, rfl, m3, m4⟩ := hM
  obtain ⟨o1, o2, o3, o4, o5, o6, o7⟩ := hO
  obtain ⟨N, hN, rfl⟩ : ∃ N, N < 2 ^ 64 ∧ x1 = lN N := ⟨x1.toBitVec.toNat, x1.toBitVec.isLt, (l_self x1).symm⟩
  have el : ∀ v, Bytes_length 200000 v = some (v, ()) := fun _ => rfl
  have ep : (lN N &&& 65535).toInt32 = nI (N % 65536) := by
    have e : lN N &&& 65535 = lN (N % 65536) := by
      show lN N &&& lN 65535 = _
      rw [l_and, show (65535 : Nat) = 2 ^ 16 - 1 from rfl, Nat.and_two_pow_sub_one_eq_mod]
    rw [e, lN_i]
  have mb : ∀ i, i < kn → (if i + 1 < kn then 8192 else kl - 8192 * i) ≤ 8192 := by
    intro i hi
    split
    · omega
    · have := o6 (by omega)
      omega
  have mi : ∀ i, i < kn → (N % 65536 < (if i + 1 < kn then 8192 else kl - 8192 * i) ↔ N % 65536 < 8192 ∧ 8192 * i + N % 65536 < kl) := by
    intro i hi
    have q := o6 (by omega)
    by_cases y : i + 1 < kn
    · rw [if_pos y]
      omega
    · rw [if_neg y]
      omega
  have row : Row ckd 0 kl B := ⟨fun i hi => by rw [Nat.zero_add]; exact c4 i hi, o2⟩
  have not : ∀ j, j < kn → ¬ (N / 65536 = ks j ∧ N % 65536 < (if j + 1 < kn then 8192 else kl - 8192 * j)) → ∀ K : Int32 → Option (Int32 × Unit), ∀ Q : Int32 × Unit → Prop, Tt (K (nI (j + 1))) Q → Tt (M_byteAt_2 200000 (nI kn) rS rM (lN N) (M_byteAt_45 200000 rA rR) K (nI j)) Q := by
    intro j hj hno K Q hK
    have k3 := o3 j hj
    obtain ⟨a1, a2, a3⟩ := m3 j hj
    have mbj := mb j hj
    have next : Tt (M_byteAt_65 200000 K (nI j)) Q := by
      unfold M_byteAt_65
      refine Tt_l ?_
      rw [nI_1]
      exact hK
    unfold M_byteAt_2
    refine Tt_n (by first | decide | (simp (disch := omega) only [i_0, i_1, i_2, i_3, i_4, i_5, i_6, i_7, i_8, i_9, i_10, i_11, i_13, i_14, i_15, i_16, i_17, i_18, i_19, i_24, i_29, i_30, i_31, i_32, i_138, i_143, i_144, i_254, i_255, i_256, i_257, i_258, i_261, i_264, i_265, i_279, i_280, i_284, i_285, i_286, i_288, i_319, i_320, i_338, i_339, i_575, i_576, i_599, i_600, i_4096, i_8191, i_8192, i_8249, i_8250, i_8256, i_9000, i_16384, i_32767, i_32768, i_65520, i_65521, i_65535, i_65536, i_65999, i_66000, i_1300, i_120, i_156, nI_leI, nI_ltI, nI_eq, nI_add, n_neg, not_false_eq_true, not_true_eq_false] <;> omega)) (Tt_g (by omega) (by omega) (Tt_l ?_))
    rw [nI_clamp (by omega), a1, nI_l (by omega)]
    have e65 : (65536 : Int64) * lN (ks j) = lN (65536 * ks j) := lN_mul 65536 (ks j)
    rw [e65]
    by_cases neg : lN N - lN (65536 * ks j) < 0
    · exact Tt_p ((lg_cmp_lt _ _).2 neg) next
    · refine Tt_n (fun q => neg ((lg_cmp_lt _ _).1 q)) (Tt_g (by omega) (by omega) ?_)
      rw [a3, nI_l (by omega)]
      obtain ⟨D, hD, eD⟩ := pk_lOf neg
      rw [eD]
      refine Tt_p ((lg_cmp_ge _ _).2 ((pk_lLE (by omega) hD).2 ?_)) next
      rcases Nat.lt_or_ge D (if j + 1 < kn then 8192 else kl - 8192 * j) with w | w
      · exfalso
        apply hno
        have e2 : lN N = lN (D + 65536 * ks j) := by
          rw [← lN_add, ← eD]
          exact (Int64.sub_add_cancel _ _).symm
        have e3 := l_inj hN (by omega) e2
        exact ⟨by omega, by rw [show N % 65536 = D by omega]; exact w⟩
      · exact w
  by_cases ex : ∃ i, i < kn ∧ N / 65536 = ks i ∧ N % 65536 < (if i + 1 < kn then 8192 else kl - 8192 * i)
  · obtain ⟨i, hi, hk, hp⟩ := ex
    have k3 := o3 i hi
    have hp' := (mi i hi).1 hp
    refine ⟨nI (B (8192 * i + N % 65536)), ?_, ?_⟩
    · unfold P_byteAt
      refine Tt_l (Tt_l ?_)
      rw [ep]
      refine Tt_W3 (fun mm y3 y5 x6 => y3 = lN N >>> ((16 : Int32).toInt64 &&& 63) ∧ y5 = nI (N % 65536) ∧ ∃ j, x6 = nI j ∧ j ≤ i ∧ mm = i - j) ?_ 200000 i _ _ _ (by omega) ⟨rfl, rfl, 0, rfl, by omega, rfl⟩
      rintro K mm y3 y5 x6 ⟨rfl, rfl, j, rfl, hj, rfl⟩ ih
      unfold P_byteAt_16
      refine Tt_n (by first | decide | (simp (disch := omega) only [i_0, i_1, i_2, i_3, i_4, i_5, i_6, i_7, i_8, i_9, i_10, i_11, i_13, i_14, i_15, i_16, i_17, i_18, i_19, i_24, i_29, i_30, i_31, i_32, i_138, i_143, i_144, i_254, i_255, i_256, i_257, i_258, i_261, i_264, i_265, i_279, i_280, i_284, i_285, i_286, i_288, i_319, i_320, i_338, i_339, i_575, i_576, i_599, i_600, i_4096, i_8191, i_8192, i_8249, i_8250, i_8256, i_9000, i_16384, i_32767, i_32768, i_65520, i_65521, i_65535, i_65536, i_65999, i_66000, i_1300, i_120, i_156, nI_leI, nI_ltI, nI_eq, nI_add, n_neg, not_false_eq_true, not_true_eq_false] <;> omega)) (Tt_n (by first | decide | (simp (disch := omega) only [i_0, i_1, i_2, i_3, i_4, i_5, i_6, i_7, i_8, i_9, i_10, i_11, i_13, i_14, i_15, i_16, i_17, i_18, i_19, i_24, i_29, i_30, i_31, i_32, i_138, i_143, i_144, i_254, i_255, i_256, i_257, i_258, i_261, i_264, i_265, i_279, i_280, i_284, i_285, i_286, i_288, i_319, i_320, i_338, i_339, i_575, i_576, i_599, i_600, i_4096, i_8191, i_8192, i_8249, i_8250, i_8256, i_9000, i_16384, i_32767, i_32768, i_65520, i_65521, i_65535, i_65536, i_65999, i_66000, i_1300, i_120, i_156, nI_leI, nI_ltI, nI_eq, nI_add, n_neg, not_false_eq_true, not_true_eq_false] <;> omega)) (Tt_g (by omega) (by omega) ?_))
      have kj := o3 j (by omega)
      rw [nI_clamp (by omega), c3 j (by omega), nI_l (by omega)]
      by_cases e : j = i
      · subst e
        refine Tt_p ((lg_cmp_eq _ _).2 ((y3_eq hN k3).2 hk).symm) ?_
        unfold P_byteAt_45
        have e8 : (8192 : Int32) * nI j = nI (8192 * j) := pk_mul 8192 j
        refine Tt_l ?_
        rw [e8, nI_add]
        have ea := e_atB row (N := 65536) (by omega) (by omega) (x := 8192 * j + N % 65536) (by omega)
        rw [if_pos hp'.2] at ea
        exact Tt_n (by first | decide | (simp (disch := omega) only [i_0, i_1, i_2, i_3, i_4, i_5, i_6, i_7, i_8, i_9, i_10, i_11, i_13, i_14, i_15, i_16, i_17, i_18, i_19, i_24, i_29, i_30, i_31, i_32, i_138, i_143, i_144, i_254, i_255, i_256, i_257, i_258, i_261, i_264, i_265, i_279, i_280, i_284, i_285, i_286, i_288, i_319, i_320, i_338, i_339, i_575, i_576, i_599, i_600, i_4096, i_8191, i_8192, i_8249, i_8250, i_8256, i_9000, i_16384, i_32767, i_32768, i_65520, i_65521, i_65535, i_65536, i_65999, i_66000, i_1300, i_120, i_156, nI_leI, nI_ltI, nI_eq, nI_add, n_neg, not_false_eq_true, not_true_eq_false] <;> omega)) (Tt_R0.2 (Tt_o (el _) (Tt_n (by first | decide | (simp (disch := omega) only [i_0, i_1, i_2, i_3, i_4, i_5, i_6, i_7, i_8, i_9, i_10, i_11, i_13, i_14, i_15, i_16, i_17, i_18, i_19, i_24, i_29, i_30, i_31, i_32, i_138, i_143, i_144, i_254, i_255, i_256, i_257, i_258, i_261, i_264, i_265, i_279, i_280, i_284, i_285, i_286, i_288, i_319, i_320, i_338, i_339, i_575, i_576, i_599, i_600, i_4096, i_8191, i_8192, i_8249, i_8250, i_8256, i_9000, i_16384, i_32767, i_32768, i_65520, i_65521, i_65535, i_65536, i_65999, i_66000, i_1300, i_120, i_156, nI_leI, nI_ltI, nI_eq, nI_add, n_neg, not_false_eq_true, not_true_eq_false] <;> omega)) (Tt_R0.2 (Tt_o ea (Tt_Si rfl))))))
      · have lt := o4 i hi j (by omega)
        refine Tt_n (fun q => ?_) (Tt_l ?_)
        · have q1 := (y3_eq hN kj).1 ((lg_cmp_eq _ _).1 q).symm
          omega
        · rw [nI_1]
          exact ih (i - (j + 1)) _ _ _ (by omega) ⟨rfl, rfl, j + 1, rfl, by omega, rfl⟩
    · unfold M_byteAt
      refine Tt_W1 (fun mm x3 => ∃ j, x3 = nI j ∧ j ≤ i ∧ mm = i - j) ?_ 200000 i _ (by omega) ⟨0, rfl, by omega, rfl⟩
      rintro K mm x3 ⟨j, rfl, hj, rfl⟩ ih
      by_cases e : j = i
      · subst e
        obtain ⟨a1, a2, a3⟩ := m3 j hi
        have mbj := mb j hi
        unfold M_byteAt_2
        refine Tt_n (by first | decide | (simp (disch := omega) only [i_0, i_1, i_2, i_3, i_4, i_5, i_6, i_7, i_8, i_9, i_10, i_11, i_13, i_14, i_15, i_16, i_17, i_18, i_19, i_24, i_29, i_30, i_31, i_32, i_138, i_143, i_144, i_254, i_255, i_256, i_257, i_258, i_261, i_264, i_265, i_279, i_280, i_284, i_285, i_286, i_288, i_319, i_320, i_338, i_339, i_575, i_576, i_599, i_600, i_4096, i_8191, i_8192, i_8249, i_8250, i_8256, i_9000, i_16384, i_32767, i_32768, i_65520, i_65521, i_65535, i_65536, i_65999, i_66000, i_1300, i_120, i_156, nI_leI, nI_ltI, nI_eq, nI_add, n_neg, not_false_eq_true, not_true_eq_false] <;> omega)) (Tt_g (by omega) (by omega) (Tt_l ?_))
        rw [nI_clamp (by omega), a1, nI_l (by omega)]
        have e65 : (65536 : Int64) * lN (ks j) = lN (65536 * ks j) := lN_mul 65536 (ks j)
        rw [e65, lN_sub (by omega), show N - 65536 * ks j = N % 65536 by omega]
        refine Tt_n (fun q => ?_) (Tt_g (by omega) (by omega) ?_)
        · have q1 := (lg_cmp_lt _ _).1 q
          have q2 : ¬ lN (N % 65536) < lN 0 := by
            rw [lN_lt (by omega) (by omega)]
            omega
          exact q2 q1
        · rw [a3, nI_l (by omega)]
          refine Tt_n (fun q => ?_) ?_
          · have q1 := (lN_le (by omega) (by omega)).1 ((lg_cmp_ge _ _).1 q)
            omega
          · unfold M_byteAt_45
            refine Tt_g (by omega) (by omega) (Tt_l ?_)
            rw [nI_clamp (by omega), a2, lN_i, nI_add]
            have e : sx (B (8192 * j + N % 65536)) &&& (255 : Int32) = nI (B (8192 * j + N % 65536)) := sx_k _ (o2 _)
            refine Tt_g (by omega) (by omega) (Tt_Si ?_)
            dsimp only
            rw [nI_clamp (by omega), m4 _ hp'.2, e]
      · have lt := o4 i hi j (by omega)
        refine not j (by omega) (fun q => by omega) K _ ?_
        exact ih (i - (j + 1)) _ (by omega) ⟨j + 1, rfl, by omega, rfl⟩
  · refine ⟨-2, ?_, ?_⟩
    · unfold P_byteAt
      refine Tt_l (Tt_l ?_)
      rw [ep]
      refine Tt_W3 (fun mm y3 y5 x6 => y3 = lN N >>> ((16 : Int32).toInt64 &&& 63) ∧ y5 = nI (N % 65536) ∧ ∃ j, x6 = nI j ∧ j ≤ kn ∧ mm = kn - j) ?_ 200000 kn _ _ _ (by omega) ⟨rfl, rfl, 0, rfl, by omega, rfl⟩
      rintro K mm y3 y5 x6 ⟨rfl, rfl, j, rfl, hj, rfl⟩ ih
      unfold P_byteAt_16
      by_cases z : kn ≤ j
      · exact Tt_p (by first | decide | (simp (disch := omega) only [i_0, i_1, i_2, i_3, i_4, i_5, i_6, i_7, i_8, i_9, i_10, i_11, i_13, i_14, i_15, i_16, i_17, i_18, i_19, i_24, i_29, i_30, i_31, i_32, i_138, i_143, i_144, i_254, i_255, i_256, i_257, i_258, i_261, i_264, i_265, i_279, i_280, i_284, i_285, i_286, i_288, i_319, i_320, i_338, i_339, i_575, i_576, i_599, i_600, i_4096, i_8191, i_8192, i_8249, i_8250, i_8256, i_9000, i_16384, i_32767, i_32768, i_65520, i_65521, i_65535, i_65536, i_65999, i_66000, i_1300, i_120, i_156, nI_leI, nI_ltI, nI_eq, nI_add, n_neg, not_false_eq_true, not_true_eq_false] <;> omega)) (Tt_Si rfl)
      · refine Tt_n (by first | decide | (simp (disch := omega) only [i_0, i_1, i_2, i_3, i_4, i_5, i_6, i_7, i_8, i_9, i_10, i_11, i_13, i_14, i_15, i_16, i_17, i_18, i_19, i_24, i_29, i_30, i_31, i_32, i_138, i_143, i_144, i_254, i_255, i_256, i_257, i_258, i_261, i_264, i_265, i_279, i_280, i_284, i_285, i_286, i_288, i_319, i_320, i_338, i_339, i_575, i_576, i_599, i_600, i_4096, i_8191, i_8192, i_8249, i_8250, i_8256, i_9000, i_16384, i_32767, i_32768, i_65520, i_65521, i_65535, i_65536, i_65999, i_66000, i_1300, i_120, i_156, nI_leI, nI_ltI, nI_eq, nI_add, n_neg, not_false_eq_true, not_true_eq_false] <;> omega)) (Tt_n (by first | decide | (simp (disch := omega) only [i_0, i_1, i_2, i_3, i_4, i_5, i_6, i_7, i_8, i_9, i_10, i_11, i_13, i_14, i_15, i_16, i_17, i_18, i_19, i_24, i_29, i_30, i_31, i_32, i_138, i_143, i_144, i_254, i_255, i_256, i_257, i_258, i_261, i_264, i_265, i_279, i_280, i_284, i_285, i_286, i_288, i_319, i_320, i_338, i_339, i_575, i_576, i_599, i_600, i_4096, i_8191, i_8192, i_8249, i_8250, i_8256, i_9000, i_16384, i_32767, i_32768, i_65520, i_65521, i_65535, i_65536, i_65999, i_66000, i_1300, i_120, i_156, nI_leI, nI_ltI, nI_eq, nI_add, n_neg, not_false_eq_true, not_true_eq_false] <;> omega)) (Tt_g (by omega) (by omega) ?_))
        have kj := o3 j (by omega)
        rw [nI_clamp (by omega), c3 j (by omega), nI_l (by omega)]
        by_cases e : N / 65536 = ks j
        · refine Tt_p ((lg_cmp_eq _ _).2 ((y3_eq hN kj).2 e).symm) ?_
          unfold P_byteAt_45
          have e8 : (8192 : Int32) * nI j = nI (8192 * j) := pk_mul 8192 j
          refine Tt_l ?_
          rw [e8, nI_add]
          have no : ¬ (N % 65536 < 8192 ∧ 8192 * j + N % 65536 < kl) := fun q => ex ⟨j, by omega, e, (mi j (by omega)).2 q⟩
          by_cases y : 8192 ≤ N % 65536
          · exact Tt_p (by first | decide | (simp (disch := omega) only [i_0, i_1, i_2, i_3, i_4, i_5, i_6, i_7, i_8, i_9, i_10, i_11, i_13, i_14, i_15, i_16, i_17, i_18, i_19, i_24, i_29, i_30, i_31, i_32, i_138, i_143, i_144, i_254, i_255, i_256, i_257, i_258, i_261, i_264, i_265, i_279, i_280, i_284, i_285, i_286, i_288, i_319, i_320, i_338, i_339, i_575, i_576, i_599, i_600, i_4096, i_8191, i_8192, i_8249, i_8250, i_8256, i_9000, i_16384, i_32767, i_32768, i_65520, i_65521, i_65535, i_65536, i_65999, i_66000, i_1300, i_120, i_156, nI_leI, nI_ltI, nI_eq, nI_add, n_neg, not_false_eq_true, not_true_eq_false] <;> omega)) (Tt_Si rfl)
          · exact Tt_n (by first | decide | (simp (disch := omega) only [i_0, i_1, i_2, i_3, i_4, i_5, i_6, i_7, i_8, i_9, i_10, i_11, i_13, i_14, i_15, i_16, i_17, i_18, i_19, i_24, i_29, i_30, i_31, i_32, i_138, i_143, i_144, i_254, i_255, i_256, i_257, i_258, i_261, i_264, i_265, i_279, i_280, i_284, i_285, i_286, i_288, i_319, i_320, i_338, i_339, i_575, i_576, i_599, i_600, i_4096, i_8191, i_8192, i_8249, i_8250, i_8256, i_9000, i_16384, i_32767, i_32768, i_65520, i_65521, i_65535, i_65536, i_65999, i_66000, i_1300, i_120, i_156, nI_leI, nI_ltI, nI_eq, nI_add, n_neg, not_false_eq_true, not_true_eq_false] <;> omega)) (Tt_R0.2 (Tt_o (el _) (Tt_p (by first | decide | (simp (disch := omega) only [i_0, i_1, i_2, i_3, i_4, i_5, i_6, i_7, i_8, i_9, i_10, i_11, i_13, i_14, i_15, i_16, i_17, i_18, i_19, i_24, i_29, i_30, i_31, i_32, i_138, i_143, i_144, i_254, i_255, i_256, i_257, i_258, i_261, i_264, i_265, i_279, i_280, i_284, i_285, i_286, i_288, i_319, i_320, i_338, i_339, i_575, i_576, i_599, i_600, i_4096, i_8191, i_8192, i_8249, i_8250, i_8256, i_9000, i_16384, i_32767, i_32768, i_65520, i_65521, i_65535, i_65536, i_65999, i_66000, i_1300, i_120, i_156, nI_leI, nI_ltI, nI_eq, nI_add, n_neg, not_false_eq_true, not_true_eq_false] <;> omega)) (Tt_Si rfl))))
        · refine Tt_n (fun q => e ((y3_eq hN kj).1 ((lg_cmp_eq _ _).1 q).symm)) (Tt_l ?_)
          rw [nI_1]
          exact ih (kn - (j + 1)) _ _ _ (by omega) ⟨rfl, rfl, j + 1, rfl, by omega, rfl⟩
    · unfold M_byteAt
      refine Tt_W1 (fun mm x3 => ∃ j, x3 = nI j ∧ j ≤ kn ∧ mm = kn - j) ?_ 200000 kn _ (by omega) ⟨0, rfl, by omega, rfl⟩
      rintro K mm x3 ⟨j, rfl, hj, rfl⟩ ih
      by_cases z : kn ≤ j
      · unfold M_byteAt_2
        exact Tt_p (by first | decide | (simp (disch := omega) only [i_0, i_1, i_2, i_3, i_4, i_5, i_6, i_7, i_8, i_9, i_10, i_11, i_13, i_14, i_15, i_16, i_17, i_18, i_19, i_24, i_29, i_30, i_31, i_32, i_138, i_143, i_144, i_254, i_255, i_256, i_257, i_258, i_261, i_264, i_265, i_279, i_280, i_284, i_285, i_286, i_288, i_319, i_320, i_338, i_339, i_575, i_576, i_599, i_600, i_4096, i_8191, i_8192, i_8249, i_8250, i_8256, i_9000, i_16384, i_32767, i_32768, i_65520, i_65521, i_65535, i_65536, i_65999, i_66000, i_1300, i_120, i_156, nI_leI, nI_ltI, nI_eq, nI_add, n_neg, not_false_eq_true, not_true_eq_false] <;> omega)) (Tt_Si rfl)
      · refine not j (by omega) (fun q => ex ⟨j, by omega, q.1, q.2⟩) K _ ?_
        exact ih (kn - (j + 1)) _ (by omega) ⟨j + 1, rfl, by omega, rfl⟩
