/-! tokens: program and reference cut a part alike -/
abbrev TkR := Option (Unit × Int32 × (Nat → Int32) × (Nat → Int32))
theorem t_lcpM {N a n q p fin : Nat} {c : Nat → Int32} {b : Nat → Nat} {k116 : Int32 → (Nat → Int32) → (Nat → Int32) → Int32 → Int32 → Int32 → Int32 → Int32 → Int32 → TkR} {Q : Unit × Int32 × (Nat → Int32) × (Nat → Int32) → Prop} {tok x6 x7 x8 : Int32} {tl tv : Nat → Int32} (h : Row c a n b) (hn : n ≤ 8192) (haN : a + n ≤ N) (hN : N ≤ 65536) (hq : q < p) (hp : p + 3 ≤ fin) (hf : fin ≤ n) (e0 : b q = b p) (e1 : b (q + 1) = b (p + 1)) (hQ : Tt (k116 tok tl tv (nI p) x6 x7 x8 (nI q) (nI (lcp b q p (min 258 (fin - p))))) Q) : Tt (mW9 (M_cutPart_71 200000 N c (nI a) (nI fin) k116) 200000 tok tl tv (nI p) x6 x7 x8 (nI q) 2) Q := by
  refine Tt_W9 (fun m t l v y5 y6 y7 y8 y9 y10 => t = tok ∧ l = tl ∧ v = tv ∧ y5 = nI p ∧ y6 = x6 ∧ y7 = x7 ∧ y8 = x8 ∧ y9 = nI q ∧ ∃ s, y10 = nI s ∧ 2 ≤ s ∧ s ≤ min 258 (fin - p) ∧ m = 258 - s ∧ ∀ t, t < s → b (q + t) = b (p + t)) ?_ 200000 256 _ _ _ _ _ _ _ _ _ (by omega) ⟨rfl, rfl, rfl, rfl, rfl, rfl, rfl, rfl, 2, rfl, by omega, by omega, rfl, fun t ht => ?_⟩
  · rintro K m t l v y5 y6 y7 y8 y9 y10 ⟨rfl, rfl, rfl, rfl, rfl, rfl, rfl, rfl, s, rfl, hs2, hs, rfl, hb⟩ ih
    unfold M_cutPart_71
    by_cases z : s = min 258 (fin - p)
    · have g : Tt (k116 t l v (nI p) y6 y7 y8 (nI q) (nI s)) Q := by
        have := lcp_e (b := b) (q := q) (p := p) (most := min 258 (fin - p)) (n := s) ⟨by omega, hb, Or.inl z⟩
        rw [← this]
        exact hQ
      simp (disch := omega) only [Tt_C, i_0, i_1, i_2, i_3, i_4, i_5, i_6, i_7, i_8, i_9, i_10, i_11, i_13, i_14, i_15, i_16, i_17, i_18, i_19, i_24, i_29, i_30, i_31, i_32, i_138, i_143, i_144, i_254, i_255, i_256, i_257, i_258, i_261, i_264, i_265, i_279, i_280, i_284, i_285, i_286, i_288, i_319, i_320, i_338, i_339, i_575, i_576, i_599, i_600, i_4096, i_8191, i_8192, i_8249, i_8250, i_8256, i_9000, i_16384, i_32767, i_32768, i_65520, i_65521, i_65535, i_65536, i_65999, i_66000, i_1300, i_120, i_156, nI_add, nI_leI]
      by_cases y : fin ≤ p + s
      · rw [if_pos y]; exact g
      · rw [if_neg y, if_pos (by omega)]; exact g
    · have c0 := h.1 (q + s) (by omega)
      have c1 := h.1 (p + s) (by omega)
      have b0 := h.2 (q + s)
      have b1 := h.2 (p + s)
      simp (disch := omega) only [Tt_C, Tt_L, i_0, i_1, i_2, i_3, i_4, i_5, i_6, i_7, i_8, i_9, i_10, i_11, i_13, i_14, i_15, i_16, i_17, i_18, i_19, i_24, i_29, i_30, i_31, i_32, i_138, i_143, i_144, i_254, i_255, i_256, i_257, i_258, i_261, i_264, i_265, i_279, i_280, i_284, i_285, i_286, i_288, i_319, i_320, i_338, i_339, i_575, i_576, i_599, i_600, i_4096, i_8191, i_8192, i_8249, i_8250, i_8256, i_9000, i_16384, i_32767, i_32768, i_65520, i_65521, i_65535, i_65536, i_65999, i_66000, i_1300, i_120, i_156, nI_add, nI_leI, Tt_N, nI_clamp]
      rw [if_neg (by omega), if_neg (by omega), show a + q + s = a + (q + s) by omega, show a + p + s = a + (p + s) by omega, c0, c1]
      refine ⟨by omega, by omega, ?_⟩
      by_cases y : b (q + s) = b (p + s)
      · rw [if_pos (by rw [y])]
        refine ih (258 - (s + 1)) _ _ _ _ _ _ _ _ _ (by omega) ⟨rfl, rfl, rfl, rfl, rfl, rfl, rfl, rfl, s + 1, rfl, by omega, by omega, rfl, fun t ht => ?_⟩
        by_cases w : t = s
        · rw [w]; exact y
        · exact hb t (by omega)
      · rw [if_neg (by rw [sx_inj _ b0 _ b1]; exact y)]
        have := lcp_e (b := b) (q := q) (p := p) (most := min 258 (fin - p)) (n := s) ⟨by omega, hb, Or.inr y⟩
        rw [← this]
        exact hQ
  · have : t = 0 ∨ t = 1 := by omega
    rcases this with rfl | rfl
    · exact e0
    · exact e1
theorem pf_2 {b : Nat → Nat} {q p : Nat} (hb : ∀ i, b i < 256) (h : pf b q = pf b p) : b q = b p ∧ b (q + 1) = b (p + 1) := by
  unfold pf at h
  have a1 := hb (q + 1)
  have a2 := hb (p + 1)
  omega
theorem pf_same {b : Nat → Nat} {q p most : Nat} (h : 3 ≤ lcp b q p most) : pf b q = pf b p := by
  have o := lcp_ok b q p most
  have e0 := o.2.1 0 (by omega)
  have e1 := o.2.1 1 (by omega)
  rw [Nat.add_zero, Nat.add_zero] at e0
  unfold pf
  rw [e0, e1]
theorem t_search {N a n p fin k : Nat} {c before : Nat → Int32} {b : Nat → Nat} {k192 : Int32 → (Nat → Int32) → (Nat → Int32) → Int32 → Int32 → Int32 → TkR} {Q : Unit × Int32 × (Nat → Int32) × (Nat → Int32) → Prop} {tok s0 : Int32} {tl tv : Nat → Int32} (h : Row c a n b) (hn : n ≤ 8192) (haN : a + n ≤ N) (hN : N ≤ 65536) (hB : ∀ p, p + 1 < n → before p = nI (lb (pf b) p (pf b p)) - 1) (hp : p + 3 ≤ fin) (hf : fin ≤ n) (hk : k = lb (pf b) p (pf b p)) (hs0 : s0 = nI k - 1) (hQ : Tt (k192 tok tl tv (nI p) (nI (bst b p fin).1) (nI (bst b p fin).2)) Q) : Tt (mW8 (M_cutPart_46 200000 N before c (nI a) (nI fin) k192) 200000 tok tl tv (nI p) 0 0 0 s0) Q := by
  subst hs0
  have eb : bst b p fin = scn b p (min 258 (fin - p)) p 0 0 0 := if_neg (by omega)
  rw [eb] at hQ
  generalize hm : min 258 (fin - p) = most at hQ
  have skip : ∀ q, q ≤ p → ∀ k seen best far, k = lb (pf b) q (pf b p) → scn b p most q seen best far = scn b p most k seen best far := by
    intro q hq k seen best far hk
    rw [hk]
    apply scn_skip (lb_le _ _ _)
    intro r h3 h4
    have g := lb_gap (pf b) (pf b p) q r h3 h4
    have : ¬ (3 ≤ lcp b r p most) := fun w => g (pf_same w)
    omega
  have kl := lb_le (pf b) (pf b p) p
  refine Tt_W8 (fun m t l v x5 x6 x7 x8 x9 => t = tok ∧ l = tl ∧ v = tv ∧ x5 = nI p ∧ ∃ k len far seen, x6 = nI len ∧ x7 = nI far ∧ x8 = nI seen ∧ x9 = nI k - 1 ∧ m = k ∧ k ≤ p ∧ (k = 0 ∨ pf b (k - 1) = pf b p) ∧ len ≤ most ∧ far ≤ p ∧ seen ≤ 16 ∧ scn b p most k seen len far = scn b p most p 0 0 0) ?_ 200000 k _ _ _ _ _ _ _ _ (by omega) ⟨rfl, rfl, rfl, rfl, k, 0, 0, 0, rfl, rfl, rfl, rfl, rfl, by omega, ?_, by omega, by omega, by omega, ?_⟩
  · rintro K m t l v x5 x6 x7 x8 x9 ⟨rfl, rfl, rfl, rfl, k, len, far, seen, rfl, rfl, rfl, rfl, rfl, hk, hh, hlen, hfar, hseen, hS⟩ ih
    have fin1 : scn b p most k seen len far = (len, far) → Tt (k192 t l v (nI p) (nI len) (nI far)) Q := by
      intro e
      rw [← hS, e] at hQ
      exact hQ
    unfold M_cutPart_46
    by_cases y0 : k = 0
    · simp only [Tt_C]
      rw [if_pos (by rw [y0]; decide)]
      exact fin1 (by rw [y0]; rfl)
    · have ek : nI k - 1 = nI (k - 1) := pk_sub (by omega)
      have hk1 : pf b (k - 1) = pf b p := by omega
      have ed : nI p - nI (k - 1) = nI (p - (k - 1)) := pk_sub (by omega)
      rw [ek]
      simp (disch := omega) only [Tt_C, i_0, i_1, i_2, i_3, i_4, i_5, i_6, i_7, i_8, i_9, i_10, i_11, i_13, i_14, i_15, i_16, i_17, i_18, i_19, i_24, i_29, i_30, i_31, i_32, i_138, i_143, i_144, i_254, i_255, i_256, i_257, i_258, i_261, i_264, i_265, i_279, i_280, i_284, i_285, i_286, i_288, i_319, i_320, i_338, i_339, i_575, i_576, i_599, i_600, i_4096, i_8191, i_8192, i_8249, i_8250, i_8256, i_9000, i_16384, i_32767, i_32768, i_65520, i_65521, i_65535, i_65536, i_65999, i_66000, i_1300, i_120, i_156, nI_leI, nI_ltI, n_neg, if_false, ed]
      rw [if_neg (by omega)]
      by_cases y1 : 16 ≤ seen
      · rw [if_pos y1]
        exact fin1 (scn_end y1)
      · rw [if_neg y1]
        have pe := pf_2 h.2 hk1
        refine t_lcpM h hn haN hN (by omega) hp hf pe.1 pe.2 ?_
        rw [hm]
        have ll := (lcp_ok b (k - 1) p most).1
        have es : ∀ a2 a3 a4, scn b p most k a2 a3 a4 = if 16 ≤ a2 then (a3, a4) else if lcp b (k - 1) p most < 3 then scn b p most (k - 1) a2 a3 a4 else if lcp b (k - 1) p most ≤ a3 then scn b p most (k - 1) (a2 + 1) a3 a4 else scn b p most (k - 1) (a2 + 1) (lcp b (k - 1) p most) (p - (k - 1)) := by
          intro a2 a3 a4
          conv => lhs; rw [show k = (k - 1) + 1 by omega]
          rfl
        have el := lb_le (pf b) (pf b p) (k - 1)
        have eb2 : before (k - 1) = nI (lb (pf b) (k - 1) (pf b p)) - nI 1 := by rw [hB (k - 1) (by omega), hk1]; rfl
        have next : ∀ len' far' seen', len' ≤ most → far' ≤ p → seen' ≤ 16 → scn b p most (k - 1) seen' len' far' = scn b p most p 0 0 0 → Tt (K t l v (nI p) (nI len') (nI far') (nI seen') (nI (lb (pf b) (k - 1) (pf b p)) - nI 1)) Q := by
          intro len' far' seen' a1 a2 a3 a4
          refine ih (lb (pf b) (k - 1) (pf b p)) _ _ _ _ _ _ _ _ (by omega) ⟨rfl, rfl, rfl, rfl, _, len', far', seen', rfl, rfl, rfl, rfl, rfl, by omega, ?_, a1, a2, a3, ?_⟩
          · rcases Nat.eq_zero_or_pos (lb (pf b) (k - 1) (pf b p)) with w | w
            · exact Or.inl w
            · right
              apply lb_hit (pf b) (pf b p) (k - 1)
              omega
          · rw [← a4]
            exact (skip (k - 1) (by omega) _ _ _ _ rfl).symm
        unfold M_cutPart_116 M_cutPart_131 M_cutPart_154 M_cutPart_156 M_cutPart_176 M_cutPart_178
        simp (disch := omega) only [Tt_L, Tt_C, i_0, i_1, i_2, i_3, i_4, i_5, i_6, i_7, i_8, i_9, i_10, i_11, i_13, i_14, i_15, i_16, i_17, i_18, i_19, i_24, i_29, i_30, i_31, i_32, i_138, i_143, i_144, i_254, i_255, i_256, i_257, i_258, i_261, i_264, i_265, i_279, i_280, i_284, i_285, i_286, i_288, i_319, i_320, i_338, i_339, i_575, i_576, i_599, i_600, i_4096, i_8191, i_8192, i_8249, i_8250, i_8256, i_9000, i_16384, i_32767, i_32768, i_65520, i_65521, i_65535, i_65536, i_65999, i_66000, i_1300, i_120, i_156, nI_leI, Tt_N, nI_clamp, nI_add, eb2, ed]
        by_cases y3 : lcp b (k - 1) p most ≤ 2
        · rw [if_pos y3, if_pos y3, if_pos y3]
          refine ⟨by omega, next _ _ _ hlen hfar hseen ?_⟩
          rw [← hS, es, if_neg y1, if_pos (by omega)]
        · rw [if_neg y3, if_neg y3]
          by_cases y4 : lcp b (k - 1) p most ≤ len
          · rw [if_pos y4, if_neg y3, if_pos y4]
            refine ⟨by omega, next _ _ _ hlen hfar (by omega) ?_⟩
            rw [← hS, es, if_neg y1, if_neg (by omega), if_pos y4]
          · rw [if_neg y4, if_neg y3, if_neg y4]
            refine ⟨by omega, next _ _ _ ll (by omega) (by omega) ?_⟩
            rw [← hS, es, if_neg y1, if_neg (by omega), if_neg y4]
  · rcases Nat.eq_zero_or_pos k with w | w
    · exact Or.inl w
    · right
      apply lb_hit (pf b) (pf b p) p
      omega
  · exact (skip p (Nat.le_refl p) _ _ _ _ hk).symm
/-! the tokens of a part -/
def pos (b : Nat → Nat) (beg fin : Nat) : Nat → Nat
  | 0 => beg
  | t + 1 => pos b beg fin t + (if (bst b (pos b beg fin t) fin).1 = 0 then 1 else (bst b (pos b beg fin t) fin).1)
def tL (b : Nat → Nat) (beg fin t : Nat) : Nat := (bst b (pos b beg fin t) fin).1
def tV (b : Nat → Nat) (beg fin t : Nat) : Nat := if tL b beg fin t = 0 then b (pos b beg fin t) else (bst b (pos b beg fin t) fin).2
def isT (b : Nat → Nat) (beg fin T : Nat) : Prop := fin ≤ pos b beg fin T ∧ ∀ t, t < T → pos b beg fin t < fin
theorem isT_u {b : Nat → Nat} {beg fin T S : Nat} (h : isT b beg fin T) (g : isT b beg fin S) : T = S := by
  rcases Nat.lt_trichotomy T S with z | z | z
  · have := g.2 T z; have := h.1; omega
  · exact z
  · have := h.2 S z; have := g.1; omega
theorem tok_b {b : Nat → Nat} {beg fin n t : Nat} (hb : ∀ i, b i < 256) (hp : pos b beg fin t < fin) (hf : fin ≤ n) : (tL b beg fin t = 0 ∧ tV b beg fin t < 256) ∨ (3 ≤ tL b beg fin t ∧ tL b beg fin t ≤ 258 ∧ tL b beg fin t ≤ fin - pos b beg fin t ∧ 1 ≤ tV b beg fin t ∧ tV b beg fin t < n) := by
  have o := bst_b b (pos b beg fin t) fin
  unfold tV
  by_cases z : tL b beg fin t = 0
  · rw [if_pos z]
    exact Or.inl ⟨z, hb _⟩
  · rw [if_neg z]
    unfold tL at *
    right
    omega
theorem t_cutPart {N a n beg fin : Nat} {c before tl tv : Nat → Int32} {b : Nat → Nat} {tok x2 x3 x4 : Int32} (h : Row c a n b) (hn : n ≤ 8192) (haN : a + n ≤ N) (hN : N ≤ 65536) (hB : ∀ p, p + 1 < n → before p = nI (lb (pf b) p (pf b p)) - 1) (hf : fin ≤ n) (hbe : beg ≤ fin) (hl : fin - beg ≤ 4096) (h2 : x2 = nI a) (h3 : x3 = nI beg) (h4 : x4 = nI fin) : Tt (M_cutPart 200000 N before c tok tl tv x2 x3 x4) (fun u => ∃ T, T ≤ fin - beg ∧ isT b beg fin T ∧ u.2.1 = nI T ∧ ∀ t, t < T → u.2.2.1 t = nI (tL b beg fin t) ∧ u.2.2.2 t = nI (tV b beg fin t)) := by
  subst h2 h3 h4
  unfold M_cutPart
  refine Tt_W4 (fun m tok tl tv x5 => ∃ T, tok = nI T ∧ x5 = nI (pos b beg fin T) ∧ m = fin - pos b beg fin T ∧ T + beg ≤ pos b beg fin T ∧ pos b beg fin T ≤ fin ∧ (∀ t, t < T → pos b beg fin t < fin) ∧ ∀ t, t < T → tl t = nI (tL b beg fin t) ∧ tv t = nI (tV b beg fin t)) ?_ 200000 (fin - beg) 0 tl tv (nI beg) (by omega) ⟨0, rfl, rfl, rfl, by show 0 + beg ≤ beg; omega, hbe, fun t ht => by omega, fun t ht => by omega⟩
  rintro K m tok tl tv x5 ⟨T, rfl, rfl, rfl, hT, hpf, hpt, hv⟩ ih
  unfold M_cutPart_8
  by_cases z : fin ≤ pos b beg fin T
  · simp only [Tt_C, Tt_S]
    rw [if_pos (by rw [nI_leI (by omega) (by omega)]; exact z)]
    exact ⟨T, by omega, ⟨z, hpt⟩, rfl, hv⟩
  · have tb := @tok_b b beg fin n T h.2 (by omega) hf
    have hpos : pos b beg fin (T + 1) = pos b beg fin T + (if tL b beg fin T = 0 then 1 else tL b beg fin T) := rfl
    have fin1 : Tt (M_cutPart_192 200000 N c (nI a) K (nI T) tl tv (nI (pos b beg fin T)) (nI (bst b (pos b beg fin T) fin).1) (nI (bst b (pos b beg fin T) fin).2)) (fun u => ∃ T, T ≤ fin - beg ∧ isT b beg fin T ∧ u.2.1 = nI T ∧ ∀ t, t < T → u.2.2.1 t = nI (tL b beg fin t) ∧ u.2.2.2 t = nI (tV b beg fin t)) := by
      have c0 := h.1 (pos b beg fin T) (by omega)
      have b0 := h.2 (pos b beg fin T)
      have e1 : (bst b (pos b beg fin T) fin).1 = tL b beg fin T := rfl
      unfold M_cutPart_192 M_cutPart_231 M_cutPart_259
      rw [e1]
      have e2 : tV b beg fin T = if tL b beg fin T = 0 then b (pos b beg fin T) else (bst b (pos b beg fin T) fin).2 := rfl
      have fits : (bst b (pos b beg fin T) fin).2 < 2 ^ 31 := by
        have := bst_b b (pos b beg fin T) fin
        omega
      simp (disch := omega) only [Tt_L, Tt_C, i_0, i_1, i_2, i_3, i_4, i_5, i_6, i_7, i_8, i_9, i_10, i_11, i_13, i_14, i_15, i_16, i_17, i_18, i_19, i_24, i_29, i_30, i_31, i_32, i_138, i_143, i_144, i_254, i_255, i_256, i_257, i_258, i_261, i_264, i_265, i_279, i_280, i_284, i_285, i_286, i_288, i_319, i_320, i_338, i_339, i_575, i_576, i_599, i_600, i_4096, i_8191, i_8192, i_8249, i_8250, i_8256, i_9000, i_16384, i_32767, i_32768, i_65520, i_65521, i_65535, i_65536, i_65999, i_66000, i_1300, i_120, i_156, nI_leI, Tt_N, nI_clamp, nI_add, c0, sx_k]
      by_cases y : tL b beg fin T ≤ 0
      · have y0 : tL b beg fin T = 0 := by omega
        rw [if_pos y, if_pos y]
        rw [if_pos y0] at hpos e2
        refine ⟨by omega, by omega, by omega, ?_⟩
        rw [← hpos]
        refine ih (fin - pos b beg fin (T + 1)) _ _ _ _ (by omega) ⟨T + 1, rfl, rfl, rfl, by omega, by omega, fun t ht => ?_, fun t ht => ?_⟩
        · by_cases w : t = T
          · rw [w]; omega
          · exact hpt t (by omega)
        · by_cases w : t = T
          · rw [w, pk_us, pk_us, e2]; exact ⟨rfl, rfl⟩
          · rw [pk_un w, pk_un w]; exact hv t (by omega)
      · have y0 : ¬ (tL b beg fin T = 0) := by omega
        rw [if_neg y, if_neg y]
        rw [if_neg y0] at hpos e2
        refine ⟨by omega, by omega, ?_⟩
        rw [← hpos]
        refine ih (fin - pos b beg fin (T + 1)) _ _ _ _ (by omega) ⟨T + 1, rfl, rfl, rfl, by omega, by omega, fun t ht => ?_, fun t ht => ?_⟩
        · by_cases w : t = T
          · rw [w]; omega
          · exact hpt t (by omega)
        · by_cases w : t = T
          · rw [w, pk_us, pk_us, e2]; exact ⟨rfl, rfl⟩
          · rw [pk_un w, pk_un w]; exact hv t (by omega)
    unfold M_cutPart_44
    simp (disch := omega) only [Tt_C, i_0, i_1, i_2, i_3, i_4, i_5, i_6, i_7, i_8, i_9, i_10, i_11, i_13, i_14, i_15, i_16, i_17, i_18, i_19, i_24, i_29, i_30, i_31, i_32, i_138, i_143, i_144, i_254, i_255, i_256, i_257, i_258, i_261, i_264, i_265, i_279, i_280, i_284, i_285, i_286, i_288, i_319, i_320, i_338, i_339, i_575, i_576, i_599, i_600, i_4096, i_8191, i_8192, i_8249, i_8250, i_8256, i_9000, i_16384, i_32767, i_32768, i_65520, i_65521, i_65535, i_65536, i_65999, i_66000, i_1300, i_120, i_156, nI_leI, nI_ltI, nI_add]
    rw [if_neg z]
    by_cases y : fin < pos b beg fin T + 3
    · rw [if_pos y]
      have eb : bst b (pos b beg fin T) fin = (0, 0) := if_pos (by omega)
      rw [eb] at fin1
      have e : mW8 (M_cutPart_46 200000 N before c (nI a) (nI fin) (M_cutPart_192 200000 N c (nI a) K)) 200000 (nI T) tl tv (nI (pos b beg fin T)) (nI 0) (nI 0) (nI 0) (-nI 1) = M_cutPart_192 200000 N c (nI a) K (nI T) tl tv (nI (pos b beg fin T)) (nI 0) (nI 0) := by
        show M_cutPart_46 200000 N before c (nI a) (nI fin) (M_cutPart_192 200000 N c (nI a) K) (mW8 (M_cutPart_46 200000 N before c (nI a) (nI fin) (M_cutPart_192 200000 N c (nI a) K)) 199999) (nI T) tl tv (nI (pos b beg fin T)) (nI 0) (nI 0) (nI 0) (-nI 1) = _
        unfold M_cutPart_46 mC
        rw [if_pos (by decide)]
      rw [e]
      exact fin1
    · rw [if_neg y, Tt_N (by omega), nI_clamp (by omega)]
      refine ⟨by omega, ?_⟩
      exact t_search h hn haN hN hB (by omega) hf rfl (hB _ (by omega)) fin1
