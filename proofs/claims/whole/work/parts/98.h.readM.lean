/-! the reference reads bytes as pieces -/
theorem nar_sx : ∀ n, n < 256 → vp_nar .byte (sx n) = sx n := by decide +kernel
abbrev RaT := Int32 × Int32 × Int32 × Int32 × Int32 × Int32 × Int32 × Int32 × Int32 × (Nat → Int32) × (Nat → Int32) × Int32 × (Nat → Int32) × Int32 × (Nat → Int32) × (Nat → Int32) × Int32 × (Nat → Int32) × (Nat → Int32) × (Nat → Int32) × (Nat → Int32) × (Nat → Int32) × (Nat → Int32)
def QA (bi : Nat → Nat) (n e : Nat) (u : RaT) : Prop := ((n ≤ 8 ∧ e = n) → u.1 = nI 1 ∧ u.2.1 = nI (lnA bi n) ∧ u.2.2.1 = nI n ∧ (∀ i, i < n → u.2.2.2.2.2.2.2.2.2.2.2.2.2.2.2.2.2.2.2.1 i = nI (stA bi i) ∧ u.2.2.2.2.2.2.2.2.2.2.2.2.2.2.2.2.2.2.2.2.1 i = nI (8192 * i) ∧ u.2.2.2.2.2.2.2.2.2.2.2.2.2.2.2.2.2.2.2.2.2.1 i = nI (mlA bi i)) ∧ ∀ x, x < lnA bi n → u.2.2.2.2.2.2.2.2.2.2.2.2.2.2.2.2.2.2.2.2.2.2 x = sx (rwA bi x)) ∧ (¬ (n ≤ 8 ∧ e = n) → u.1 = nI 0)
theorem QA_0 {bi : Nat → Nat} {n e : Nat} {u : RaT} (h : ¬ (n ≤ 8 ∧ e = n)) (hu : u.1 = nI 0) : QA bi n e u := ⟨fun k => absurd k h, fun _ => hu⟩
theorem t_readA {c rS rA rM rR : Nat → Int32} {vsf vsb vr vw vm rm n2 n3 n1 : Int32} {pc fx T2 T3 RL T1 LR : Nat → Int32} {bi : Nat → Nat} {len n e : Nat} (h : Row c 0 len bi) (hlen : len ≤ 66000) (hn : HdN len bi n) (hst : stA bi n = len) (he : RdN bi n e) : Tt (M_readAll 200000 (nI len) c (nI 0) (nI 0) vsf vsb vr vw vm rm pc fx n2 T2 n3 T3 RL n1 T1 LR rS rA rM rR) (QA bi n e) := by
  have hb := st_b n hn.1
  unfold M_readAll
  refine Tt_W23 (fun mm rs rp _ _ _ _ _ _ _ _ _ _ _ _ _ _ _ _ rS rA rM rR x1 => ∃ i, x1 = nI (stA bi i) ∧ i ≤ e ∧ i ≤ 8 ∧ mm = n - i ∧ rs = nI (lnA bi i) ∧ rp = nI i ∧ (∀ j, j < i → rS j = nI (stA bi j) ∧ rA j = nI (8192 * j) ∧ rM j = nI (mlA bi j)) ∧ ∀ x, x < lnA bi i → rR x = sx (rwA bi x)) ?_ 200000 n _ _ _ _ _ _ _ _ _ _ _ _ _ _ _ _ _ _ _ _ _ _ _ (by omega) ⟨0, rfl, by omega, by omega, by omega, rfl, rfl, fun j hj => absurd hj (by omega), fun x hx => absurd hx (by show ¬ x < 0; omega)⟩
  rintro K mm rs rp vsf vsb vr vw vm rm pc fx n2 T2 n3 T3 RL n1 T1 LR rS rA rM rR x1 ⟨i, rfl, hie, hi8, rfl, rfl, rfl, hrs, hrr⟩ ih
  unfold M_readAll_2
  by_cases z : n ≤ i
  · have ein : i = n := by have := he.1; omega
    subst ein
    have ee : e = i := by have := he.1; omega
    exact Tt_p (by first | decide | (simp (disch := omega) only [i_0, i_1, i_2, i_3, i_4, i_5, i_6, i_7, i_8, i_9, i_10, i_11, i_13, i_14, i_15, i_16, i_17, i_18, i_19, i_24, i_29, i_30, i_31, i_32, i_138, i_143, i_144, i_254, i_255, i_256, i_257, i_258, i_261, i_264, i_265, i_279, i_280, i_284, i_285, i_286, i_288, i_319, i_320, i_338, i_339, i_575, i_576, i_599, i_600, i_4096, i_8191, i_8192, i_8249, i_8250, i_8256, i_9000, i_16384, i_32767, i_32768, i_65520, i_65521, i_65535, i_65536, i_65999, i_66000, i_1300, i_120, i_156, nI_leI, nI_ltI, nI_eq, nI_add, n_neg, not_false_eq_true, not_true_eq_false] <;> omega)) (Tt_Si ⟨fun _ => ⟨rfl, rfl, rfl, hrs, hrr⟩, fun k => absurd ⟨hi8, ee⟩ k⟩)
  · have full := ln_full h.2 hn (fun j hj => he.2.1 j (by omega)) (i := i) (by omega)
    obtain ⟨hsl, j1, j2, j3, j4⟩ := hn.1 i (by omega)
    have hA := hdA_lt h.2 (stA bi i)
    rw [full] at hrr ⊢
    have e2 : nI (stA bi i) + 2 = nI (stA bi i + 2) := nI_add _ 2
    have e3 : nI (stA bi i) + 2 + nI (hnA bi (stA bi i)) = nI (stA bi (i + 1)) := by
      rw [e2, nI_add]
      rfl
    have hb1 := st_b (i + 1) (fun j hj => hn.1 j (by omega))
    have last : stA bi (i + 1) = len ↔ i + 1 = n := by
      constructor
      · intro q
        rcases (show i + 1 < n ∨ i + 1 = n by omega) with w | w
        · have := (hn.1 (i + 1) w).1
          omega
        · exact w
      · intro q
        rw [q]
        exact hst
    have fin : ∀ m o x3 vsf vsb vr vw vm rm pc fx n2 T2 n3 T3 RL n1 T1 LR, pcA bi i = some (m, o) → (x3 = nI 0 ∧ (∀ j, j < m → pc j = sx (o j)) ∨ x3 = nI 1 ∧ stA bi i + 2 + m ≤ len ∧ ∀ j, j < m → c (stA bi i + 2 + j) = sx (o j)) → Tt (M_readAll_64 200000 (nI len) c K (nI (8192 * i)) (nI i) vsf vsb vr vw vm rm pc fx n2 T2 n3 T3 RL n1 T1 LR rS rA rM rR (nI (stA bi i)) (nI (hnA bi (stA bi i))) x3 (nI m)) (QA bi n e) := by
      intro m o x3 vsf vsb vr vw vm rm pc fx n2 T2 n3 T3 RL n1 T1 LR hpc hsrc
      have pm := pcA_s hpc
      have pb := pcA_b h.2 j3 hpc
      have g104 : okP bi n i → Tt (M_readAll_104 200000 c K (nI (8192 * i)) (nI i) vsf vsb vr vw vm rm pc fx n2 T2 n3 T3 RL n1 T1 LR rS rA rM rR (nI (stA bi i)) (nI (hnA bi (stA bi i))) x3 (nI m)) (QA bi n e) := by
        intro ok
        have lt : i < e := by
          rcases he.2.2 with q | q
          · omega
          · rcases (show i < e ∨ i = e by omega) with w | w
            · exact w
            · rw [← w] at q
              exact absurd ok q
        unfold M_readAll_104
        by_cases i8 : i = 8
        · exact Tt_p (by rw [i8]; rfl) (Tt_Si (QA_0 (by omega) rfl))
        · refine Tt_n (by first | decide | (simp (disch := omega) only [i_0, i_1, i_2, i_3, i_4, i_5, i_6, i_7, i_8, i_9, i_10, i_11, i_13, i_14, i_15, i_16, i_17, i_18, i_19, i_24, i_29, i_30, i_31, i_32, i_138, i_143, i_144, i_254, i_255, i_256, i_257, i_258, i_261, i_264, i_265, i_279, i_280, i_284, i_285, i_286, i_288, i_319, i_320, i_338, i_339, i_575, i_576, i_599, i_600, i_4096, i_8191, i_8192, i_8249, i_8250, i_8256, i_9000, i_16384, i_32767, i_32768, i_65520, i_65521, i_65535, i_65536, i_65999, i_66000, i_1300, i_120, i_156, nI_leI, nI_ltI, nI_eq, nI_add, n_neg, not_false_eq_true, not_true_eq_false] <;> omega)) (Tt_g (by omega) (by omega) (Tt_l (Tt_g (by omega) (by omega) (Tt_l (Tt_g (by omega) (by omega) (Tt_l (Tt_l ?_)))))))
          rw [nI_1, nI_clamp (by omega)]
          refine Tt_W27 (fun mm rs rp _ _ _ _ _ _ pc' _ _ _ _ _ _ _ _ _ rS' rA' rM' rR' x1 x2 x3' x4 x6 => pc' = pc ∧ rp = nI (i + 1) ∧ rS' = upd rS i (nI (stA bi i)) ∧ rA' = upd rA i (nI (8192 * i)) ∧ rM' = upd rM i (nI m) ∧ x1 = nI (stA bi i) ∧ x2 = nI (hnA bi (stA bi i)) ∧ x3' = x3 ∧ x4 = nI m ∧ ∃ j, x6 = nI j ∧ j ≤ m ∧ mm = m - j ∧ rs = nI (8192 * i + j) ∧ ∀ x, x < 8192 * i + j → rR' x = sx (rwA bi x)) ?_ 200000 m _ _ _ _ _ _ _ _ _ _ _ _ _ _ _ _ _ _ _ _ _ _ _ _ _ _ _ (by omega) ⟨rfl, rfl, rfl, rfl, rfl, rfl, rfl, rfl, rfl, 0, rfl, by omega, rfl, rfl, hrr⟩
          rintro KK mm rs rp vsf vsb vr vw vm rm pc' fx n2 T2 n3 T3 RL n1 T1 LR rS' rA' rM' rR' x1 x2 x3' x4 x6 ⟨rfl, rfl, rfl, rfl, rfl, rfl, rfl, rfl, rfl, j, rfl, hj, rfl, rfl, hrr'⟩ ih2
          unfold M_readAll_162
          by_cases y : m ≤ j
          · have ej : j = m := by omega
            subst ej
            refine Tt_p (by first | decide | (simp (disch := omega) only [i_0, i_1, i_2, i_3, i_4, i_5, i_6, i_7, i_8, i_9, i_10, i_11, i_13, i_14, i_15, i_16, i_17, i_18, i_19, i_24, i_29, i_30, i_31, i_32, i_138, i_143, i_144, i_254, i_255, i_256, i_257, i_258, i_261, i_264, i_265, i_279, i_280, i_284, i_285, i_286, i_288, i_319, i_320, i_338, i_339, i_575, i_576, i_599, i_600, i_4096, i_8191, i_8192, i_8249, i_8250, i_8256, i_9000, i_16384, i_32767, i_32768, i_65520, i_65521, i_65535, i_65536, i_65999, i_66000, i_1300, i_120, i_156, nI_leI, nI_ltI, nI_eq, nI_add, n_neg, not_false_eq_true, not_true_eq_false] <;> omega)) ?_
            unfold M_readAll_219
            refine Tt_l ?_
            rw [e3]
            refine ih (n - (i + 1)) _ _ _ _ _ _ _ _ _ _ _ _ _ _ _ _ _ _ _ _ _ _ _ (by omega) ⟨i + 1, rfl, lt, by omega, rfl, ?_, rfl, fun q hq => ?_, fun x hx => ?_⟩
            · show _ = nI (8192 * i + mlA bi i)
              rw [pm.1]
            · by_cases w : q = i
              · rw [w, pk_us, pk_us, pk_us, pm.1]
                exact ⟨rfl, rfl, rfl⟩
              · rw [pk_un w, pk_un w, pk_un w]
                exact hrs q (by omega)
            · have hx : x < 8192 * i + mlA bi i := hx
              rw [pm.1] at hx
              exact hrr' x hx
          · refine Tt_n (by first | decide | (simp (disch := omega) only [i_0, i_1, i_2, i_3, i_4, i_5, i_6, i_7, i_8, i_9, i_10, i_11, i_13, i_14, i_15, i_16, i_17, i_18, i_19, i_24, i_29, i_30, i_31, i_32, i_138, i_143, i_144, i_254, i_255, i_256, i_257, i_258, i_261, i_264, i_265, i_279, i_280, i_284, i_285, i_286, i_288, i_319, i_320, i_338, i_339, i_575, i_576, i_599, i_600, i_4096, i_8191, i_8192, i_8249, i_8250, i_8256, i_9000, i_16384, i_32767, i_32768, i_65520, i_65521, i_65535, i_65536, i_65999, i_66000, i_1300, i_120, i_156, nI_leI, nI_ltI, nI_eq, nI_add, n_neg, not_false_eq_true, not_true_eq_false] <;> omega)) ?_
            have put : Tt (M_readAll_202 200000 KK (nI (8192 * i + j)) (nI (i + 1)) vsf vsb vr vw vm rm pc' fx n2 T2 n3 T3 RL n1 T1 LR (upd rS i (nI (stA bi i))) (upd rA i (nI (8192 * i))) (upd rM i (nI m)) rR' (nI (stA bi i)) (nI (hnA bi (stA bi i))) x3' (nI m) (nI j) (nI (8192 * i + j)) (sx (o j))) (QA bi n e) := by
              unfold M_readAll_202
              refine Tt_g (by omega) (by omega) (Tt_l (Tt_l (Tt_l ?_)))
              rw [nI_1, nI_1, nI_clamp (by omega), nar_sx _ (pb.2 j)]
              refine ih2 (m - (j + 1)) _ _ _ _ _ _ _ _ _ _ _ _ _ _ _ _ _ _ _ _ _ _ _ _ _ _ _ (by omega) ⟨rfl, rfl, rfl, rfl, rfl, rfl, rfl, rfl, rfl, j + 1, rfl, by omega, rfl, rfl, fun x hx => ?_⟩
              by_cases w : x = 8192 * i + j
              · rw [w, pk_us, rwA_i (by omega), pm.2]
              · rw [pk_un w]
                exact hrr' x (by omega)
            rcases hsrc with ⟨rfl, hs⟩ | ⟨rfl, hs1, hs⟩
            · refine Tt_p rfl (Tt_g (by omega) (by omega) ?_)
              rw [nI_clamp (by omega), hs j (by omega)]
              exact put
            · refine Tt_n (by decide) (Tt_l ?_)
              rw [e2, nI_add]
              refine Tt_g (by omega) (by omega) ?_
              rw [nI_clamp (by omega), hs j (by omega)]
              exact put
      have g83 : ∀ s0, (i + 1 = n → s0 = nI 1) → (i + 1 ≠ n → s0 = nI 0) → Tt (M_readAll_83 200000 c K (nI (8192 * i)) (nI i) vsf vsb vr vw vm rm pc fx n2 T2 n3 T3 RL n1 T1 LR rS rA rM rR (nI (stA bi i)) (nI (hnA bi (stA bi i))) x3 (nI m) s0) (QA bi n e) := by
        intro s0 s1 s2
        unfold M_readAll_83
        by_cases ok : okP bi n i
        · have ok' := ok
          unfold okP at ok'
          rw [pm.1] at ok'
          refine Tt_n (by first | decide | (simp (disch := omega) only [i_0, i_1, i_2, i_3, i_4, i_5, i_6, i_7, i_8, i_9, i_10, i_11, i_13, i_14, i_15, i_16, i_17, i_18, i_19, i_24, i_29, i_30, i_31, i_32, i_138, i_143, i_144, i_254, i_255, i_256, i_257, i_258, i_261, i_264, i_265, i_279, i_280, i_284, i_285, i_286, i_288, i_319, i_320, i_338, i_339, i_575, i_576, i_599, i_600, i_4096, i_8191, i_8192, i_8249, i_8250, i_8256, i_9000, i_16384, i_32767, i_32768, i_65520, i_65521, i_65535, i_65536, i_65999, i_66000, i_1300, i_120, i_156, nI_leI, nI_ltI, nI_eq, nI_add, n_neg, not_false_eq_true, not_true_eq_false] <;> omega)) ?_
          by_cases w : i + 1 = n
          · have := s1 w
            subst this
            exact Tt_n (by decide) (g104 ok)
          · have := s2 w
            subst this
            exact Tt_p rfl (Tt_n (by first | decide | (simp (disch := omega) only [i_0, i_1, i_2, i_3, i_4, i_5, i_6, i_7, i_8, i_9, i_10, i_11, i_13, i_14, i_15, i_16, i_17, i_18, i_19, i_24, i_29, i_30, i_31, i_32, i_138, i_143, i_144, i_254, i_255, i_256, i_257, i_258, i_261, i_264, i_265, i_279, i_280, i_284, i_285, i_286, i_288, i_319, i_320, i_338, i_339, i_575, i_576, i_599, i_600, i_4096, i_8191, i_8192, i_8249, i_8250, i_8256, i_9000, i_16384, i_32767, i_32768, i_65520, i_65521, i_65535, i_65536, i_65999, i_66000, i_1300, i_120, i_156, nI_leI, nI_ltI, nI_eq, nI_add, n_neg, not_false_eq_true, not_true_eq_false] <;> omega)) (g104 ok))
        · have ne : ¬ (n ≤ 8 ∧ e = n) := by
            rintro ⟨_, q⟩
            exact ok (he.2.1 i (by omega))
          unfold okP at ok
          rw [pm.1] at ok
          by_cases w : m < 1
          · exact Tt_p (by first | decide | (simp (disch := omega) only [i_0, i_1, i_2, i_3, i_4, i_5, i_6, i_7, i_8, i_9, i_10, i_11, i_13, i_14, i_15, i_16, i_17, i_18, i_19, i_24, i_29, i_30, i_31, i_32, i_138, i_143, i_144, i_254, i_255, i_256, i_257, i_258, i_261, i_264, i_265, i_279, i_280, i_284, i_285, i_286, i_288, i_319, i_320, i_338, i_339, i_575, i_576, i_599, i_600, i_4096, i_8191, i_8192, i_8249, i_8250, i_8256, i_9000, i_16384, i_32767, i_32768, i_65520, i_65521, i_65535, i_65536, i_65999, i_66000, i_1300, i_120, i_156, nI_leI, nI_ltI, nI_eq, nI_add, n_neg, not_false_eq_true, not_true_eq_false] <;> omega)) (Tt_Si (QA_0 ne rfl))
          · have := s2 (by omega)
            subst this
            exact Tt_n (by first | decide | (simp (disch := omega) only [i_0, i_1, i_2, i_3, i_4, i_5, i_6, i_7, i_8, i_9, i_10, i_11, i_13, i_14, i_15, i_16, i_17, i_18, i_19, i_24, i_29, i_30, i_31, i_32, i_138, i_143, i_144, i_254, i_255, i_256, i_257, i_258, i_261, i_264, i_265, i_279, i_280, i_284, i_285, i_286, i_288, i_319, i_320, i_338, i_339, i_575, i_576, i_599, i_600, i_4096, i_8191, i_8192, i_8249, i_8250, i_8256, i_9000, i_16384, i_32767, i_32768, i_65520, i_65521, i_65535, i_65536, i_65999, i_66000, i_1300, i_120, i_156, nI_leI, nI_ltI, nI_eq, nI_add, n_neg, not_false_eq_true, not_true_eq_false] <;> omega)) (Tt_p rfl (Tt_p (by first | decide | (simp (disch := omega) only [i_0, i_1, i_2, i_3, i_4, i_5, i_6, i_7, i_8, i_9, i_10, i_11, i_13, i_14, i_15, i_16, i_17, i_18, i_19, i_24, i_29, i_30, i_31, i_32, i_138, i_143, i_144, i_254, i_255, i_256, i_257, i_258, i_261, i_264, i_265, i_279, i_280, i_284, i_285, i_286, i_288, i_319, i_320, i_338, i_339, i_575, i_576, i_599, i_600, i_4096, i_8191, i_8192, i_8249, i_8250, i_8256, i_9000, i_16384, i_32767, i_32768, i_65520, i_65521, i_65535, i_65536, i_65999, i_66000, i_1300, i_120, i_156, nI_leI, nI_ltI, nI_eq, nI_add, n_neg, not_false_eq_true, not_true_eq_false] <;> omega)) (Tt_Si (QA_0 ne rfl))))
      unfold M_readAll_64
      rw [e3]
      by_cases w : i + 1 = n
      · exact Tt_p (congrArg nI (last.2 w)) (g83 _ (fun _ => rfl) (fun q => absurd w q))
      · exact Tt_n (by rw [nI_eq (by omega) (by omega)]; exact fun q => w (last.1 q)) (g83 _ (fun q => absurd q w) (fun _ => rfl))
    refine Tt_n (by first | decide | (simp (disch := omega) only [i_0, i_1, i_2, i_3, i_4, i_5, i_6, i_7, i_8, i_9, i_10, i_11, i_13, i_14, i_15, i_16, i_17, i_18, i_19, i_24, i_29, i_30, i_31, i_32, i_138, i_143, i_144, i_254, i_255, i_256, i_257, i_258, i_261, i_264, i_265, i_279, i_280, i_284, i_285, i_286, i_288, i_319, i_320, i_338, i_339, i_575, i_576, i_599, i_600, i_4096, i_8191, i_8192, i_8249, i_8250, i_8256, i_9000, i_16384, i_32767, i_32768, i_65520, i_65521, i_65535, i_65536, i_65999, i_66000, i_1300, i_120, i_156, nI_leI, nI_ltI, nI_eq, nI_add, n_neg, not_false_eq_true, not_true_eq_false] <;> omega)) (Tt_R0.2 (Tt_m (t_headM h hlen j1) ?_))
    rintro _ rfl
    dsimp only
    have eh : nI (hdA bi (stA bi i)) &&& (32767 : Int32) = nI (hnA bi (stA bi i)) := n_32767 _
    refine Tt_l (Tt_R0.2 (Tt_m (t_headM h hlen j1) ?_))
    rintro _ rfl
    dsimp only
    rw [eh]
    by_cases y : 32768 ≤ hdA bi (stA bi i)
    · have hpc : pcA bi i = some (hnA bi (stA bi i), fun j => bi (stA bi i + 2 + j)) := if_pos y
      refine Tt_n (by first | decide | (simp (disch := omega) only [i_0, i_1, i_2, i_3, i_4, i_5, i_6, i_7, i_8, i_9, i_10, i_11, i_13, i_14, i_15, i_16, i_17, i_18, i_19, i_24, i_29, i_30, i_31, i_32, i_138, i_143, i_144, i_254, i_255, i_256, i_257, i_258, i_261, i_264, i_265, i_279, i_280, i_284, i_285, i_286, i_288, i_319, i_320, i_338, i_339, i_575, i_576, i_599, i_600, i_4096, i_8191, i_8192, i_8249, i_8250, i_8256, i_9000, i_16384, i_32767, i_32768, i_65520, i_65521, i_65535, i_65536, i_65999, i_66000, i_1300, i_120, i_156, nI_leI, nI_ltI, nI_eq, nI_add, n_neg, not_false_eq_true, not_true_eq_false] <;> omega)) ?_
      unfold M_readAll_36
      refine Tt_n (by decide) (fin _ _ _ _ _ _ _ _ _ _ _ _ _ _ _ _ _ _ _ hpc (Or.inr ⟨rfl, j4, fun j hj => ?_⟩))
      have := h.1 (stA bi i + 2 + j) (by omega)
      rw [Nat.zero_add] at this
      exact this
    · have hpc : pcA bi i = upk (sB bi (stA bi i + 2)) (8 * hnA bi (stA bi i)) := if_neg y
      refine Tt_p (by first | decide | (simp (disch := omega) only [i_0, i_1, i_2, i_3, i_4, i_5, i_6, i_7, i_8, i_9, i_10, i_11, i_13, i_14, i_15, i_16, i_17, i_18, i_19, i_24, i_29, i_30, i_31, i_32, i_138, i_143, i_144, i_254, i_255, i_256, i_257, i_258, i_261, i_264, i_265, i_279, i_280, i_284, i_285, i_286, i_288, i_319, i_320, i_338, i_339, i_575, i_576, i_599, i_600, i_4096, i_8191, i_8192, i_8249, i_8250, i_8256, i_9000, i_16384, i_32767, i_32768, i_65520, i_65521, i_65535, i_65536, i_65999, i_66000, i_1300, i_120, i_156, nI_leI, nI_ltI, nI_eq, nI_add, n_neg, not_false_eq_true, not_true_eq_false] <;> omega)) ?_
      unfold M_readAll_36
      refine Tt_p rfl (Tt_l ?_)
      rw [e2]
      refine Tt_R16.2 (Tt_m (t_unpackM (R := pcA bi i) (len := len) (a := stA bi i + 2) (n := hnA bi (stA bi i)) ⟨h, hlen, by omega, by omega⟩ j3 rfl rfl rfl hpc.symm) ?_)
      rintro ⟨r27, vsf, vsb, vr, vw, vm, rm, pc, fx, n2, T2, n3, T3, RL, n1, T1, LR⟩ hu
      dsimp only
      cases hp : pcA bi i with
      | none =>
        rw [hp] at hu
        have hu : r27 = -1 := hu
        subst hu
        have ne : ¬ (n ≤ 8 ∧ e = n) := by
          rintro ⟨_, q⟩
          have := he.2.1 i (by omega)
          unfold okP at this
          rw [pcA_n hp] at this
          omega
        unfold M_readAll_64 M_readAll_83
        by_cases w : nI (stA bi i) + 2 + nI (hnA bi (stA bi i)) = nI len
        · exact Tt_p w (Tt_p (by decide) (Tt_Si (QA_0 ne rfl)))
        · exact Tt_n w (Tt_p (by decide) (Tt_Si (QA_0 ne rfl)))
      | some q =>
        obtain ⟨m, o⟩ := q
        rw [hp] at hu
        obtain ⟨hu1, hu2⟩ := hu
        dsimp only at hu1 hu2
        subst hu1
        exact fin m o _ _ _ _ _ _ _ _ _ _ _ _ _ _ _ _ _ hp (Or.inl ⟨rfl, hu2⟩)
/-! what is known of the bytes read -/
def KnO (kn kl : Nat) (ks B : Nat → Nat) : Prop := kn ≤ 8 ∧ (∀ i, B i < 256) ∧ (∀ i, i < kn → ks i ≤ 66000) ∧ (∀ j, j < kn → ∀ i, i < j → ks i < ks j) ∧ (kn = 0 → kl = 0) ∧ (0 < kn → 8192 * (kn - 1) < kl) ∧ kl ≤ 8192 * kn
def KnC (kn kl : Nat) (ks B : Nat → Nat) (vkp vkl : Int32) (cks ckd : Nat → Int32) : Prop := vkp = nI kn ∧ vkl = nI kl ∧ (∀ i, i < kn → cks i = nI (ks i)) ∧ ∀ x, x < kl → ckd x = sx (B x)
def KnM (kn kl : Nat) (ks B : Nat → Nat) (vrs vrp : Int32) (rS rA rM rR : Nat → Int32) : Prop := vrs = nI kl ∧ vrp = nI kn ∧ (∀ i, i < kn → rS i = nI (ks i) ∧ rA i = nI (8192 * i) ∧ rM i = nI (if i + 1 < kn then 8192 else kl - 8192 * i)) ∧ ∀ x, x < kl → rR x = sx (B x)
theorem KnO_0 : KnO 0 0 (fun _ => 0) (fun _ => 0) := ⟨by omega, fun _ => (by show 0 < 256; omega), fun i hi => absurd hi (by omega), fun i hi => absurd hi (by omega), fun _ => rfl, fun q => absurd q (by omega), by omega⟩
theorem KnC_0 {cks ckd : Nat → Int32} : KnC 0 0 (fun _ => 0) (fun _ => 0) (nI 0) (nI 0) cks ckd := ⟨rfl, rfl, fun i hi => absurd hi (by omega), fun i hi => absurd hi (by omega)⟩
theorem KnM_0 {rS rA rM rR : Nat → Int32} : KnM 0 0 (fun _ => 0) (fun _ => 0) (nI 0) (nI 0) rS rA rM rR := ⟨rfl, rfl, fun i hi => absurd hi (by omega), fun i hi => absurd hi (by omega)⟩
theorem e_keep0 {k : Nat} (h : k ≤ 100000) : Bytes_keep 200000 (nI k) 0 = some ((), nI 0) := by
  unfold Bytes_keep mC
  rw [if_neg (by decide), if_neg (nI_pos (by omega))]
  rfl
theorem ln_b {len n e : Nat} {bi : Nat → Nat} (hb : ∀ i, bi i < 256) (hn : HdN len bi n) (he : RdN bi n e) (hen : e = n) (hlen : len ≤ 66000) (n8 : n ≤ 8) (hst : stA bi n = len) : KnO n (lnA bi n) (stA bi) (rwA bi) := by
  subst hen
  refine ⟨n8, fun x => oA_b hb _ _, fun i hi => ?_, fun j hj i hi => st_lt hn.1 j (by omega) i hi, fun q => ?_, fun q => ?_, ?_⟩
  · have := (hn.1 i hi).1
    omega
  · rw [q]
    rfl
  · obtain ⟨k, rfl⟩ : ∃ k, e = k + 1 := ⟨e - 1, by omega⟩
    have o := he.2.1 k (by omega)
    unfold okP at o
    show 8192 * (k + 1 - 1) < 8192 * k + mlA bi k
    omega
  · cases e with
    | zero => exact Nat.zero_le _
    | succ k =>
      have := mlA_b hb hn (i := k) (by omega)
      show 8192 * k + mlA bi k ≤ 8192 * (k + 1)
      omega
def QP (r : Int32) (kn kl : Nat) (ks B : Nat → Nat) (u : Int32 × Int32 × Int32 × (Nat → Int32) × (Nat → Int32) × Int32 × Int32 × Int32 × Int32 × (Nat → Int32) × (Nat → Int32) × (Nat → Int32) × (Nat → Int32) × (Nat → Int32) × (Nat → Int32) × (Nat → Int32) × (Nat → Int32) × (Nat → Int32) × (Nat → Int32)) : Prop := u.1 = r ∧ KnC kn kl ks B u.2.1 u.2.2.1 u.2.2.2.1 u.2.2.2.2.1
def QM (r : Int32) (kn kl : Nat) (ks B : Nat → Nat) (u : RaT) : Prop := u.1 = r ∧ KnM kn kl ks B u.2.1 u.2.2.1 u.2.2.2.2.2.2.2.2.2.2.2.2.2.2.2.2.2.2.2.1 u.2.2.2.2.2.2.2.2.2.2.2.2.2.2.2.2.2.2.2.2.1 u.2.2.2.2.2.2.2.2.2.2.2.2.2.2.2.2.2.2.2.2.2.1 u.2.2.2.2.2.2.2.2.2.2.2.2.2.2.2.2.2.2.2.2.2.2
theorem t_rdC {c cks ckd cF yF cG yG : Nat → Int32} {vos vfa vat ven : Int32} {cl y1 c1 o1 y2 c2 o2 y3 c3 o3 : Nat → Int32} {bi : Nat → Nat} {len n e k0 N1 : Nat} {vkp vkl : Int32} (h : Row c 0 len bi) (hlen : len ≤ 66000) (hn : HdN len bi n) (he : RdN bi n e) (hk0 : k0 ≤ 65536) (hkl : vkl = nI k0) (hN : 19 ≤ N1) (hN' : N1 ≤ 288) (hF : TabOK cF yF lF 288) (hG : TabOK cG yG l5 32) : Tt (P_read 200000 66000 65536 288 32 N1 288 32 (nI 1) (nI len) c cF yF cG yG vkp vkl cks ckd vos vfa vat ven cl y1 c1 o1 y2 c2 o2 y3 c3 o3) (fun u => (stA bi n ≠ len → QP (-11) 0 0 (fun _ => 0) (fun _ => 0) u) ∧ (stA bi n = len → ¬ (n ≤ 8 ∧ e = n) → QP (-12) 0 0 (fun _ => 0) (fun _ => 0) u) ∧ (stA bi n = len → n ≤ 8 ∧ e = n → QP (nI (lnA bi n)) n (lnA bi n) (stA bi) (rwA bi) u)) := by
  subst hkl
  have hb := st_b n hn.1
  unfold P_read
  refine Tt_n (by decide) (Tt_R1.2 (Tt_o (e_keep0 (by omega)) ?_))
  dsimp only
  refine Tt_R1.2 (Tt_m (t_findC h hlen hn) ?_)
  rintro ⟨r4, cks3⟩ ⟨g1, g2⟩
  dsimp only at g1 g2 ⊢
  by_cases z : stA bi n = len
  · obtain ⟨rfl, hks⟩ := g1 z
    refine Tt_p (nI_pos' (by omega)) (Tt_R16.2 (Tt_m (t_readC h hlen hn z he hks hN hN' hF hG) ?_))
    rintro ⟨r21, vkl5, ckd6, rest⟩ ⟨kl, q1, q2, q3, q4⟩
    obtain ⟨vos, vfa, vat, ven, cl, y1, c1, o1, y2, c2, o2, y3, c3, o3⟩ := rest
    dsimp only at q2 q3 q4 ⊢
    by_cases ok : n ≤ 8 ∧ e = n
    · obtain ⟨rfl, rfl, q5⟩ := q3 ok
      subst q2
      refine Tt_n (by decide) (Tt_R0.2 (Tt_o (a := (nI (lnA bi n), ())) rfl (Tt_Si ⟨fun q => absurd z q, fun _ q => absurd ok q, fun _ _ => ⟨rfl, rfl, rfl, fun i hi => hks i hi (by omega), q5⟩⟩)))
    · have := q4 ok
      subst this q2
      refine Tt_p rfl (Tt_R1.2 (Tt_o (e_keep0 (by omega)) (Tt_Si ⟨fun q => absurd z q, fun _ _ => ⟨rfl, KnC_0⟩, fun _ q => absurd q ok⟩)))
  · have := g2 z
    subst this
    exact Tt_n (by decide) (Tt_Si ⟨fun _ => ⟨rfl, KnC_0⟩, fun q => absurd q z, fun q => absurd q z⟩)
theorem t_rdM {c rS rA rM rR : Nat → Int32} {vsf vsb vr vw vm rm n2 n3 n1 : Int32} {pc fx T2 T3 RL T1 LR : Nat → Int32} {bi : Nat → Nat} {len n e : Nat} {vrs vrp : Int32} (h : Row c 0 len bi) (hlen : len ≤ 66000) (hn : HdN len bi n) (he : RdN bi n e) : Tt (M_read 200000 (nI 1) (nI len) c vrs vrp vsf vsb vr vw vm rm pc fx n2 T2 n3 T3 RL n1 T1 LR rS rA rM rR) (fun u => (stA bi n ≠ len → QM (-11) 0 0 (fun _ => 0) (fun _ => 0) u) ∧ (stA bi n = len → ¬ (n ≤ 8 ∧ e = n) → QM (-12) 0 0 (fun _ => 0) (fun _ => 0) u) ∧ (stA bi n = len → n ≤ 8 ∧ e = n → QM (nI (lnA bi n)) n (lnA bi n) (stA bi) (rwA bi) u)) := by
  unfold M_read
  refine Tt_n (by decide) (Tt_R0.2 (Tt_m (t_headsM h hlen hn) ?_))
  rintro ⟨r1, _⟩ hu
  dsimp only at hu ⊢
  by_cases z : stA bi n = len
  · rw [if_pos z] at hu
    subst hu
    refine Tt_n (by decide) (Tt_R22.2 (Tt_m (t_readA h hlen hn z he) ?_))
    rintro ⟨r24, v1, v2, vsf, vsb, vr, vw, vm, rm, pc, fx, n2, T2, n3, T3, RL, n1, T1, LR, rS, rA, rM, rR⟩ ⟨q1, q2⟩
    dsimp only at q1 q2 ⊢
    unfold M_read_42
    by_cases ok : n ≤ 8 ∧ e = n
    · obtain ⟨rfl, rfl, rfl, q3, q4⟩ := q1 ok
      refine Tt_n (by decide) (Tt_p (by decide) (Tt_Si ⟨fun q => absurd z q, fun _ q => absurd ok q, fun _ _ => ⟨rfl, rfl, rfl, fun i hi => ⟨(q3 i hi).1, (q3 i hi).2.1, ?_⟩, q4⟩⟩))
      show rM i = _
      rw [(q3 i hi).2.2]
      obtain ⟨k, rfl⟩ : ∃ k, n = k + 1 := ⟨n - 1, by omega⟩
      by_cases w : i + 1 < k + 1
      · have o := he.2.1 i (by omega)
        have b := mlA_b h.2 hn (i := i) (by omega)
        unfold okP at o
        rw [if_pos w]
        exact congrArg nI (by omega)
      · have : i = k := by omega
        subst this
        rw [if_neg w]
        show nI (mlA bi i) = nI (8192 * i + mlA bi i - 8192 * i)
        exact congrArg nI (by omega)
    · have := q2 ok
      subst this
      exact Tt_p rfl (Tt_n (by decide) (Tt_Si ⟨fun q => absurd z q, fun _ _ => ⟨rfl, KnM_0⟩, fun _ q => absurd q ok⟩))
  · rw [if_neg z] at hu
    subst hu
    unfold M_read_42
    exact Tt_p rfl (Tt_n (by decide) (Tt_Si ⟨fun _ => ⟨rfl, KnM_0⟩, fun q => absurd q z, fun q => absurd q z⟩))
theorem t_read {c cks ckd cF yF cG yG : Nat → Int32} {vos vfa vat ven : Int32} {cl y1 c1 o1 y2 c2 o2 y3 c3 o3 : Nat → Int32} {c' rS rA rM rR : Nat → Int32} {vsf vsb vr vw vm rm n2 n3 n1 : Int32} {pc fx T2 T3 RL T1 LR : Nat → Int32} {bi : Nat → Nat} {len k0 N1 : Nat} {vkp vkl vrs vrp : Int32} (h : Row c 0 len bi) (h' : Row c' 0 len bi) (hlen : len ≤ 66000) (hk0 : k0 ≤ 65536) (hkl : vkl = nI k0) (hN : 19 ≤ N1) (hN' : N1 ≤ 288) (hF : TabOK cF yF lF 288) (hG : TabOK cG yG l5 32) : ∃ r kn kl ks B, KnO kn kl ks B ∧ Tt (P_read 200000 66000 65536 288 32 N1 288 32 (nI 1) (nI len) c cF yF cG yG vkp vkl cks ckd vos vfa vat ven cl y1 c1 o1 y2 c2 o2 y3 c3 o3) (QP r kn kl ks B) ∧ Tt (M_read 200000 (nI 1) (nI len) c' vrs vrp vsf vsb vr vw vm rm pc fx n2 T2 n3 T3 RL n1 T1 LR rS rA rM rR) (QM r kn kl ks B) := by
  obtain ⟨n, hn⟩ := hd_ex len bi
  obtain ⟨e, he⟩ := rd_ex bi n
  have tC := t_rdC (vkp := vkp) (cks := cks) (ckd := ckd) (vos := vos) (vfa := vfa) (vat := vat) (ven := ven) (cl := cl) (y1 := y1) (c1 := c1) (o1 := o1) (y2 := y2) (c2 := c2) (o2 := o2) (y3 := y3) (c3 := c3) (o3 := o3) h hlen hn he hk0 hkl hN hN' hF hG
  have tM := t_rdM (vrs := vrs) (vrp := vrp) (rS := rS) (rA := rA) (rM := rM) (rR := rR) (vsf := vsf) (vsb := vsb) (vr := vr) (vw := vw) (vm := vm) (rm := rm) (pc := pc) (fx := fx) (n2 := n2) (T2 := T2) (n3 := n3) (T3 := T3) (RL := RL) (n1 := n1) (T1 := T1) (LR := LR) h' hlen hn he
  by_cases z : stA bi n = len
  · by_cases ok : n ≤ 8 ∧ e = n
    · exact ⟨_, _, _, _, _, ln_b h.2 hn he ok.2 hlen ok.1 z, Tt_m tC (fun u q => q.2.2 z ok), Tt_m tM (fun u q => q.2.2 z ok)⟩
    · exact ⟨_, _, _, _, _, KnO_0, Tt_m tC (fun u q => q.2.1 z ok), Tt_m tM (fun u q => q.2.1 z ok)⟩
  · exact ⟨_, _, _, _, _, KnO_0, Tt_m tC (fun u q => q.1 z), Tt_m tM (fun u q => q.1 z)⟩
