/-! codes for reading, made: program and reference take the same lengths -/
def gd (f : Nat → Nat) (n mb : Nat) : Prop := krs f n 15 = 32768 ∨ (n - cn f 0 n = 1 ∧ cn f 1 n = 1) ∨ (n - cn f 0 n = 0 ∧ mb = 1)
theorem cn_all {f : Nat → Nat} : ∀ n, (∀ i, i < n → f i ≤ 15) → cn f 0 n + lv f n 16 = n := by
  intro n hf
  have h1 : ∀ l, cn f 0 n + lv f n (l + 1) = sm (fun j => 1 * cn f j n) (l + 1) := by
    intro l
    induction l with
    | zero => show cn f 0 n + (0 + 0) = 0 + 1 * cn f 0 n; omega
    | succ l ih =>
      show cn f 0 n + (lv f n (l + 1) + (if l + 1 = 0 then 0 else cn f (l + 1) n)) = sm (fun j => 1 * cn f j n) (l + 1) + 1 * cn f (l + 1) n
      rw [if_neg (by omega)]
      omega
  rw [h1 15, sm_cn (fun _ => 1)]
  have : ∀ k, k ≤ n → sm (fun t => if f t < 15 + 1 then 1 else 0) k = k := by
    intro k
    induction k with
    | zero => intro _; rfl
    | succ k ih =>
      intro hk
      show sm (fun t => if f t < 15 + 1 then 1 else 0) k + (if f k < 15 + 1 then 1 else 0) = k + 1
      rw [ih (by omega), if_pos (by have := hf k (by omega); omega)]
  exact this n (Nat.le_refl n)
theorem krs_u (f : Nat → Nat) (n : Nat) : ∀ l, krs f n (l + 1) ≤ cn f 1 n * 16384 + (lv f n (l + 2) - cn f 1 n) * 8192 ∧ cn f 1 n * 16384 ≤ krs f n (l + 1) ∧ cn f 1 n ≤ lv f n (l + 2) := by
  intro l
  induction l with
  | zero =>
    have e1 : krs f n 1 = 0 + cn f 1 n * 2 ^ 14 := rfl
    have e2 : lv f n 2 = 0 + 0 + cn f 1 n := rfl
    rw [e1, e2]
    omega
  | succ l ih =>
    have e1 : krs f n (l + 1 + 1) = krs f n (l + 1) + cn f (l + 1 + 1) n * 2 ^ (14 - (l + 1)) := rfl
    have e2 : lv f n (l + 1 + 2) = lv f n (l + 2) + cn f (l + 2) n := by
      show lv f n (l + 2) + (if l + 2 = 0 then 0 else cn f (l + 2) n) = _
      rw [if_neg (by omega)]
    have p1 : cn f (l + 1 + 1) n * 2 ^ (14 - (l + 1)) ≤ cn f (l + 2) n * 2 ^ 13 := Nat.mul_le_mul_left _ (Nat.pow_le_pow_right (by omega) (by omega))
    rw [e1, e2]
    omega
theorem gd_k {f : Nat → Nat} {n mb : Nat} (hf : ∀ i, i < n → f i ≤ 15) (h : gd f n mb) : krs f n 15 ≤ 32768 := by
  have a := cn_all n hf
  have k := krs_u f n 14
  unfold gd at h
  have k1 : krs f n 15 ≤ cn f 1 n * 16384 + (lv f n 16 - cn f 1 n) * 8192 := k.1
  have k3 : cn f 1 n ≤ lv f n 16 := k.2.2
  omega
theorem gd_m {f : Nat → Nat} {n : Nat} (hf : ∀ i, i < n → f i ≤ 15) (h : n - cn f 0 n = 1) : cn f 1 n = 1 ↔ krs f n 15 = 16384 := by
  have a := cn_all n hf
  have k := krs_u f n 14
  have k1 : krs f n 15 ≤ cn f 1 n * 16384 + (lv f n 16 - cn f 1 n) * 8192 := k.1
  have k2 : cn f 1 n * 16384 ≤ krs f n 15 := k.2.1
  have k3 : cn f 1 n ≤ lv f n 16 := k.2.2
  omega
theorem lv_mono (f : Nat → Nat) (n : Nat) : ∀ {a b : Nat}, a ≤ b → lv f n a ≤ lv f n b := by
  intro a b h
  induction b with
  | zero => have : a = 0 := by omega
            subst this; exact Nat.le_refl _
  | succ b ih =>
    by_cases e : a = b + 1
    · subst e; exact Nat.le_refl _
    · have := ih (by omega)
      show lv f n a ≤ lv f n b + _
      omega
theorem lv_s {f : Nat → Nat} {n l : Nat} (h : 1 ≤ l) : lv f n (l + 1) = lv f n l + cn f l n := by
  show lv f n l + (if l = 0 then 0 else cn f l n) = _
  rw [if_neg (by omega)]
/-- places of symbols in the program's table differ -/
theorem pl_ne {f : Nat → Nat} {n t s : Nat} (ht : t < s) (hs : s < n) (h1 : 0 < f t) (h2 : 0 < f s) : lv f n (f t) + cn f (f t) t ≠ lv f n (f s) + cn f (f s) s := by
  have a1 := @cn_mono f (f t) (t + 1) n (by omega)
  have a2 := @cn_mono f (f s) (s + 1) n (by omega)
  rw [cn_s] at a1 a2
  have b1 := @lv_s f n (f t) (by omega)
  have b2 := @lv_s f n (f s) (by omega)
  rcases Nat.lt_trichotomy (f t) (f s) with z | z | z
  · have := @lv_mono f n (f t + 1) (f s) (by omega)
    omega
  · have := @cn_mono f (f t) (t + 1) s (by omega)
    rw [cn_s] at this
    rw [← z]
    omega
  · have := @lv_mono f n (f s + 1) (f t) (by omega)
    omega
theorem t_tsort {N0 N a n : Nat} {p counts offs syms : Nat → Int32} {f : Nat → Nat} (hN0 : a + n ≤ N0) (hN0' : N0 ≤ 339) (hnN : n ≤ N) (hN : N ≤ 288) (hL : ∀ i, i < n → p (a + i) = nI (f i)) (hf : ∀ i, i < n → f i ≤ 15) (hc : ∀ l, 1 ≤ l → l ≤ 15 → counts l = nI (cn f l n)) : Tt (Table_sort 200000 N0 N counts p offs syms (nI a) (nI n)) (fun u => ∀ s, s < n → 0 < f s → u.2.2 (lv f n (f s) + cn f (f s) s) = nI s) := by
  unfold Table_sort
  refine Tt_W4 (fun mm offs _ x4 x5 => ∃ l, 1 ≤ l ∧ l ≤ 16 ∧ x4 = nI (lv f n l) ∧ x5 = nI l ∧ mm = 16 - l ∧ ∀ j, 1 ≤ j → j < l → offs j = nI (lv f n j)) ?_ 200000 15 _ _ _ _ (by omega) ⟨1, by omega, by omega, rfl, rfl, rfl, fun j h1 h2 => by omega⟩
  rintro K mm offs syms x4 x5 ⟨l, h1, h2, rfl, rfl, rfl, ho⟩ ih
  unfold Table_sort_6
  by_cases z : 15 < l
  · simp (disch := omega) only [Tt_C, i_15, nI_ltI]
    rw [if_pos z]
    unfold Table_sort_40
    refine Tt_W3 (fun mm offs syms x5 => ∃ s, s ≤ n ∧ x5 = nI s ∧ mm = n - s ∧ (∀ j, 1 ≤ j → j ≤ 15 → offs j = nI (lv f n j + cn f j s)) ∧ ∀ t, t < s → 0 < f t → syms (lv f n (f t) + cn f (f t) t) = nI t) ?_ 200000 n _ _ _ (by omega) ⟨0, by omega, rfl, rfl, fun j q1 q2 => ho j q1 (by omega), fun t ht => by omega⟩
    rintro K2 mm offs syms x5 ⟨s, hs, rfl, rfl, ho2, hsy⟩ ih2
    unfold Table_sort_43 Table_sort_118
    by_cases y : n ≤ s
    · simp (disch := omega) only [Tt_C, Tt_S, nI_leI]
      rw [if_pos y]
      intro t ht h0
      exact hsy t (by omega) h0
    · have e1 := hL s (by omega)
      have fs := hf s (by omega)
      have cs1 : ∀ j, cn f j (s + 1) = cn f j s + (if f s = j then 1 else 0) := fun j => rfl
      simp (disch := omega) only [Tt_L, Tt_S, Tt_C, Tt_Z, Tt_R0, Tt_R1, Tt_R2, Tt_R3, Tt_R4, Tt_R5, q10, eq_self, if_true, if_false, i_0, i_1, i_2, i_3, i_4, i_5, i_6, i_7, i_8, i_9, i_10, i_11, i_13, i_14, i_15, i_16, i_17, i_18, i_19, i_24, i_29, i_30, i_31, i_32, i_138, i_143, i_144, i_254, i_255, i_256, i_257, i_258, i_261, i_264, i_265, i_279, i_280, i_284, i_285, i_286, i_288, i_319, i_320, i_338, i_339, i_575, i_576, i_599, i_600, i_4096, i_8191, i_8192, i_8249, i_8250, i_8256, i_9000, i_16384, i_32767, i_32768, i_65520, i_65521, i_65535, i_65536, i_65999, i_66000, i_1300, i_120, i_156, nI_leI, nI_ltI, nI_add, Tt_N, nI_clamp, e1]
      rw [if_neg y, if_neg (by omega)]
      refine ⟨by omega, ?_⟩
      by_cases w : f s ≤ 0
      · rw [if_pos w]
        refine ih2 (n - (s + 1)) _ _ _ (by omega) ⟨s + 1, by omega, rfl, rfl, fun j q1 q2 => ?_, fun t ht h0 => ?_⟩
        · rw [cs1, if_neg (by omega)]; exact ho2 j q1 q2
        · by_cases e : t = s
          · subst e; omega
          · exact hsy t (by omega) h0
      · rw [if_neg w, if_neg (by omega)]
        have o1 := ho2 (f s) (by omega) (by omega)
        have cm := @cn_mono f (f s) (s + 1) n (by omega)
        rw [cn_s] at cm
        have l1 := @lv_s f n (f s) (by omega)
        have l2 := lv_le f n (f s + 1)
        rw [o1]
        simp (disch := omega) only [nI_leI, Tt_N, nI_clamp, nI_add]
        rw [if_neg (by omega)]
        refine ⟨by omega, by omega, by omega, by omega, by omega, ih2 (n - (s + 1)) _ _ _ (by omega) ⟨s + 1, by omega, rfl, rfl, fun j q1 q2 => ?_, fun t ht h0 => ?_⟩⟩
        · rw [cs1]
          by_cases e : j = f s
          · rw [e, pk_us, if_pos rfl]; rfl
          · rw [pk_un e, if_neg (fun q => e q.symm)]; exact ho2 j q1 q2
        · by_cases e : t = s
          · rw [e, pk_us]
          · rw [pk_un (pl_ne (by omega) (by omega) h0 (by omega))]
            exact hsy t (by omega) h0
  · simp (disch := omega) only [Tt_L, Tt_S, Tt_C, Tt_Z, Tt_R0, Tt_R1, Tt_R2, Tt_R3, Tt_R4, Tt_R5, q10, eq_self, if_true, if_false, i_0, i_1, i_2, i_3, i_4, i_5, i_6, i_7, i_8, i_9, i_10, i_11, i_13, i_14, i_15, i_16, i_17, i_18, i_19, i_24, i_29, i_30, i_31, i_32, i_138, i_143, i_144, i_254, i_255, i_256, i_257, i_258, i_261, i_264, i_265, i_279, i_280, i_284, i_285, i_286, i_288, i_319, i_320, i_338, i_339, i_575, i_576, i_599, i_600, i_4096, i_8191, i_8192, i_8249, i_8250, i_8256, i_9000, i_16384, i_32767, i_32768, i_65520, i_65521, i_65535, i_65536, i_65999, i_66000, i_1300, i_120, i_156, nI_ltI, Tt_N, nI_clamp, hc l h1 (by omega), nI_add]
    rw [if_neg z]
    refine ⟨by omega, by omega, ih (16 - (l + 1)) _ _ _ _ (by omega) ⟨l + 1, by omega, by omega, ?_, rfl, rfl, fun j q1 q2 => ?_⟩⟩
    · rw [lv_s h1]
    · by_cases e : j = l
      · rw [e, pk_us]
      · rw [pk_un e]; exact ho j q1 (by omega)
theorem t_makeC {N0 N a n mb : Nat} {p counts offs syms : Nat → Int32} {f : Nat → Nat} {x2 x3 x4 : Int32} (h2 : x2 = nI a) (h3 : x3 = nI n) (h4 : x4 = nI mb) (hmb : mb ≤ 1) (hN0 : a + n ≤ N0) (hN0' : N0 ≤ 339) (hnN : n ≤ N) (hN : N ≤ 288) (hL : ∀ i, i < n → p (a + i) = nI (f i)) (hf : ∀ i, i < n → f i ≤ 15) : Tt (Table_make 200000 N N0 p syms counts offs x2 x3 x4) (fun u => (gd f n mb → u.1 = nI 1 ∧ TabOK u.2.2.1 u.2.1 f n) ∧ (¬ gd f n mb → u.1 = nI 0)) := by
  subst h2 h3 h4
  have ca := cn_all n hf
  have c0 := cn_le f 0 n
  unfold Table_make
  simp (disch := omega) only [Tt_C, Tt_R1, i_0, n_neg, if_false, nI_ltI, pk_sub, nI_leI]
  rw [if_neg (by omega), if_pos (by omega)]
  refine Tt_m (t_fill (by omega)) ?_
  rintro ⟨_, c1⟩ hc1
  refine Tt_W4 (fun mm _ counts _ x5 => ∃ s, s ≤ n ∧ x5 = nI s ∧ mm = n - s ∧ ∀ l, l ≤ 15 → counts l = nI (cn f l s)) ?_ 200000 n _ _ _ _ (by omega) ⟨0, by omega, rfl, rfl, fun l hl => by
    have := hc1 l
    rw [if_pos (by omega)] at this
    exact this⟩
  rintro K mm syms counts offs x5 ⟨s, hs, rfl, rfl, hc⟩ ih
  unfold Table_make_38 Table_make_75
  by_cases y : n ≤ s
  · have es : s = n := by omega
    subst es
    simp (disch := omega) only [Tt_C, nI_leI]
    rw [if_pos y]
    unfold Table_make_81
    simp (disch := omega) only [Tt_L, Tt_S, Tt_C, Tt_Z, Tt_R0, Tt_R1, Tt_R2, Tt_R3, Tt_R4, Tt_R5, q10, eq_self, if_true, if_false, i_0, i_1, i_2, i_3, i_4, i_5, i_6, i_7, i_8, i_9, i_10, i_11, i_13, i_14, i_15, i_16, i_17, i_18, i_19, i_24, i_29, i_30, i_31, i_32, i_138, i_143, i_144, i_254, i_255, i_256, i_257, i_258, i_261, i_264, i_265, i_279, i_280, i_284, i_285, i_286, i_288, i_319, i_320, i_338, i_339, i_575, i_576, i_599, i_600, i_4096, i_8191, i_8192, i_8249, i_8250, i_8256, i_9000, i_16384, i_32767, i_32768, i_65520, i_65521, i_65535, i_65536, i_65999, i_66000, i_1300, i_120, i_156, Tt_N, nI_clamp, hc 0 (by omega), pk_sub]
    refine ⟨by omega, ?_⟩
    refine Tt_W6 (fun mm syms' counts' offs' x5 x6 x7 => syms' = syms ∧ counts' = counts ∧ offs' = offs ∧ x5 = nI (s - cn f 0 s) ∧ ∃ l, l ≤ 15 ∧ x7 = nI (l + 1) ∧ mm = 15 - l ∧ bs f s l + (if l = 0 then 0 else cn f l s) ≤ 2 ^ l ∧ x6 = nI (2 ^ l - (bs f s l + (if l = 0 then 0 else cn f l s)))) ?_ 200000 15 _ _ _ _ _ _ (by omega) ⟨rfl, rfl, rfl, rfl, 0, by omega, rfl, rfl, Nat.zero_le _, rfl⟩
    rintro K2 mm syms' counts' offs' x5 x6 x7 ⟨rfl, rfl, rfl, rfl, l, hl, rfl, rfl, hF, rfl⟩ ih2
    unfold Table_make_97
    by_cases z : l = 15
    · subst z
      simp only [Tt_C]
      rw [if_pos (by decide)]
      rw [if_neg (by omega)] at hF ⊢
      have fk := @full_krs f s 15 (by omega) (by omega)
      rw [show 15 - 15 = 0 from rfl, Nat.pow_zero, Nat.mul_one] at fk
      have p15 : (2 : Nat) ^ 15 = 32768 := by decide
      rw [fk, p15] at hF
      rw [fk, p15]
      unfold Table_make_131
      rw [Tt_R2]
      refine Tt_m (t_tsort hN0 hN0' hnN hN hL hf (fun l q1 q2 => hc l q2)) ?_
      rintro ⟨_, offs2, syms2⟩ hsy
      have ok : TabOK counts' syms2 f s := ⟨fun l q1 q2 => hc l q2, hsy⟩
      unfold Table_make_159
      dsimp only
      simp (disch := omega) only [Tt_L, Tt_S, Tt_C, Tt_Z, Tt_R0, Tt_R1, Tt_R2, Tt_R3, Tt_R4, Tt_R5, q10, eq_self, if_true, if_false, i_0, i_1, i_2, i_3, i_4, i_5, i_6, i_7, i_8, i_9, i_10, i_11, i_13, i_14, i_15, i_16, i_17, i_18, i_19, i_24, i_29, i_30, i_31, i_32, i_138, i_143, i_144, i_254, i_255, i_256, i_257, i_258, i_261, i_264, i_265, i_279, i_280, i_284, i_285, i_286, i_288, i_319, i_320, i_338, i_339, i_575, i_576, i_599, i_600, i_4096, i_8191, i_8192, i_8249, i_8250, i_8256, i_9000, i_16384, i_32767, i_32768, i_65520, i_65521, i_65535, i_65536, i_65999, i_66000, i_1300, i_120, i_156, nI_eq, Tt_N, nI_clamp, hc 1 (by omega)]
      have cn1 := cn_le f 1 s
      by_cases w1 : 32768 - krs f s 15 = 0
      · rw [if_pos w1]
        have g : gd f s mb := Or.inl (by omega)
        exact ⟨fun _ => ⟨rfl, ok⟩, fun q => absurd g q⟩
      · rw [if_neg w1]
        by_cases w2 : s - cn f 0 s = 1
        · rw [if_pos w2]
          refine ⟨by omega, ?_⟩
          simp (disch := omega) only [nI_eq]
          by_cases w3 : cn f 1 s = 1
          · rw [if_pos w3]
            have g : gd f s mb := Or.inr (Or.inl ⟨w2, w3⟩)
            exact ⟨fun _ => ⟨rfl, ok⟩, fun q => absurd g q⟩
          · rw [if_neg w3, if_neg (by omega)]
            refine ⟨fun g => ?_, fun _ => rfl⟩
            exfalso
            unfold gd at g
            omega
        · rw [if_neg w2]
          by_cases w4 : s - cn f 0 s = 0
          · rw [if_pos w4]
            by_cases w5 : mb = 0
            · rw [if_pos w5]
              refine ⟨fun g => ?_, fun _ => rfl⟩
              exfalso
              unfold gd at g
              omega
            · rw [if_neg w5]
              have g : gd f s mb := Or.inr (Or.inr ⟨w4, by omega⟩)
              exact ⟨fun _ => ⟨rfl, ok⟩, fun q => absurd g q⟩
          · rw [if_neg w4]
            refine ⟨fun g => ?_, fun _ => rfl⟩
            exfalso
            unfold gd at g
            omega
    · have p2 : 2 ^ (l + 1) = 2 * 2 ^ l := by rw [Nat.pow_succ]; omega
      have pl : 2 ^ l ≤ 2 ^ 14 := Nat.pow_le_pow_right (by omega) (by omega)
      have eb : bs f s (l + 1) = 2 * (bs f s l + (if l = 0 then 0 else cn f l s)) := rfl
      have cl := cn_le f (l + 1) s
      generalize hF0 : bs f s l + (if l = 0 then 0 else cn f l s) = F0 at *
      simp (disch := omega) only [Tt_L, Tt_S, Tt_C, Tt_Z, Tt_R0, Tt_R1, Tt_R2, Tt_R3, Tt_R4, Tt_R5, q10, eq_self, if_true, if_false, i_0, i_1, i_2, i_3, i_4, i_5, i_6, i_7, i_8, i_9, i_10, i_11, i_13, i_14, i_15, i_16, i_17, i_18, i_19, i_24, i_29, i_30, i_31, i_32, i_138, i_143, i_144, i_254, i_255, i_256, i_257, i_258, i_261, i_264, i_265, i_279, i_280, i_284, i_285, i_286, i_288, i_319, i_320, i_338, i_339, i_575, i_576, i_599, i_600, i_4096, i_8191, i_8192, i_8249, i_8250, i_8256, i_9000, i_16384, i_32767, i_32768, i_65520, i_65521, i_65535, i_65536, i_65999, i_66000, i_1300, i_120, i_156, nI_ltI, Tt_N, nI_clamp, hc (l + 1) (by omega), pk_mul, nI_add]
      rw [if_neg (by omega)]
      refine ⟨by omega, ?_⟩
      by_cases w : cn f (l + 1) s ≤ 2 * (2 ^ l - F0)
      · rw [pk_sub w]
        simp (disch := omega) only [nI_leI]
        rw [if_pos (by omega)]
        refine ih2 (15 - (l + 1)) _ _ _ _ _ _ (by omega) ⟨rfl, rfl, rfl, rfl, l + 1, by omega, rfl, rfl, ?_, ?_⟩
        · rw [if_neg (by omega)]; omega
        · rw [if_neg (by omega)]; congr 1; omega
      · have neg : nI (2 * (2 ^ l - F0)) - nI (cn f (l + 1) s) < 0 := pk_sneg (by omega) (by omega)
        have ng : ¬ (nI 0 ≤ nI (2 * (2 ^ l - F0)) - nI (cn f (l + 1) s)) := by
          intro q
          have q1 := Int32.lt_iff_toInt_lt.mp neg
          have q2 := Int32.le_iff_toInt_le.mp q
          have q3 : (nI 0).toInt = (0 : Int32).toInt := rfl
          omega
        rw [if_neg ng]
        have fk := @full_krs f s (l + 1) (by omega) (by omega)
        have km := @krs_mono f s (l + 1) 15 (by omega)
        have big : 32768 < krs f s 15 := by
          have q1 : 2 ^ (l + 1) * 2 ^ (15 - (l + 1)) = 32768 := by rw [← Nat.pow_add, show l + 1 + (15 - (l + 1)) = 15 by omega]; rfl
          have q2 : (2 ^ (l + 1) + 1) * 2 ^ (15 - (l + 1)) ≤ (bs f s (l + 1) + cn f (l + 1) s) * 2 ^ (15 - (l + 1)) := Nat.mul_le_mul_right _ (by omega)
          have q3 := Nat.two_pow_pos (15 - (l + 1))
          rw [Nat.add_mul, Nat.one_mul] at q2
          omega
        refine ⟨fun g => ?_, fun _ => rfl⟩
        have := gd_k hf g
        omega
  · have e1 := hL s (by omega)
    have fs := hf s (by omega)
    simp (disch := omega) only [Tt_L, Tt_S, Tt_C, Tt_Z, Tt_R0, Tt_R1, Tt_R2, Tt_R3, Tt_R4, Tt_R5, q10, eq_self, if_true, if_false, i_0, i_1, i_2, i_3, i_4, i_5, i_6, i_7, i_8, i_9, i_10, i_11, i_13, i_14, i_15, i_16, i_17, i_18, i_19, i_24, i_29, i_30, i_31, i_32, i_138, i_143, i_144, i_254, i_255, i_256, i_257, i_258, i_261, i_264, i_265, i_279, i_280, i_284, i_285, i_286, i_288, i_319, i_320, i_338, i_339, i_575, i_576, i_599, i_600, i_4096, i_8191, i_8192, i_8249, i_8250, i_8256, i_9000, i_16384, i_32767, i_32768, i_65520, i_65521, i_65535, i_65536, i_65999, i_66000, i_1300, i_120, i_156, nI_leI, nI_ltI, nI_add, Tt_N, nI_clamp, e1, n_neg]
    rw [if_neg y, if_neg (by omega)]
    refine ⟨by omega, by omega, by omega, ih (n - (s + 1)) _ _ _ _ (by omega) ⟨s + 1, by omega, rfl, rfl, fun l hl => ?_⟩⟩
    show _ = nI (cn f l s + (if f s = l then 1 else 0))
    by_cases e : l = f s
    · rw [e, pk_us, if_pos rfl, hc (f s) (by omega)]; exact nI_1 _
    · rw [pk_un e, if_neg (fun q => e q.symm)]; exact hc l hl
theorem krs_sm (f : Nat → Nat) (n : Nat) : ∀ l, l ≤ 15 → krs f n l = sm (fun j => (if 0 < j then 2 ^ (15 - j) else 0) * cn f j n) (l + 1) := by
  intro l
  induction l with
  | zero => intro _; show 0 = 0 + (if 0 < 0 then _ else 0) * cn f 0 n; rw [if_neg (by omega)]; omega
  | succ l ih =>
    intro hl
    show krs f n l + cn f (l + 1) n * 2 ^ (14 - l) = sm (fun j => (if 0 < j then 2 ^ (15 - j) else 0) * cn f j n) (l + 1) + (if 0 < l + 1 then 2 ^ (15 - (l + 1)) else 0) * cn f (l + 1) n
    rw [ih (by omega), if_pos (by omega), show 15 - (l + 1) = 14 - l by omega, Nat.mul_comm (2 ^ (14 - l))]
theorem krs_t {f : Nat → Nat} {n : Nat} (hf : ∀ i, i < n → f i ≤ 15) : sm (fun t => if 0 < f t then 2 ^ (15 - f t) else 0) n = krs f n 15 := by
  rw [krs_sm f n 15 (by omega), sm_cn]
  apply sm_c
  intro i hi
  have := hf i hi
  rw [if_pos (show f i < 15 + 1 by omega)]
theorem used_t (f : Nat → Nat) : ∀ n, cn f 0 n + sm (fun t => if 0 < f t then 1 else 0) n = n := by
  intro n
  induction n with
  | zero => rfl
  | succ n ih =>
    show cn f 0 n + (if f n = 0 then 1 else 0) + (sm (fun t => if 0 < f t then 1 else 0) n + (if 0 < f n then 1 else 0)) = n + 1
    by_cases e : f n = 0
    · rw [if_pos e, if_neg (by omega)]; omega
    · rw [if_neg e, if_pos (by omega)]; omega
theorem t_makeM {N0 a n mb : Nat} {of next : Nat → Int32} {f : Nat → Nat} {x0 x2 x3 x4 : Int32} (h2 : x2 = nI a) (h3 : x3 = nI n) (h4 : x4 = nI mb) (hmb : mb ≤ 1) (hN0 : a + n ≤ N0) (hN0' : N0 ≤ 339) (hn : n ≤ 288) (hL : ∀ i, i < n → of (a + i) = nI (f i)) (hf : ∀ i, i < n → f i ≤ 15) : Tt (Tree_make 200000 N0 of x0 next x2 x3 x4) (fun u => (gd f n mb → u.1 = nI 1 ∧ TreeOK u.2.2 f n) ∧ (¬ gd f n mb → u.1 = nI 0)) := by
  subst h2 h3 h4
  unfold Tree_make
  simp (disch := omega) only [Tt_L, Tt_S, Tt_C, Tt_Z, Tt_R0, Tt_R1, Tt_R2, Tt_R3, Tt_R4, Tt_R5, q10, eq_self, if_true, if_false, i_0, i_1, i_2, i_3, i_4, i_5, i_6, i_7, i_8, i_9, i_10, i_11, i_13, i_14, i_15, i_16, i_17, i_18, i_19, i_24, i_29, i_30, i_31, i_32, i_138, i_143, i_144, i_254, i_255, i_256, i_257, i_258, i_261, i_264, i_265, i_279, i_280, i_284, i_285, i_286, i_288, i_319, i_320, i_338, i_339, i_575, i_576, i_599, i_600, i_4096, i_8191, i_8192, i_8249, i_8250, i_8256, i_9000, i_16384, i_32767, i_32768, i_65520, i_65521, i_65535, i_65536, i_65999, i_66000, i_1300, i_120, i_156, Tt_N, nI_clamp]
  refine ⟨by omega, by omega, ?_⟩
  generalize hnx : upd (upd next 0 (nI 0)) 1 (nI 0) = nx
  have hz : nx 0 = nI 0 ∧ nx 1 = nI 0 := by
    rw [← hnx]
    exact ⟨by rw [pk_un (by omega), pk_us], by rw [pk_us]⟩
  have kb : ∀ s, s ≤ n → sm (fun t => if 0 < f t then 2 ^ (15 - f t) else 0) s ≤ s * 16384 := by
    intro s
    induction s with
    | zero => intro _; exact Nat.le_refl 0
    | succ s ih =>
      intro hs
      have i1 := ih (by omega)
      show sm (fun t => if 0 < f t then 2 ^ (15 - f t) else 0) s + (if 0 < f s then 2 ^ (15 - f s) else 0) ≤ _
      by_cases e : 0 < f s
      · rw [if_pos e]
        have : 2 ^ (15 - f s) ≤ 2 ^ 14 := Nat.pow_le_pow_right (by omega) (by omega)
        omega
      · rw [if_neg e]; omega
  refine Tt_W5 (fun mm x0 next' x5 x6 x7 => x0 = nI 1 ∧ next' = nx ∧ ∃ s, s ≤ n ∧ x7 = nI s ∧ mm = n - s ∧ x5 = nI (sm (fun t => if 0 < f t then 2 ^ (15 - f t) else 0) s) ∧ x6 = nI (sm (fun t => if 0 < f t then 1 else 0) s)) ?_ 200000 n _ _ _ _ _ (by omega) ⟨rfl, rfl, 0, by omega, rfl, rfl, rfl, rfl⟩
  rintro K mm x0 next' x5 x6 x7 ⟨rfl, rfl, s, hs, rfl, rfl, rfl, rfl⟩ ih
  unfold Tree_make_28
  by_cases y : n ≤ s
  · have es : s = n := by omega
    subst es
    simp (disch := omega) only [Tt_C, nI_leI]
    rw [if_pos y]
    have kb' := kb s (Nat.le_refl s)
    have ut := used_t f s
    have kt := @krs_t f s hf
    generalize sm (fun t => if 0 < f t then 1 else 0) s = us at *
    rw [kt] at kb' ⊢
    have grow : gd f s mb → Tt (Tree_make_119 200000 N0 of (nI a) (nI s) (nI 1) next') (fun u => (gd f s mb → u.1 = nI 1 ∧ TreeOK u.2.2 f s) ∧ (¬ gd f s mb → u.1 = nI 0)) := by
      intro g
      refine Tt_m (t_treeGrow hN0 hN0' hn hL hf (gd_k hf g) rfl hz) ?_
      rintro ⟨r, nd, nx2⟩ ⟨g1, g2⟩
      exact ⟨fun _ => ⟨g1, g2⟩, fun q => absurd g q⟩
    unfold Tree_make_86 Tree_make_107
    simp (disch := omega) only [Tt_C, Tt_S, i_0, i_1, i_2, i_3, i_4, i_5, i_6, i_7, i_8, i_9, i_10, i_11, i_13, i_14, i_15, i_16, i_17, i_18, i_19, i_24, i_29, i_30, i_31, i_32, i_138, i_143, i_144, i_254, i_255, i_256, i_257, i_258, i_261, i_264, i_265, i_279, i_280, i_284, i_285, i_286, i_288, i_319, i_320, i_338, i_339, i_575, i_576, i_599, i_600, i_4096, i_8191, i_8192, i_8249, i_8250, i_8256, i_9000, i_16384, i_32767, i_32768, i_65520, i_65521, i_65535, i_65536, i_65999, i_66000, i_1300, i_120, i_156, nI_eq]
    have gm := @gd_m f s hf
    by_cases w1 : krs f s 15 = 32768
    · rw [if_pos w1]
      exact grow (Or.inl w1)
    · rw [if_neg w1]
      by_cases w2 : us = 1
      · rw [if_pos w2]
        have w2' : s - cn f 0 s = 1 := by omega
        by_cases w3 : krs f s 15 = 16384
        · rw [if_pos w3]
          exact grow (Or.inr (Or.inl ⟨w2', (gm w2').mpr w3⟩))
        · rw [if_neg w3, if_neg (by omega)]
          refine ⟨fun g => ?_, fun _ => rfl⟩
          exfalso
          rcases g with g | g | g
          · exact w1 g
          · exact w3 ((gm w2').mp g.2)
          · omega
      · rw [if_neg w2]
        by_cases w4 : us = 0
        · rw [if_pos w4]
          by_cases w5 : mb = 0
          · rw [if_pos w5]
            refine ⟨fun g => ?_, fun _ => rfl⟩
            exfalso
            unfold gd at g
            omega
          · rw [if_neg w5]
            exact grow (Or.inr (Or.inr ⟨by omega, by omega⟩))
        · rw [if_neg w4]
          refine ⟨fun g => ?_, fun _ => rfl⟩
          exfalso
          unfold gd at g
          omega
  · have e1 := hL s (by omega)
    have fs := hf s (by omega)
    have p15 : 2 ^ (15 - f s) ≤ 2 ^ 15 := Nat.pow_le_pow_right (by omega) (by omega)
    unfold Tree_make_62 Tree_make_78
    simp (disch := omega) only [Tt_L, Tt_S, Tt_C, Tt_Z, Tt_R0, Tt_R1, Tt_R2, Tt_R3, Tt_R4, Tt_R5, q10, eq_self, if_true, if_false, i_0, i_1, i_2, i_3, i_4, i_5, i_6, i_7, i_8, i_9, i_10, i_11, i_13, i_14, i_15, i_16, i_17, i_18, i_19, i_24, i_29, i_30, i_31, i_32, i_138, i_143, i_144, i_254, i_255, i_256, i_257, i_258, i_261, i_264, i_265, i_279, i_280, i_284, i_285, i_286, i_288, i_319, i_320, i_338, i_339, i_575, i_576, i_599, i_600, i_4096, i_8191, i_8192, i_8249, i_8250, i_8256, i_9000, i_16384, i_32767, i_32768, i_65520, i_65521, i_65535, i_65536, i_65999, i_66000, i_1300, i_120, i_156, nI_leI, nI_add, Tt_N, nI_clamp, e1, pk_sub, n_shl, Nat.one_mul]
    rw [if_neg y]
    refine ⟨by omega, ?_⟩
    by_cases w : f s ≤ 0
    · rw [if_pos w, if_pos w]
      refine ih (n - (s + 1)) _ _ _ _ _ (by omega) ⟨rfl, rfl, s + 1, by omega, rfl, rfl, ?_, ?_⟩
      · show _ = nI (sm (fun t => if 0 < f t then 2 ^ (15 - f t) else 0) s + (if 0 < f s then 2 ^ (15 - f s) else 0))
        rw [if_neg (by omega)]; rfl
      · show _ = nI (sm (fun t => if 0 < f t then 1 else 0) s + (if 0 < f s then 1 else 0))
        rw [if_neg (by omega)]; rfl
    · rw [if_neg w, if_neg w]
      refine ih (n - (s + 1)) _ _ _ _ _ (by omega) ⟨rfl, rfl, s + 1, by omega, rfl, rfl, ?_, ?_⟩
      · show _ = nI (sm (fun t => if 0 < f t then 2 ^ (15 - f t) else 0) s + (if 0 < f s then 2 ^ (15 - f s) else 0))
        rw [if_pos (by omega)]
      · show _ = nI (sm (fun t => if 0 < f t then 1 else 0) s + (if 0 < f s then 1 else 0))
        rw [if_pos (by omega)]
