/-! codes out of lengths, by program and reference -/
theorem t_fill {N : Nat} {c : Nat → Int32} {x : Int32} (hN : N ≤ 100000) : Tt (Arr_fill 200000 N c x) (fun u => ∀ i, u.2 i = if i < N then x else c i) := by
  unfold Arr_fill
  simp only [Tt_L]
  refine Tt_W3 (fun m c' x2 x3 => ∃ j, j ≤ N ∧ x2 = nI j ∧ x3 = nI N ∧ m = N - j ∧ ∀ i, c' i = if i < j then x else c i) ?_ 200000 N c 0 (nI N) (by omega) ⟨0, by omega, rfl, rfl, rfl, fun i => by rw [if_neg (by omega)]⟩
  rintro K m c' x2 x3 ⟨j, hj, rfl, rfl, rfl, hc⟩ ih
  unfold Arr_fill_5
  simp (disch := omega) only [Tt_L, Tt_S, Tt_C, Tt_Z, Tt_R0, Tt_R1, Tt_R2, Tt_R3, Tt_R4, Tt_R5, q10, eq_self, if_true, if_false, i_0, i_1, i_2, i_3, i_4, i_5, i_6, i_7, i_8, i_9, i_10, i_11, i_13, i_14, i_15, i_16, i_17, i_18, i_19, i_24, i_29, i_30, i_31, i_32, i_138, i_143, i_144, i_254, i_255, i_256, i_257, i_258, i_261, i_264, i_265, i_279, i_280, i_284, i_285, i_286, i_288, i_319, i_320, i_338, i_339, i_575, i_576, i_599, i_600, i_4096, i_8191, i_8192, i_8249, i_8250, i_8256, i_9000, i_16384, i_32767, i_32768, i_65520, i_65521, i_65535, i_65536, i_65999, i_66000, i_1300, i_120, i_156, nI_leI, Tt_N, nI_clamp, nI_add]
  split
  · rename_i h0
    rw [show N = j by omega]
    exact hc
  · rename_i h0
    refine ⟨by omega, ih (N - (j + 1)) _ _ _ (by omega) ⟨j + 1, by omega, rfl, rfl, rfl, fun i => ?_⟩⟩
    by_cases e : i = j
    · subst e; rw [pk_us, if_pos (by omega)]
    · rw [pk_un e, hc i]
      by_cases h : i < j
      · rw [if_pos h, if_pos (by omega)]
      · rw [if_neg h, if_neg (by omega)]
def cn (f : Nat → Nat) (l : Nat) : Nat → Nat
  | 0 => 0
  | n + 1 => cn f l n + (if f n = l then 1 else 0)
def bs (f : Nat → Nat) (n : Nat) : Nat → Nat
  | 0 => 0
  | l + 1 => 2 * (bs f n l + (if l = 0 then 0 else cn f l n))
def cde (f : Nat → Nat) (n s : Nat) : Nat := bs f n (f s) + cn f (f s) s
theorem cn_le (f : Nat → Nat) (l : Nat) : ∀ n, cn f l n ≤ n := by
  intro n
  induction n with
  | zero => exact Nat.le_refl 0
  | succ n ih =>
    show cn f l n + (if f n = l then 1 else 0) ≤ n + 1
    split <;> omega
theorem cn_mono (f : Nat → Nat) (l : Nat) : ∀ {a b : Nat}, a ≤ b → cn f l a ≤ cn f l b := by
  intro a b h
  induction b with
  | zero => have : a = 0 := by omega
            subst this; exact Nat.le_refl _
  | succ b ih =>
    by_cases e : a = b + 1
    · subst e; exact Nat.le_refl _
    · have := ih (by omega)
      show cn f l a ≤ cn f l b + (if f b = l then 1 else 0)
      split <;> omega
theorem cn_ext {f g : Nat → Nat} {l n : Nat} : ∀ {n' : Nat}, n ≤ n' → (∀ i, i < n → f i = g i) → (∀ i, n ≤ i → i < n' → g i ≠ l) → cn g l n' = cn f l n := by
  intro n'
  induction n' with
  | zero =>
    intro h _ _
    have : n = 0 := by omega
    subst this; rfl
  | succ n' ih =>
    intro h h1 h2
    by_cases e : n = n' + 1
    · subst e
      have : ∀ k, k ≤ n' + 1 → cn g l k = cn f l k := by
        intro k
        induction k with
        | zero => intro _; rfl
        | succ k ih2 =>
          intro hk
          show cn g l k + (if g k = l then 1 else 0) = cn f l k + (if f k = l then 1 else 0)
          rw [ih2 (by omega), h1 k (by omega)]
      exact this _ (Nat.le_refl _)
    · show cn g l n' + (if g n' = l then 1 else 0) = _
      rw [ih (by omega) h1 (fun i a b => h2 i a (by omega)), if_neg (h2 n' (by omega) (by omega))]
      rfl
theorem bs_ext {f g : Nat → Nat} {n n' : Nat} (h : n ≤ n') (h1 : ∀ i, i < n → f i = g i) (h2 : ∀ i, n ≤ i → i < n' → g i = 0) : ∀ l, bs g n' l = bs f n l := by
  intro l
  induction l with
  | zero => rfl
  | succ l ih =>
    show 2 * (bs g n' l + (if l = 0 then 0 else cn g l n')) = 2 * (bs f n l + (if l = 0 then 0 else cn f l n))
    rw [ih]
    by_cases e : l = 0
    · rw [if_pos e, if_pos e]
    · rw [if_neg e, if_neg e, cn_ext h h1 (fun i a b => by rw [h2 i a b]; omega)]
theorem cde_ext {f g : Nat → Nat} {n n' s : Nat} (h : n ≤ n') (h1 : ∀ i, i < n → f i = g i) (h2 : ∀ i, n ≤ i → i < n' → g i = 0) (hs : s < n) : cde g n' s = cde f n s := by
  unfold cde
  rw [bs_ext h h1 h2, ← h1 s hs, @cn_ext f g (f s) s s (Nat.le_refl s) (fun i hi => h1 i (by omega)) (fun i a b => by omega)]
theorem bs_lt (f : Nat → Nat) (n : Nat) : ∀ l, bs f n l + 2 * n ≤ n * 2 ^ (l + 1) := by
  intro l
  induction l with
  | zero => show 0 + 2 * n ≤ n * 2 ^ 1; omega
  | succ l ih =>
    show 2 * (bs f n l + (if l = 0 then 0 else cn f l n)) + 2 * n ≤ n * 2 ^ (l + 1 + 1)
    have c := cn_le f l n
    rw [Nat.pow_succ 2 (l + 1), ← Nat.mul_assoc]
    split <;> omega
theorem bs_b {f : Nat → Nat} {n l : Nat} (hl : l ≤ 15) (hn : n ≤ 339) : bs f n l + 2 * n ≤ 22216704 := by
  have h := bs_lt f n l
  have h2 : n * 2 ^ (l + 1) ≤ 339 * 2 ^ 16 := Nat.mul_le_mul hn (Nat.pow_le_pow_right (by omega) (by omega))
  have h3 : 339 * 2 ^ 16 = 22216704 := by decide
  omega
theorem cde_b {f : Nat → Nat} {n s : Nat} (hs : s < n) (hl : f s ≤ 15) (hn : n ≤ 339) : cde f n s < 22216704 := by
  have h := @bs_b f n (f s) hl hn
  have c := cn_le f (f s) s
  unfold cde
  omega
theorem t_assign88 {N : Nat} {lens next codes : Nat → Int32} {f : Nat → Nat} (hN : N ≤ 339) (hL : ∀ i, i < N → lens i = nI (f i)) (hf : ∀ i, i < N → f i ≤ 15) (hn : ∀ l, 1 ≤ l → l ≤ 15 → next l = nI (bs f N l)) : Tt (Code_assign_88 200000 N N lens next codes) (fun u => ∀ s, s < N → 0 < f s → u.2.2 s = nI (rv (cde f N s) (f s))) := by
  unfold Code_assign_88
  refine Tt_W3 (fun m next codes x2 => ∃ s, s ≤ N ∧ x2 = nI s ∧ m = N - s ∧ (∀ l, 1 ≤ l → l ≤ 15 → next l = nI (bs f N l + cn f l s)) ∧ ∀ t, t < s → 0 < f t → codes t = nI (rv (cde f N t) (f t))) ?_ 200000 N next codes 0 (by omega) ⟨0, by omega, rfl, rfl, fun l h1 h2 => hn l h1 h2, fun t h => by omega⟩
  rintro K m next codes x2 ⟨s, hs, rfl, rfl, hx, hc⟩ ih
  unfold Code_assign_90 Code_assign_142
  simp (disch := omega) only [Tt_L, Tt_S, Tt_C, Tt_Z, Tt_R0, Tt_R1, Tt_R2, Tt_R3, Tt_R4, Tt_R5, q10, eq_self, if_true, if_false, i_0, i_1, i_2, i_3, i_4, i_5, i_6, i_7, i_8, i_9, i_10, i_11, i_13, i_14, i_15, i_16, i_17, i_18, i_19, i_24, i_29, i_30, i_31, i_32, i_138, i_143, i_144, i_254, i_255, i_256, i_257, i_258, i_261, i_264, i_265, i_279, i_280, i_284, i_285, i_286, i_288, i_319, i_320, i_338, i_339, i_575, i_576, i_599, i_600, i_4096, i_8191, i_8192, i_8249, i_8250, i_8256, i_9000, i_16384, i_32767, i_32768, i_65520, i_65521, i_65535, i_65536, i_65999, i_66000, i_1300, i_120, i_156, nI_leI, Tt_N, nI_clamp, nI_add]
  split
  · rename_i h0
    intro t ht h
    exact hc t (by omega) h
  · rename_i h0
    have e := hL s (by omega)
    have b := hf s (by omega)
    have bb := @bs_b f N (f s) b hN
    have cc := cn_le f (f s) s
    refine ⟨by omega, ?_⟩
    rw [e]
    simp (disch := omega) only [nI_leI, nI_ltI, Tt_N, nI_clamp]
    split
    · rename_i h1
      refine ih (N - (s + 1)) _ _ _ (by omega) ⟨s + 1, by omega, rfl, rfl, fun l h2 h3 => ?_, fun t ht h => ?_⟩
      · rw [hx l h2 h3]
        show _ = nI (bs f N l + (cn f l s + (if f s = l then 1 else 0)))
        rw [if_neg (by omega)]; rfl
      · by_cases z : t = s
        · subst z; omega
        · exact hc t (by omega) h
    · rename_i h1
      rw [if_neg (by omega)]
      have ex := hx (f s) (by omega) (by omega)
      refine ⟨by omega, ?_⟩
      refine Tt_m (t_turned (c := cde f N s) (l := f s) ex rfl (by omega) (by unfold cde; omega)) ?_
      rintro ⟨r, _⟩ hr
      have hr' : r = nI (rv (cde f N s) (f s)) := hr
      subst hr'
      refine ⟨by omega, by omega, by omega, ?_⟩
      refine ih (N - (s + 1)) _ _ _ (by omega) ⟨s + 1, by omega, rfl, rfl, fun l h2 h3 => ?_, fun t ht h => ?_⟩
      · show _ = nI (bs f N l + (cn f l s + (if f s = l then 1 else 0)))
        by_cases z : l = f s
        · rw [← z, pk_us, z, ex, if_pos rfl, nI_add]; rfl
        · rw [pk_un z, hx l h2 h3, if_neg (fun q => z q.symm)]; rfl
      · by_cases z : t = s
        · rw [z, pk_us]
        · rw [pk_un z]; exact hc t (by omega) h
theorem t_assign52 {N : Nat} {lens next codes : Nat → Int32} {f : Nat → Nat} (hN : N ≤ 339) (hL : ∀ i, i < N → lens i = nI (f i)) (hf : ∀ i, i < N → f i ≤ 15) (hn : ∀ l, 1 ≤ l → l ≤ 15 → next l = nI (cn f l N)) : Tt (Code_assign_52 200000 N N lens next codes) (fun u => ∀ s, s < N → 0 < f s → u.2.2 s = nI (rv (cde f N s) (f s))) := by
  unfold Code_assign_52
  refine Tt_W4 (fun m next _ x1 x2 => ∃ l, 1 ≤ l ∧ l ≤ 16 ∧ x1 = nI (bs f N l) ∧ x2 = nI l ∧ m = 16 - l ∧ ∀ j, 1 ≤ j → j ≤ 15 → next j = if j < l then nI (bs f N j) else nI (cn f j N)) ?_ 200000 15 next codes 0 1 (by omega) ⟨1, by omega, by omega, rfl, rfl, rfl, fun j h1 h2 => by rw [if_neg (by omega)]; exact hn j h1 h2⟩
  rintro K m next codes x1 x2 ⟨l, h1, h2, rfl, rfl, rfl, hx⟩ ih
  unfold Code_assign_56
  simp (disch := omega) only [Tt_L, Tt_S, Tt_C, Tt_Z, Tt_R0, Tt_R1, Tt_R2, Tt_R3, Tt_R4, Tt_R5, q10, eq_self, if_true, if_false, i_0, i_1, i_2, i_3, i_4, i_5, i_6, i_7, i_8, i_9, i_10, i_11, i_13, i_14, i_15, i_16, i_17, i_18, i_19, i_24, i_29, i_30, i_31, i_32, i_138, i_143, i_144, i_254, i_255, i_256, i_257, i_258, i_261, i_264, i_265, i_279, i_280, i_284, i_285, i_286, i_288, i_319, i_320, i_338, i_339, i_575, i_576, i_599, i_600, i_4096, i_8191, i_8192, i_8249, i_8250, i_8256, i_9000, i_16384, i_32767, i_32768, i_65520, i_65521, i_65535, i_65536, i_65999, i_66000, i_1300, i_120, i_156, nI_ltI, Tt_N, nI_clamp, nI_add]
  split
  · rename_i h0
    refine t_assign88 hN hL hf (fun j a b => ?_)
    rw [hx j a b, if_pos (by omega)]
  · rename_i h0
    have bb := @bs_b f N l (by omega) hN
    have cc := cn_le f l N
    refine ⟨by omega, by omega, ?_⟩
    rw [hx l (by omega) (by omega), if_neg (by omega), nI_add, n_shl (by omega) (by omega)]
    refine ih (16 - (l + 1)) _ _ _ _ (by omega) ⟨l + 1, by omega, by omega, ?_, rfl, rfl, fun j a b => ?_⟩
    · congr 1
      show _ = 2 * (bs f N l + (if l = 0 then 0 else cn f l N))
      rw [if_neg (by omega)]
      omega
    · by_cases z : j = l
      · subst z; rw [pk_us, if_pos (by omega)]
      · rw [pk_un z, hx j a b]
        by_cases y : j < l
        · rw [if_pos y, if_pos (by omega)]
        · rw [if_neg y, if_neg (by omega)]
/-- the program's codes -/
theorem t_assign {N : Nat} {lens next codes : Nat → Int32} {f : Nat → Nat} (hN : N ≤ 339) (hL : ∀ i, i < N → lens i = nI (f i)) (hf : ∀ i, i < N → f i ≤ 15) : Tt (Code_assign 200000 N N lens next codes) (fun u => ∀ s, s < N → 0 < f s → u.2.2 s = nI (rv (cde f N s) (f s))) := by
  unfold Code_assign
  rw [Tt_R1]
  refine Tt_m (t_fill (by omega)) ?_
  rintro ⟨_, c1⟩ h1
  refine Tt_W3 (fun m next codes x1 => ∃ s, s ≤ N ∧ x1 = nI s ∧ m = N - s ∧ ∀ l, 1 ≤ l → l ≤ 15 → next l = nI (cn f l s)) ?_ 200000 N c1 codes 0 (by omega) ⟨0, by omega, rfl, rfl, fun l a b => by
    have := h1 l
    rw [if_pos (by omega)] at this
    exact this⟩
  rintro K m next codes x1 ⟨s, hs, rfl, rfl, hx⟩ ih
  unfold Code_assign_10 Code_assign_46
  simp (disch := omega) only [Tt_L, Tt_S, Tt_C, Tt_Z, Tt_R0, Tt_R1, Tt_R2, Tt_R3, Tt_R4, Tt_R5, q10, eq_self, if_true, if_false, i_0, i_1, i_2, i_3, i_4, i_5, i_6, i_7, i_8, i_9, i_10, i_11, i_13, i_14, i_15, i_16, i_17, i_18, i_19, i_24, i_29, i_30, i_31, i_32, i_138, i_143, i_144, i_254, i_255, i_256, i_257, i_258, i_261, i_264, i_265, i_279, i_280, i_284, i_285, i_286, i_288, i_319, i_320, i_338, i_339, i_575, i_576, i_599, i_600, i_4096, i_8191, i_8192, i_8249, i_8250, i_8256, i_9000, i_16384, i_32767, i_32768, i_65520, i_65521, i_65535, i_65536, i_65999, i_66000, i_1300, i_120, i_156, nI_leI, Tt_N, nI_clamp, nI_add]
  split
  · rename_i h0
    refine t_assign52 hN hL hf (fun l a b => ?_)
    rw [hx l a b, show N = s by omega]
  · rename_i h0
    have e := hL s (by omega)
    have b := hf s (by omega)
    refine ⟨by omega, ?_⟩
    rw [e]
    simp (disch := omega) only [nI_leI, nI_ltI, Tt_N, nI_clamp]
    split
    · rename_i h2
      refine ih (N - (s + 1)) _ _ _ (by omega) ⟨s + 1, by omega, rfl, rfl, fun l h3 h4 => ?_⟩
      rw [hx l h3 h4]
      show _ = nI (cn f l s + (if f s = l then 1 else 0))
      rw [if_neg (by omega)]; rfl
    · rename_i h2
      rw [if_neg (by omega)]
      refine ⟨by omega, by omega, ?_⟩
      refine ih (N - (s + 1)) _ _ _ (by omega) ⟨s + 1, by omega, rfl, rfl, fun l h3 h4 => ?_⟩
      show _ = nI (cn f l s + (if f s = l then 1 else 0))
      by_cases z : l = f s
      · rw [← z, pk_us, z, hx (f s) (by omega) (by omega), if_pos rfl, nI_add]
      · rw [pk_un z, hx l h3 h4, if_neg (fun q => z q.symm)]; rfl
/-- the reference's code of a symbol -/
theorem t_codeOf {N0 a N s : Nat} {of : Nat → Int32} {f : Nat → Nat} {x1 x2 x3 : Int32} (h1 : x1 = nI a) (h2 : x2 = nI N) (h3 : x3 = nI s) (hN : a + N ≤ N0) (hN0 : N0 ≤ 339) (hs : s < N) (hL : ∀ i, i < N → of (a + i) = nI (f i)) (hf : ∀ i, i < N → f i ≤ 15) (h0 : 0 < f s) : Tt (M_codeOf 200000 N0 of x1 x2 x3) (fun u => u.1 = nI (cde f N s)) := by
  subst h1 h2 h3
  have hfs := hf s hs
  unfold M_codeOf
  refine Tt_W2 (fun m x4 x5 => ∃ l, 1 ≤ l ∧ l ≤ f s + 1 ∧ x5 = nI l ∧ m = f s + 1 - l ∧ x4 = nI (if l = f s + 1 then cde f N s else bs f N (l - 1) + (if l - 1 = 0 then 0 else cn f (l - 1) N))) ?_ 200000 (f s) 0 1 (by omega) ⟨1, by omega, by omega, rfl, by omega, by rw [if_neg (by omega)]; rfl⟩
  rintro K m x4 x5 ⟨l, hl1, hl2, rfl, rfl, rfl⟩ ih
  unfold M_codeOf_6
  simp (disch := omega) only [Tt_L, Tt_S, Tt_C, Tt_Z, Tt_R0, Tt_R1, Tt_R2, Tt_R3, Tt_R4, Tt_R5, q10, eq_self, if_true, if_false, i_0, i_1, i_2, i_3, i_4, i_5, i_6, i_7, i_8, i_9, i_10, i_11, i_13, i_14, i_15, i_16, i_17, i_18, i_19, i_24, i_29, i_30, i_31, i_32, i_138, i_143, i_144, i_254, i_255, i_256, i_257, i_258, i_261, i_264, i_265, i_279, i_280, i_284, i_285, i_286, i_288, i_319, i_320, i_338, i_339, i_575, i_576, i_599, i_600, i_4096, i_8191, i_8192, i_8249, i_8250, i_8256, i_9000, i_16384, i_32767, i_32768, i_65520, i_65521, i_65535, i_65536, i_65999, i_66000, i_1300, i_120, i_156, nI_add, Tt_N, nI_clamp, hL s hs, nI_ltI, pk_mul]
  refine ⟨by omega, ?_⟩
  split
  · rename_i h1
    rw [if_pos (by omega)]
  · rename_i h1
    rw [if_neg (by omega)]
    have e1 : 2 * (bs f N (l - 1) + (if l - 1 = 0 then 0 else cn f (l - 1) N)) = bs f N l := by
      have : bs f N ((l - 1) + 1) = 2 * (bs f N (l - 1) + (if l - 1 = 0 then 0 else cn f (l - 1) N)) := rfl
      rw [← this, show l - 1 + 1 = l by omega]
    rw [e1]
    have bb := @bs_b f N l (by omega) (by omega)
    refine Tt_W3 (fun m x4 x5 x6 => ∃ k, k ≤ N ∧ x6 = nI k ∧ x5 = nI l ∧ m = N - k ∧ x4 = nI (bs f N l + (if l < f s then cn f l k else cn f l (min k s)))) ?_ 200000 N _ _ 0 (by omega) ⟨0, by omega, rfl, rfl, rfl, by
      rw [show min 0 s = 0 by omega]
      show nI (bs f N l) = nI (bs f N l + (if l < f s then 0 else 0))
      split <;> rfl⟩
    rintro K2 m x4 x5 x6 ⟨k, hk, rfl, rfl, rfl, rfl⟩ ih2
    have step : ∀ (y : Nat), k < N → y = bs f N l + (if l < f s then cn f l (k + 1) else cn f l (min (k + 1) s)) → Tt (K2 (nI y) (nI l) (nI (k + 1))) (fun u => u.1 = nI (cde f N s)) := by
      intro y hkN hy
      exact ih2 (N - (k + 1)) _ _ _ (by omega) ⟨k + 1, by omega, rfl, rfl, rfl, by rw [hy]⟩
    unfold M_codeOf_25 M_codeOf_47 M_codeOf_52 M_codeOf_77 M_codeOf_79 M_codeOf_87
    by_cases hkN : N ≤ k
    · simp (disch := omega) only [Tt_L, Tt_S, Tt_C, Tt_Z, Tt_R0, Tt_R1, Tt_R2, Tt_R3, Tt_R4, Tt_R5, q10, eq_self, if_true, if_false, i_0, i_1, i_2, i_3, i_4, i_5, i_6, i_7, i_8, i_9, i_10, i_11, i_13, i_14, i_15, i_16, i_17, i_18, i_19, i_24, i_29, i_30, i_31, i_32, i_138, i_143, i_144, i_254, i_255, i_256, i_257, i_258, i_261, i_264, i_265, i_279, i_280, i_284, i_285, i_286, i_288, i_319, i_320, i_338, i_339, i_575, i_576, i_599, i_600, i_4096, i_8191, i_8192, i_8249, i_8250, i_8256, i_9000, i_16384, i_32767, i_32768, i_65520, i_65521, i_65535, i_65536, i_65999, i_66000, i_1300, i_120, i_156, nI_add, nI_leI, hkN, if_true]
      refine ih (f s + 1 - (l + 1)) _ _ (by omega) ⟨l + 1, by omega, by omega, rfl, rfl, ?_⟩
      congr 1
      have ek : k = N := by omega
      by_cases z : l < f s
      · rw [if_pos z, if_neg (by omega), show l + 1 - 1 = l by omega, if_neg (by omega), ek]
      · rw [if_neg z, if_pos (by omega)]
        have : l = f s := by omega
        unfold cde
        rw [this, show min k s = s by omega]
    · have ek := hL k (by omega)
      have bk := hf k (by omega)
      simp (disch := omega) only [Tt_L, Tt_S, Tt_C, Tt_Z, Tt_R0, Tt_R1, Tt_R2, Tt_R3, Tt_R4, Tt_R5, q10, eq_self, if_true, if_false, i_0, i_1, i_2, i_3, i_4, i_5, i_6, i_7, i_8, i_9, i_10, i_11, i_13, i_14, i_15, i_16, i_17, i_18, i_19, i_24, i_29, i_30, i_31, i_32, i_138, i_143, i_144, i_254, i_255, i_256, i_257, i_258, i_261, i_264, i_265, i_279, i_280, i_284, i_285, i_286, i_288, i_319, i_320, i_338, i_339, i_575, i_576, i_599, i_600, i_4096, i_8191, i_8192, i_8249, i_8250, i_8256, i_9000, i_16384, i_32767, i_32768, i_65520, i_65521, i_65535, i_65536, i_65999, i_66000, i_1300, i_120, i_156, nI_add, Tt_N, nI_clamp, hL s hs, ek, nI_ltI, nI_leI, nI_eq]
      rw [if_neg hkN]
      refine ⟨by omega, ?_⟩
      have ck : cn f l (k + 1) = cn f l k + (if f k = l then 1 else 0) := rfl
      by_cases z : l < f s
      · rw [if_pos z]
        refine ⟨by omega, ?_⟩
        by_cases y : f k = l
        · rw [if_pos y]
          refine step _ (by omega) ?_
          rw [if_pos z, if_pos z, ck, if_pos y]
          omega
        · rw [if_neg y]
          refine step _ (by omega) ?_
          rw [if_pos z, if_pos z, ck, if_neg y]
          rfl
      · rw [if_neg z]
        by_cases y2 : s ≤ k
        · rw [if_pos y2]
          have e5 : min (k + 1) s = min k s := by omega
          by_cases y : f k = l
          · refine ⟨by omega, ?_⟩
            rw [if_pos y]
            refine step _ (by omega) ?_
            rw [if_neg z, if_neg z, e5]
          · refine ⟨by omega, ?_⟩
            rw [if_neg y]
            refine step _ (by omega) ?_
            rw [if_neg z, if_neg z, e5]
        · rw [if_neg y2]
          have e5 : min (k + 1) s = k + 1 := by omega
          have e6 : min k s = k := by omega
          refine ⟨by omega, ?_⟩
          by_cases y : f k = l
          · rw [if_pos y]
            refine step _ (by omega) ?_
            rw [if_neg z, if_neg z, e5, e6, ck, if_pos y]
            omega
          · rw [if_neg y]
            refine step _ (by omega) ?_
            rw [if_neg z, if_neg z, e5, e6, ck, if_neg y]
            rfl
/-- the reference's codes -/
theorem t_makeCodes {N0 a N : Nat} {of codes : Nat → Int32} {f : Nat → Nat} {x2 x3 : Int32} (h1 : x2 = nI a) (h2 : x3 = nI N) (hN : a + N ≤ N0) (hN0 : N0 ≤ 339) (hL : ∀ i, i < N → of (a + i) = nI (f i)) (hf : ∀ i, i < N → f i ≤ 15) : Tt (M_makeCodes 200000 N0 of codes x2 x3) (fun u => (∀ s, s < N → 0 < f s → u.2 (a + s) = nI (cde f N s)) ∧ ∀ i, (i < a ∨ a + N ≤ i) → u.2 i = codes i) := by
  subst h1 h2
  unfold M_makeCodes
  refine Tt_W2 (fun m c x4 => ∃ s, s ≤ N ∧ x4 = nI s ∧ m = N - s ∧ (∀ t, t < s → 0 < f t → c (a + t) = nI (cde f N t)) ∧ ∀ i, (i < a ∨ a + N ≤ i) → c i = codes i) ?_ 200000 N codes 0 (by omega) ⟨0, by omega, rfl, rfl, fun t h => by omega, fun i _ => rfl⟩
  rintro K m c x4 ⟨s, hs, rfl, rfl, hc, ho⟩ ih
  unfold M_makeCodes_3 M_makeCodes_38
  by_cases hsN : N ≤ s
  · simp (disch := omega) only [Tt_L, Tt_S, Tt_C, Tt_Z, Tt_R0, Tt_R1, Tt_R2, Tt_R3, Tt_R4, Tt_R5, q10, eq_self, if_true, if_false, nI_leI, hsN, if_true]
    exact ⟨fun t ht h => hc t (by omega) h, ho⟩
  · have es := hL s (by omega)
    have bs' := hf s (by omega)
    simp (disch := omega) only [Tt_L, Tt_S, Tt_C, Tt_Z, Tt_R0, Tt_R1, Tt_R2, Tt_R3, Tt_R4, Tt_R5, q10, eq_self, if_true, if_false, i_0, i_1, i_2, i_3, i_4, i_5, i_6, i_7, i_8, i_9, i_10, i_11, i_13, i_14, i_15, i_16, i_17, i_18, i_19, i_24, i_29, i_30, i_31, i_32, i_138, i_143, i_144, i_254, i_255, i_256, i_257, i_258, i_261, i_264, i_265, i_279, i_280, i_284, i_285, i_286, i_288, i_319, i_320, i_338, i_339, i_575, i_576, i_599, i_600, i_4096, i_8191, i_8192, i_8249, i_8250, i_8256, i_9000, i_16384, i_32767, i_32768, i_65520, i_65521, i_65535, i_65536, i_65999, i_66000, i_1300, i_120, i_156, nI_add, Tt_N, nI_clamp, nI_leI, es]
    rw [if_neg hsN]
    refine ⟨by omega, ?_⟩
    by_cases z : f s ≤ 0
    · rw [if_pos z]
      refine ⟨by omega, ih (N - (s + 1)) _ _ (by omega) ⟨s + 1, by omega, rfl, rfl, fun t ht h => ?_, fun i hi => ?_⟩⟩
      · by_cases e : t = s
        · subst e; omega
        · rw [pk_un (by omega)]; exact hc t (by omega) h
      · rw [pk_un (by omega)]; exact ho i hi
    · rw [if_neg z]
      refine Tt_m (t_codeOf (s := s) rfl rfl rfl hN hN0 (by omega) hL hf (by omega)) ?_
      rintro ⟨r, _⟩ hr
      have hr' : r = nI (cde f N s) := hr
      subst hr'
      refine ⟨by omega, ih (N - (s + 1)) _ _ (by omega) ⟨s + 1, by omega, rfl, rfl, fun t ht h => ?_, fun i hi => ?_⟩⟩
      · by_cases e : t = s
        · subst e; rw [pk_us]
        · rw [pk_un (by omega)]; exact hc t (by omega) h
      · rw [pk_un (by omega)]; exact ho i hi
