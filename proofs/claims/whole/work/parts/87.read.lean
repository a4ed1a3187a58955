/-! bits read -/
/-- bit p of the bytes from a place on -/
def sB (b : Nat → Nat) (a p : Nat) : Nat := b (a + p / 8) / 2 ^ (p % 8) % 2
theorem sB_lt (b : Nat → Nat) (a p : Nat) : sB b a p < 2 := Nat.mod_lt _ (by omega)
def num (src : Nat → Nat) (p : Nat) : Nat → Nat
  | 0 => 0
  | k + 1 => num src p k + src (p + k) * 2 ^ k
theorem num_lt {src : Nat → Nat} (hs : ∀ i, src i < 2) (p : Nat) : ∀ k, num src p k < 2 ^ k := by
  intro k
  induction k with
  | zero => exact Nat.one_pos
  | succ k ih =>
    show num src p k + src (p + k) * 2 ^ k < 2 ^ (k + 1)
    have h1 := hs (p + k)
    have h2 : src (p + k) * 2 ^ k ≤ 1 * 2 ^ k := Nat.mul_le_mul_right _ (by omega)
    rw [Nat.pow_succ]
    omega
theorem b_low : ∀ v, v < 256 → ∀ t, t < 8 → (sx v >>> (nI t &&& nI 31)) &&& nI 1 = nI (v / 2 ^ t % 2) := by
  have h : ∀ v, v < 256 → (sx v >>> (nI 0 &&& nI 31)) &&& nI 1 = nI (v / 2 ^ 0 % 2) ∧ (sx v >>> (nI 1 &&& nI 31)) &&& nI 1 = nI (v / 2 ^ 1 % 2) ∧ (sx v >>> (nI 2 &&& nI 31)) &&& nI 1 = nI (v / 2 ^ 2 % 2) ∧ (sx v >>> (nI 3 &&& nI 31)) &&& nI 1 = nI (v / 2 ^ 3 % 2) ∧ (sx v >>> (nI 4 &&& nI 31)) &&& nI 1 = nI (v / 2 ^ 4 % 2) ∧ (sx v >>> (nI 5 &&& nI 31)) &&& nI 1 = nI (v / 2 ^ 5 % 2) ∧ (sx v >>> (nI 6 &&& nI 31)) &&& nI 1 = nI (v / 2 ^ 6 % 2) ∧ (sx v >>> (nI 7 &&& nI 31)) &&& nI 1 = nI (v / 2 ^ 7 % 2) := by decide +kernel
  intro v hv t ht
  obtain ⟨h0, h1, h2, h3, h4, h5, h6, h7⟩ := h v hv
  have : t = 0 ∨ t = 1 ∨ t = 2 ∨ t = 3 ∨ t = 4 ∨ t = 5 ∨ t = 6 ∨ t = 7 := by omega
  rcases this with rfl | rfl | rfl | rfl | rfl | rfl | rfl | rfl
  · exact h0
  · exact h1
  · exact h2
  · exact h3
  · exact h4
  · exact h5
  · exact h6
  · exact h7
/-- the program reads a number of k bits -/
theorem t_numC {c : Nat → Int32} {b : Nat → Nat} {len a M p k : Nat} {ve vl va x1 : Int32} (h : Row c 0 len b) (hlen : len ≤ 66000) (hM : M ≤ 8 * (len - a)) (ha : a ≤ len) (hp : p ≤ M) (hk : k ≤ 16) (h1 : ve = nI (8 * a + M)) (h2 : vl = nI len) (h3 : va = nI (8 * a + p)) (h4 : x1 = nI k) : Tt (BitReader_number 200000 66000 ve vl c va x1) (fun u => if p + k ≤ M then u.1 = nI (num (sB b a) p k) ∧ u.2 = nI (8 * a + (p + k)) else u.1 = -1 ∧ u.2 = nI (8 * a + p)) := by
  subst h1 h2 h3 h4
  have ed : nI (8 * a + M) - nI (8 * a + p) = nI (M - p) := by rw [pk_sub (by omega)]; congr 1; omega
  unfold BitReader_number
  simp (disch := omega) only [Tt_C, Tt_S, i_0, n_neg, if_false, ed, nI_leI]
  by_cases z : p + k ≤ M
  · rw [if_pos (by omega), if_pos z]
    refine Tt_W3 (fun mm va x2 x3 => ∃ j, j ≤ k ∧ mm = k - j ∧ va = nI (8 * a + (p + j)) ∧ x2 = nI (num (sB b a) p j) ∧ x3 = nI j) ?_ 200000 k _ _ _ (by omega) ⟨0, by omega, rfl, rfl, rfl, rfl⟩
    rintro K mm va x2 x3 ⟨j, hj, rfl, rfl, rfl, rfl⟩ ih
    have nl := num_lt (sB_lt b a) p j
    have nk : 2 ^ j ≤ 2 ^ 16 := Nat.pow_le_pow_right (by omega) (by omega)
    unfold BitReader_number_23
    by_cases y : k ≤ j
    · simp (disch := omega) only [Tt_C, Tt_S, nI_leI]
      have : j = k := by omega
      subst this
      rw [if_pos y]
      exact ⟨rfl, rfl⟩
    · have g0 := @e_at 200000 66000 len (a + (p + j) / 8) c b (nI (a + (p + j) / 8)) (nI len) h hlen (by omega) (by omega) rfl rfl
      have z0 : bz b len (a + (p + j) / 8) = b (a + (p + j) / 8) := if_pos (by omega)
      rw [z0] at g0
      have b0 := h.2 (a + (p + j) / 8)
      have q1 : (8 * a + (p + j)) / 2 ^ 3 = a + (p + j) / 8 := by omega
      have q2 : (8 * a + (p + j)) % 8 = (p + j) % 8 := by omega
      have q3 : b (a + (p + j) / 8) / 2 ^ ((p + j) % 8) % 2 = sB b a (p + j) := rfl
      have q4 := sB_lt b a (p + j)
      have q5 : sB b a (p + j) * 2 ^ j ≤ 1 * 2 ^ j := Nat.mul_le_mul_right _ (by omega)
      simp (disch := omega) only [Tt_L, Tt_S, Tt_C, Tt_Z, Tt_R0, Tt_R1, Tt_R2, Tt_R3, Tt_R4, Tt_R5, q10, eq_self, if_true, if_false, i_0, i_1, i_2, i_3, i_4, i_5, i_6, i_7, i_8, i_9, i_10, i_11, i_13, i_14, i_15, i_16, i_17, i_18, i_19, i_24, i_29, i_30, i_31, i_32, i_138, i_143, i_144, i_254, i_255, i_256, i_257, i_258, i_261, i_264, i_265, i_279, i_280, i_284, i_285, i_286, i_288, i_319, i_320, i_338, i_339, i_575, i_576, i_599, i_600, i_4096, i_8191, i_8192, i_8249, i_8250, i_8256, i_9000, i_16384, i_32767, i_32768, i_65520, i_65521, i_65535, i_65536, i_65999, i_66000, i_1300, i_120, i_156, nI_leI, n_shr, n_7, q1, q2, g0, n_1, q3, n_shl, nI_add]
      rw [if_neg y, n_ord nl]
      exact ih (k - (j + 1)) _ _ _ (by omega) ⟨j + 1, by omega, rfl, rfl, rfl, rfl⟩
  · rw [if_neg (by omega), if_neg z]
    exact ⟨rfl, rfl⟩
/-- the reference reads a bit -/
theorem t_bitM {c : Nat → Int32} {b : Nat → Nat} {len a M p wr : Nat} {vf vb vr vw : Int32} (h : Row c 0 len b) (hlen : len ≤ 66000) (hM : M ≤ 8 * (len - a)) (ha : a ≤ len) (hp : p ≤ M) (hw : wr ≤ 1) (h1 : vf = nI a) (h2 : vb = nI M) (h3 : vr = nI p) (h4 : vw = nI wr) : Tt (M_readBit 200000 66000 vf vb c vr vw) (fun u => if wr = 0 ∧ p < M then u = (nI (sB b a p), nI (p + 1), nI 0) else u = (nI 0, nI p, nI 1)) := by
  subst h1 h2 h3 h4
  unfold M_readBit M_readBit_19 M_readBit_24
  by_cases z : wr = 0
  · subst z
    by_cases y : p = M
    · subst y
      simp (disch := omega) only [Tt_L, Tt_S, Tt_C, Tt_Z, Tt_R0, Tt_R1, Tt_R2, Tt_R3, Tt_R4, Tt_R5, q10, eq_self, if_true, if_false, i_0, i_1, i_2, i_3, i_4, i_5, i_6, i_7, i_8, i_9, i_10, i_11, i_13, i_14, i_15, i_16, i_17, i_18, i_19, i_24, i_29, i_30, i_31, i_32, i_138, i_143, i_144, i_254, i_255, i_256, i_257, i_258, i_261, i_264, i_265, i_279, i_280, i_284, i_285, i_286, i_288, i_319, i_320, i_338, i_339, i_575, i_576, i_599, i_600, i_4096, i_8191, i_8192, i_8249, i_8250, i_8256, i_9000, i_16384, i_32767, i_32768, i_65520, i_65521, i_65535, i_65536, i_65999, i_66000, i_1300, i_120, i_156, nI_eq]
      rw [if_neg (by omega)]
      simp only [or_true, true_and]
    · have e0 := h.1 (a + p / 8) (by omega)
      rw [Nat.zero_add] at e0
      have b0 := b_low (b (a + p / 8)) (h.2 _) (p % 8) (by omega)
      have q3 : b (a + p / 8) / 2 ^ (p % 8) % 2 = sB b a p := rfl
      simp (disch := omega) only [Tt_L, Tt_S, Tt_C, Tt_Z, Tt_R0, Tt_R1, Tt_R2, Tt_R3, Tt_R4, Tt_R5, q10, eq_self, if_true, if_false, i_0, i_1, i_2, i_3, i_4, i_5, i_6, i_7, i_8, i_9, i_10, i_11, i_13, i_14, i_15, i_16, i_17, i_18, i_19, i_24, i_29, i_30, i_31, i_32, i_138, i_143, i_144, i_254, i_255, i_256, i_257, i_258, i_261, i_264, i_265, i_279, i_280, i_284, i_285, i_286, i_288, i_319, i_320, i_338, i_339, i_575, i_576, i_599, i_600, i_4096, i_8191, i_8192, i_8249, i_8250, i_8256, i_9000, i_16384, i_32767, i_32768, i_65520, i_65521, i_65535, i_65536, i_65999, i_66000, i_1300, i_120, i_156, nI_eq, pk_div, pk_rem, nI_add, Tt_N, nI_clamp, e0, b0, q3]
      rw [if_neg y, if_pos ⟨rfl, by omega⟩]
      exact ⟨Or.inl trivial, by omega, rfl⟩
  · have w1 : wr = 1 := by omega
    subst w1
    simp (disch := omega) only [Tt_L, Tt_S, Tt_C, Tt_Z, Tt_R0, Tt_R1, Tt_R2, Tt_R3, Tt_R4, Tt_R5, q10, eq_self, if_true, if_false, i_0, i_1, i_2, i_3, i_4, i_5, i_6, i_7, i_8, i_9, i_10, i_11, i_13, i_14, i_15, i_16, i_17, i_18, i_19, i_24, i_29, i_30, i_31, i_32, i_138, i_143, i_144, i_254, i_255, i_256, i_257, i_258, i_261, i_264, i_265, i_279, i_280, i_284, i_285, i_286, i_288, i_319, i_320, i_338, i_339, i_575, i_576, i_599, i_600, i_4096, i_8191, i_8192, i_8249, i_8250, i_8256, i_9000, i_16384, i_32767, i_32768, i_65520, i_65521, i_65535, i_65536, i_65999, i_66000, i_1300, i_120, i_156, nI_eq]
    rw [if_neg (by omega)]
    simp only [or_true, true_and]
theorem t_numM {c : Nat → Int32} {b : Nat → Nat} {len a M p k wr : Nat} {vf vb vr vw x1 : Int32} (h : Row c 0 len b) (hlen : len ≤ 66000) (hM : M ≤ 8 * (len - a)) (ha : a ≤ len) (hp : p ≤ M) (hk : k ≤ 16) (hw : wr ≤ 1) (h1 : vf = nI a) (h2 : vb = nI M) (h3 : vr = nI p) (h4 : vw = nI wr) (h5 : x1 = nI k) : Tt (M_readNumber 200000 66000 vf vb c vr vw x1) (fun u => ∃ v p' wr', u = (nI v, nI p', nI wr') ∧ v < 2 ^ k ∧ p ≤ p' ∧ p' ≤ M ∧ wr' ≤ 1 ∧ (wr = 0 → p + k ≤ M → v = num (sB b a) p k ∧ p' = p + k ∧ wr' = 0) ∧ ((wr = 1 ∨ M < p + k) → wr' = 1 ∨ k = 0 ∧ wr' = wr)) := by
  subst h1 h2 h3 h4 h5
  unfold M_readNumber
  refine Tt_W4 (fun mm vr vw x2 x3 => ∃ j v p' wr', j ≤ k ∧ mm = k - j ∧ x3 = nI j ∧ vr = nI p' ∧ vw = nI wr' ∧ x2 = nI v ∧ v < 2 ^ j ∧ p ≤ p' ∧ p' ≤ M ∧ wr' ≤ 1 ∧ (wr = 0 → p + j ≤ M → v = num (sB b a) p j ∧ p' = p + j ∧ wr' = 0) ∧ ((wr = 1 ∨ M < p + j) → wr' = 1 ∨ j = 0 ∧ wr' = wr)) ?_ 200000 k _ _ _ _ (by omega) ⟨0, 0, p, wr, by omega, rfl, rfl, rfl, rfl, rfl, by omega, by omega, hp, hw, fun q _ => ⟨rfl, rfl, q⟩, fun _ => Or.inr ⟨rfl, rfl⟩⟩
  rintro K mm vr vw x2 x3 ⟨j, v, p', wr', hj, rfl, rfl, rfl, rfl, rfl, hv, hp1, hp2, hw', hg, hb⟩ ih
  have nk : 2 ^ j ≤ 2 ^ 16 := Nat.pow_le_pow_right (by omega) (by omega)
  unfold M_readNumber_4
  by_cases y : k ≤ j
  · simp (disch := omega) only [Tt_C, Tt_S, nI_leI]
    have : j = k := by omega
    subst this
    rw [if_pos y]
    exact ⟨v, p', wr', rfl, hv, hp1, hp2, hw', hg, hb⟩
  · simp (disch := omega) only [Tt_C, Tt_R2, nI_leI]
    rw [if_neg y]
    refine Tt_m (t_bitM h hlen hM ha hp2 hw' rfl rfl rfl rfl) ?_
    rintro ⟨r, vr2, vw2⟩ hu
    have pj : 2 ^ (j + 1) = 2 ^ j * 2 := Nat.pow_succ 2 j
    by_cases z : wr' = 0 ∧ p' < M
    · rw [if_pos z] at hu
      have q4 := sB_lt b a p'
      have q5 : sB b a p' * 2 ^ j ≤ 1 * 2 ^ j := Nat.mul_le_mul_right _ (by omega)
      obtain ⟨rfl, rfl, rfl⟩ : r = nI (sB b a p') ∧ vr2 = nI (p' + 1) ∧ vw2 = nI 0 := by
        have e1 := congrArg Prod.fst hu
        have e2 := congrArg (fun z => z.2.1) hu
        have e3 := congrArg (fun z => z.2.2) hu
        exact ⟨e1, e2, e3⟩
      simp (disch := omega) only [Tt_L, i_0, i_1, i_2, i_3, i_4, i_5, i_6, i_7, i_8, i_9, i_10, i_11, i_13, i_14, i_15, i_16, i_17, i_18, i_19, i_24, i_29, i_30, i_31, i_32, i_138, i_143, i_144, i_254, i_255, i_256, i_257, i_258, i_261, i_264, i_265, i_279, i_280, i_284, i_285, i_286, i_288, i_319, i_320, i_338, i_339, i_575, i_576, i_599, i_600, i_4096, i_8191, i_8192, i_8249, i_8250, i_8256, i_9000, i_16384, i_32767, i_32768, i_65520, i_65521, i_65535, i_65536, i_65999, i_66000, i_1300, i_120, i_156, nI_add, n_shl]
      rw [n_ord hv]
      refine ih (k - (j + 1)) _ _ _ _ (by omega) ⟨j + 1, v + sB b a p' * 2 ^ j, p' + 1, 0, by omega, rfl, rfl, rfl, rfl, rfl, by omega, by omega, by omega, by omega, fun w0 hpm => ?_, fun q => ?_⟩
      · obtain ⟨g1, g2, g3⟩ := hg w0 (by omega)
        rw [g1, g2]
        exact ⟨rfl, by omega, rfl⟩
      · exfalso
        rcases q with q | q
        · rcases hb (Or.inl q) with g | g
          · omega
          · omega
        · by_cases w : wr = 0
          · by_cases q2 : p + j ≤ M
            · have := (hg w q2).2.1
              omega
            · rcases hb (Or.inr (by omega)) with g | g
              · omega
              · omega
          · rcases hb (Or.inl (by omega)) with g | g
            · omega
            · omega
    · rw [if_neg z] at hu
      obtain ⟨rfl, rfl, rfl⟩ : r = nI 0 ∧ vr2 = nI p' ∧ vw2 = nI 1 := by
        have e1 := congrArg Prod.fst hu
        have e2 := congrArg (fun z => z.2.1) hu
        have e3 := congrArg (fun z => z.2.2) hu
        exact ⟨e1, e2, e3⟩
      simp (disch := omega) only [Tt_L, i_0, i_1, i_2, i_3, i_4, i_5, i_6, i_7, i_8, i_9, i_10, i_11, i_13, i_14, i_15, i_16, i_17, i_18, i_19, i_24, i_29, i_30, i_31, i_32, i_138, i_143, i_144, i_254, i_255, i_256, i_257, i_258, i_261, i_264, i_265, i_279, i_280, i_284, i_285, i_286, i_288, i_319, i_320, i_338, i_339, i_575, i_576, i_599, i_600, i_4096, i_8191, i_8192, i_8249, i_8250, i_8256, i_9000, i_16384, i_32767, i_32768, i_65520, i_65521, i_65535, i_65536, i_65999, i_66000, i_1300, i_120, i_156, nI_add, n_shl]
      rw [n_ord hv, Nat.zero_mul, Nat.add_zero]
      refine ih (k - (j + 1)) _ _ _ _ (by omega) ⟨j + 1, v, p', 1, by omega, rfl, rfl, rfl, rfl, rfl, by omega, hp1, hp2, by omega, fun w0 hpm => ?_, fun _ => Or.inl rfl⟩
      exfalso
      obtain ⟨g1, g2, g3⟩ := hg w0 (by omega)
      exact z ⟨g3, by omega⟩
/-! symbols read -/
def nth (f : Nat → Nat) (l r : Nat) : Nat → Nat
  | 0 => 0
  | n + 1 => if f n = l ∧ cn f l n = r then n else nth f l r n
theorem nth_ok {f : Nat → Nat} {l r : Nat} : ∀ {n : Nat}, r < cn f l n → nth f l r n < n ∧ f (nth f l r n) = l ∧ cn f l (nth f l r n) = r := by
  intro n
  induction n with
  | zero => intro h; exact absurd h (Nat.not_lt_zero r)
  | succ n ih =>
    intro h
    have h' : r < cn f l n + (if f n = l then 1 else 0) := h
    by_cases z : f n = l ∧ cn f l n = r
    · have e : nth f l r (n + 1) = n := if_pos z
      rw [e]
      exact ⟨by omega, z.1, z.2⟩
    · have e : nth f l r (n + 1) = nth f l r n := if_neg z
      rw [e]
      have : r < cn f l n := by
        by_cases y : f n = l
        · rw [if_pos y] at h'
          have : cn f l n ≠ r := fun q => z ⟨y, q⟩
          omega
        · rw [if_neg y] at h'
          omega
      obtain ⟨g1, g2, g3⟩ := ih this
      exact ⟨by omega, g2, g3⟩
def dgo (f : Nat → Nat) (n : Nat) (src : Nat → Nat) (M : Nat) : Nat → Nat → Nat → Nat → Option (Nat × Nat)
  | 0, _, _, _ => none
  | k + 1, l, x, p => if M ≤ p then none else if 2 * x + src p < bs f n (l + 1) + cn f (l + 1) n then some (nth f (l + 1) (2 * x + src p - bs f n (l + 1)) n, p + 1) else dgo f n src M k (l + 1) (2 * x + src p) (p + 1)
/-- the symbol whose code comes next, and the place behind it -/
def dcd (f : Nat → Nat) (n : Nat) (src : Nat → Nat) (M p : Nat) : Option (Nat × Nat) := dgo f n src M 15 0 0 p
theorem dgo_b {f : Nat → Nat} {n : Nat} {src : Nat → Nat} {M : Nat} : ∀ k l x p s p', bs f n (l + 1) ≤ 2 * x → dgo f n src M k l x p = some (s, p') → s < n ∧ p < p' ∧ p' ≤ M ∧ 0 < f s := by
  intro k
  induction k with
  | zero => intro l x p s p' _ h; cases h
  | succ k ih =>
    intro l x p s p' hx h
    have h' : (if M ≤ p then none else if 2 * x + src p < bs f n (l + 1) + cn f (l + 1) n then some (nth f (l + 1) (2 * x + src p - bs f n (l + 1)) n, p + 1) else dgo f n src M k (l + 1) (2 * x + src p) (p + 1)) = some (s, p') := h
    by_cases z : M ≤ p
    · rw [if_pos z] at h'; cases h'
    · rw [if_neg z] at h'
      by_cases y : 2 * x + src p < bs f n (l + 1) + cn f (l + 1) n
      · rw [if_pos y] at h'
        have e := Option.some.inj h'
        have e1 := congrArg Prod.fst e
        have e2 := congrArg Prod.snd e
        dsimp only at e1 e2
        have o := @nth_ok f (l + 1) (2 * x + src p - bs f n (l + 1)) n (by omega)
        rw [e1] at o
        exact ⟨o.1, by omega, by omega, by omega⟩
      · rw [if_neg y] at h'
        have eb : bs f n (l + 1 + 1) = 2 * (bs f n (l + 1) + cn f (l + 1) n) := by
          show 2 * (bs f n (l + 1) + (if l + 1 = 0 then 0 else cn f (l + 1) n)) = _
          rw [if_neg (by omega)]
        have := ih (l + 1) _ (p + 1) s p' (by omega) h'
        exact ⟨this.1, by omega, this.2.2.1, this.2.2.2⟩
theorem dgo_no {f : Nat → Nat} {n : Nat} {src : Nat → Nat} {M : Nat} (hs : ∀ i, src i < 2) : ∀ k l x p, bs f n (l + 1) ≤ 2 * x → ¬ inI f n 16 0 l x → l + k ≤ 15 → dgo f n src M k l x p = none := by
  intro k
  induction k with
  | zero => intro l x p _ _ _; rfl
  | succ k ih =>
    intro l x p hx hno hk
    have sp := hs p
    show (if M ≤ p then none else if 2 * x + src p < bs f n (l + 1) + cn f (l + 1) n then some (nth f (l + 1) (2 * x + src p - bs f n (l + 1)) n, p + 1) else dgo f n src M k (l + 1) (2 * x + src p) (p + 1)) = none
    by_cases z : M ≤ p
    · rw [if_pos z]
    · rw [if_neg z]
      have eb : bs f n (l + 1 + 1) = 2 * (bs f n (l + 1) + cn f (l + 1) n) := by
        show 2 * (bs f n (l + 1) + (if l + 1 = 0 then 0 else cn f (l + 1) n)) = _
        rw [if_neg (by omega)]
      by_cases y : 2 * x + src p < bs f n (l + 1) + cn f (l + 1) n
      · exfalso
        obtain ⟨o1, o2, o3⟩ := @nth_ok f (l + 1) (2 * x + src p - bs f n (l + 1)) n (by omega)
        apply hno
        refine ⟨_, ⟨o1, by omega, Or.inl (by omega)⟩, by omega, ?_⟩
        unfold cde
        rw [o2, o3, show l + 1 - l = 1 by omega]
        omega
      · rw [if_neg y]
        apply ih _ _ _ (by omega) _ (by omega)
        rintro ⟨x', i1, i2, i3⟩
        apply hno
        refine ⟨x', i1, by omega, ?_⟩
        have : cde f n x' / 2 ^ (f x' - l) = cde f n x' / 2 ^ (f x' - (l + 1)) / 2 := by
          rw [Nat.div_div_eq_div_mul, ← Nat.pow_succ, show f x' - (l + 1) + 1 = f x' - l by omega]
        rw [this, i3]
        omega
/-- a tree that reads the codes of lengths f -/
def TreeOK (next : Nat → Int32) (f : Nat → Nat) (n : Nat) : Prop := ∃ nodes path, nodes ≤ 400 ∧ TI next nodes path (lfI f n 16 0) (inI f n 16 0)
theorem t_symM {c next : Nat → Int32} {b f : Nat → Nat} {len a M p n : Nat} {vf vb vr vw : Int32} (h : Row c 0 len b) (hlen : len ≤ 66000) (hM : M ≤ 8 * (len - a)) (ha : a ≤ len) (hp : p ≤ M) (hn : n ≤ 288) (hf : ∀ i, i < n → f i ≤ 15) (hT : TreeOK next f n) (h1 : vf = nI a) (h2 : vb = nI M) (h3 : vr = nI p) (h4 : vw = nI 0) : Tt (M_readSymbol 200000 66000 vf vb c next vr vw) (fun u => (∀ s p', dcd f n (sB b a) M p = some (s, p') → u = (nI s, nI p', nI 0)) ∧ (dcd f n (sB b a) M p = none → ∃ p', p ≤ p' ∧ p' ≤ M ∧ u = (nI 0, nI p', nI 1))) := by
  subst h1 h2 h3 h4
  obtain ⟨nodes, path, hnd, hTI⟩ := hT
  have hTI' := hTI
  obtain ⟨t1, t2, t3, t4, t5⟩ := hTI'
  unfold M_readSymbol
  refine Tt_W3 (fun mm vr vw x2 => (∃ l x v p', l ≤ 14 ∧ mm = 16 - l ∧ vr = nI p' ∧ vw = nI 0 ∧ x2 = nI v ∧ v < nodes ∧ path v = (l, x) ∧ p ≤ p' ∧ p' ≤ M ∧ bs f n (l + 1) ≤ 2 * x ∧ x < 2 ^ l ∧ dgo f n (sB b a) M (15 - l) l x p' = dcd f n (sB b a) M p) ∨ (mm = 0 ∧ vw = nI 1 ∧ dcd f n (sB b a) M p = none ∧ ∃ p', p ≤ p' ∧ p' ≤ M ∧ vr = nI p')) ?_ 200000 16 _ _ _ (by omega) (Or.inl ⟨0, 0, 0, p, by omega, rfl, rfl, rfl, rfl, t2, t1, by omega, hp, Nat.le_refl 0, by omega, rfl⟩)
  rintro K mm vr vw x2 (⟨l, x, v, p', hl, rfl, rfl, rfl, rfl, hv, hpa, hp1, hp2, hbx, hx2, hD⟩ | ⟨rfl, rfl, hnone, p', hp1, hp2, rfl⟩) ih
  · unfold M_readSymbol_2 M_readSymbol_34 M_readSymbol_50
    simp (disch := omega) only [Tt_L, Tt_S, Tt_C, Tt_Z, Tt_R0, Tt_R1, Tt_R2, Tt_R3, Tt_R4, Tt_R5, q10, eq_self, if_true, if_false, i_0, i_1, i_2, i_3, i_4, i_5, i_6, i_7, i_8, i_9, i_10, i_11, i_13, i_14, i_15, i_16, i_17, i_18, i_19, i_24, i_29, i_30, i_31, i_32, i_138, i_143, i_144, i_254, i_255, i_256, i_257, i_258, i_261, i_264, i_265, i_279, i_280, i_284, i_285, i_286, i_288, i_319, i_320, i_338, i_339, i_575, i_576, i_599, i_600, i_4096, i_8191, i_8192, i_8249, i_8250, i_8256, i_9000, i_16384, i_32767, i_32768, i_65520, i_65521, i_65535, i_65536, i_65999, i_66000, i_1300, i_120, i_156]
    refine Tt_m (t_bitM h hlen hM ha hp2 (wr := 0) (by omega) rfl rfl rfl rfl) ?_
    rintro ⟨r, vr2, vw2⟩ hu
    have ek : 15 - l = (14 - l) + 1 := by omega
    rw [ek] at hD
    have hD' : (if M ≤ p' then none else if 2 * x + sB b a p' < bs f n (l + 1) + cn f (l + 1) n then some (nth f (l + 1) (2 * x + sB b a p' - bs f n (l + 1)) n, p' + 1) else dgo f n (sB b a) M (14 - l) (l + 1) (2 * x + sB b a p') (p' + 1)) = dcd f n (sB b a) M p := hD
    have fail : ∀ p'' y3, p ≤ p'' → p'' ≤ M → dcd f n (sB b a) M p = none → Tt (K (nI p'') (nI 1) y3) (fun u => (∀ s p', dcd f n (sB b a) M p = some (s, p') → u = (nI s, nI p', nI 0)) ∧ (dcd f n (sB b a) M p = none → ∃ p', p ≤ p' ∧ p' ≤ M ∧ u = (nI 0, nI p', nI 1))) := by
      intro p'' y3 q1 q2 q3
      exact ih 0 _ _ _ (by omega) (Or.inr ⟨rfl, rfl, q3, p'', q1, q2, rfl⟩)
    by_cases z : p' < M
    · rw [if_pos ⟨rfl, z⟩] at hu
      obtain ⟨rfl, rfl, rfl⟩ : r = nI (sB b a p') ∧ vr2 = nI (p' + 1) ∧ vw2 = nI 0 := ⟨congrArg Prod.fst hu, congrArg (fun z => z.2.1) hu, congrArg (fun z => z.2.2) hu⟩
      have sb := sB_lt b a p'
      rw [if_neg (by omega)] at hD'
      obtain ⟨a1, a2, a3⟩ := t5 v (sB b a p') hv sb
      rw [hpa] at a1 a2 a3
      dsimp only at a1 a2 a3
      simp (disch := omega) only [pk_mul, nI_add, Tt_N, nI_clamp]
      refine ⟨by omega, ?_⟩
      rw [if_pos rfl]
      by_cases y : 2 * x + sB b a p' < bs f n (l + 1) + cn f (l + 1) n
      · rw [if_pos y] at hD'
        obtain ⟨o1, o2, o3⟩ := @nth_ok f (l + 1) (2 * x + sB b a p' - bs f n (l + 1)) n (by omega)
        generalize nth f (l + 1) (2 * x + sB b a p' - bs f n (l + 1)) n = s at *
        have e := a1 s ⟨⟨o1, by omega, Or.inl (by omega)⟩, o2, by unfold cde; rw [o2, o3]; omega⟩
        have neg : nI 0 - nI (s + 1) < 0 := pk_sneg (by omega) (by omega)
        have ng2 : ¬ (nI 0 - nI (s + 1) = nI 0) := fun q => by rw [q] at neg; exact absurd neg (by decide)
        have ng3 : ¬ (nI 0 ≤ nI 0 - nI (s + 1)) := by
          intro q
          have q1 := Int32.lt_iff_toInt_lt.mp neg
          have q2 := Int32.le_iff_toInt_le.mp q
          have q3 : (nI 0).toInt = (0 : Int32).toInt := rfl
          omega
        rw [e, if_neg ng2, if_neg ng3]
        rw [← hD']
        refine ⟨fun s' p'' q => ?_, fun q => by cases q⟩
        have q' := Option.some.inj q
        have q1 := congrArg Prod.fst q'
        have q2 := congrArg Prod.snd q'
        dsimp only at q1 q2
        subst q1 q2
        have : -nI 1 - (nI 0 - nI (s + 1)) = nI s := by
          rw [← nI_1]
          have := n_it3 (nI s)
          have t : (nI 0 - (nI s + 1) : Int32) = -1 - nI s := this.symm
          rw [t]
          exact n_it1 _
        rw [this]
      · rw [if_neg y] at hD'
        have nolf : ¬ ∃ s, lfI f n 16 0 (l + 1) (2 * x + sB b a p') s := by
          rintro ⟨s, i1, i2, i3⟩
          have cm := @cn_mono f (f s) (s + 1) n (by have := i1.1; omega)
          rw [cn_s, i2] at cm
          unfold cde at i3
          rw [i2] at i3
          omega
        have eb : bs f n (l + 1 + 1) = 2 * (bs f n (l + 1) + cn f (l + 1) n) := by
          show 2 * (bs f n (l + 1) + (if l + 1 = 0 then 0 else cn f (l + 1) n)) = _
          rw [if_neg (by omega)]
        by_cases w : inI f n 16 0 (l + 1) (2 * x + sB b a p')
        · obtain ⟨w', w1, w2, w3, w4⟩ := a2 nolf w
          obtain ⟨x', i1, i2, i3⟩ := w
          have fx := hf x' i1.1
          rw [w3]
          simp (disch := omega) only [nI_eq, nI_leI]
          rw [if_neg (by omega), if_pos (by omega)]
          refine ih (16 - (l + 1)) _ _ _ (by omega) (Or.inl ⟨l + 1, 2 * x + sB b a p', w', p' + 1, by omega, rfl, rfl, rfl, rfl, w2, w4, by omega, by omega, by omega, ?_, ?_⟩)
          · rw [Nat.pow_succ]; omega
          · rw [show 15 - (l + 1) = 14 - l by omega]; exact hD'
        · have e := a3 nolf w
          rw [e, if_pos rfl]
          apply fail _ _ (by omega) (by omega)
          rw [← hD']
          exact dgo_no (sB_lt b a) _ _ _ _ (by omega) w (by omega)
    · rw [if_neg (fun q => z q.2)] at hu
      obtain ⟨rfl, rfl, rfl⟩ : r = nI 0 ∧ vr2 = nI p' ∧ vw2 = nI 1 := ⟨congrArg Prod.fst hu, congrArg (fun z => z.2.1) hu, congrArg (fun z => z.2.2) hu⟩
      rw [if_pos (by omega)] at hD'
      simp (disch := omega) only [pk_mul, nI_add, Tt_N, nI_clamp, nI_eq, q10, if_false]
      exact ⟨by omega, fail _ _ hp1 hp2 hD'.symm⟩
  · unfold M_readSymbol_2
    simp (disch := omega) only [Tt_L, Tt_S, Tt_C, Tt_Z, Tt_R0, Tt_R1, Tt_R2, Tt_R3, Tt_R4, Tt_R5, q10, eq_self, if_true, if_false, i_0, i_1, i_2, i_3, i_4, i_5, i_6, i_7, i_8, i_9, i_10, i_11, i_13, i_14, i_15, i_16, i_17, i_18, i_19, i_24, i_29, i_30, i_31, i_32, i_138, i_143, i_144, i_254, i_255, i_256, i_257, i_258, i_261, i_264, i_265, i_279, i_280, i_284, i_285, i_286, i_288, i_319, i_320, i_338, i_339, i_575, i_576, i_599, i_600, i_4096, i_8191, i_8192, i_8249, i_8250, i_8256, i_9000, i_16384, i_32767, i_32768, i_65520, i_65521, i_65535, i_65536, i_65999, i_66000, i_1300, i_120, i_156, nI_eq]
    exact ⟨fun s p'' q => by rw [hnone] at q; cases q, fun _ => ⟨p', hp1, hp2, rfl⟩⟩
/-! the program's table -/
def TabOK (counts symbols : Nat → Int32) (f : Nat → Nat) (n : Nat) : Prop := (∀ l, 1 ≤ l → l ≤ 15 → counts l = nI (cn f l n)) ∧ ∀ s, s < n → 0 < f s → symbols (lv f n (f s) + cn f (f s) s) = nI s
theorem t_symC {c counts symbols : Nat → Int32} {b f : Nat → Nat} {len a M p n N : Nat} {ve vl va : Int32} (h : Row c 0 len b) (hlen : len ≤ 66000) (hM : M ≤ 8 * (len - a)) (ha : a ≤ len) (hp : p ≤ M) (hn : n ≤ N) (hN : N ≤ 288) (hf : ∀ i, i < n → f i ≤ 15) (hT : TabOK counts symbols f n) (hK : krs f n 15 ≤ 32768) (h1 : ve = nI (8 * a + M)) (h2 : vl = nI len) (h3 : va = nI (8 * a + p)) : Tt (Table_next 200000 66000 N ve vl c counts symbols va) (fun u => (∀ s p', dcd f n (sB b a) M p = some (s, p') → u = (nI s, nI (8 * a + p'))) ∧ (dcd f n (sB b a) M p = none → ∃ p', p ≤ p' ∧ p' ≤ M ∧ u = (-1, nI (8 * a + p')))) := by
  subst h1 h2 h3
  unfold Table_next
  refine Tt_W5 (fun mm va x2 x3 x4 x5 => ∃ l x p', l ≤ 15 ∧ mm = 15 - l ∧ va = nI (8 * a + p') ∧ x2 = nI x ∧ x3 = nI (bs f n (l + 1)) ∧ x4 = nI (lv f n (l + 1)) ∧ x5 = nI (l + 1) ∧ p ≤ p' ∧ p' ≤ M ∧ bs f n (l + 1) ≤ 2 * x ∧ x < 2 ^ l ∧ dgo f n (sB b a) M (15 - l) l x p' = dcd f n (sB b a) M p) ?_ 200000 15 _ _ _ _ _ (by omega) ⟨0, 0, p, by omega, rfl, rfl, rfl, rfl, rfl, rfl, by omega, hp, Nat.le_refl 0, by omega, rfl⟩
  rintro K mm va x2 x3 x4 x5 ⟨l, x, p', hl, rfl, rfl, rfl, rfl, rfl, rfl, hp1, hp2, hbx, hx2, hD⟩ ih
  unfold Table_next_10
  by_cases z : l = 15
  · subst z
    simp only [Tt_C, Tt_S]
    rw [if_pos (by decide)]
    have hD' : none = dcd f n (sB b a) M p := hD
    rw [← hD']
    exact ⟨fun s p'' q => by cases q, fun _ => ⟨p', hp1, hp2, rfl⟩⟩
  · have ek : 15 - l = (14 - l) + 1 := by omega
    rw [ek] at hD
    have hD' : (if M ≤ p' then none else if 2 * x + sB b a p' < bs f n (l + 1) + cn f (l + 1) n then some (nth f (l + 1) (2 * x + sB b a p' - bs f n (l + 1)) n, p' + 1) else dgo f n (sB b a) M (14 - l) (l + 1) (2 * x + sB b a p') (p' + 1)) = dcd f n (sB b a) M p := hD
    have x15 : 2 ^ l ≤ 2 ^ 14 := Nat.pow_le_pow_right (by omega) (by omega)
    simp (disch := omega) only [Tt_C, Tt_R1, i_15, nI_ltI]
    rw [if_neg (by omega)]
    refine Tt_m (t_numC h hlen hM ha hp2 (k := 1) (by omega) rfl rfl rfl rfl) ?_
    rintro ⟨r, va2⟩ hu
    dsimp only at hu ⊢
    by_cases y : p' + 1 ≤ M
    · rw [if_pos y] at hu
      obtain ⟨rfl, rfl⟩ := hu
      have sb := sB_lt b a p'
      have e1 : num (sB b a) p' 1 = sB b a p' := by
        show 0 + sB b a (p' + 0) * 2 ^ 0 = _
        rw [Nat.add_zero]
        omega
      rw [e1]
      rw [if_neg (by omega)] at hD'
      have hc := hT.1 (l + 1) (by omega) (by omega)
      have fl := @full_le f n (l + 1) hK (by omega) (by omega)
      have fl2 : 2 ^ (l + 1) = 2 ^ l * 2 := Nat.pow_succ 2 l
      have lvn := lv_le f n (l + 1 + 1)
      have lv2 : lv f n (l + 1 + 1) = lv f n (l + 1) + cn f (l + 1) n := by
        show lv f n (l + 1) + (if l + 1 = 0 then 0 else cn f (l + 1) n) = _
        rw [if_neg (by omega)]
      have eb : bs f n (l + 1 + 1) = 2 * (bs f n (l + 1) + cn f (l + 1) n) := by
        show 2 * (bs f n (l + 1) + (if l + 1 = 0 then 0 else cn f (l + 1) n)) = _
        rw [if_neg (by omega)]
      have e2 : nI x <<< (nI 1 &&& nI 31) ||| nI (sB b a p') = nI (2 * x + sB b a p') := by
        rw [n_shl (by omega) (by omega), n_or, Nat.or_comm, ← n_or, n_ord (k := 1) (by omega)]
        congr 1
        omega
      simp only [Tt_L, i_0, i_1, i_2, i_3, i_4, i_5, i_6, i_7, i_8, i_9, i_10, i_11, i_13, i_14, i_15, i_16, i_17, i_18, i_19, i_24, i_29, i_30, i_31, i_32, i_138, i_143, i_144, i_254, i_255, i_256, i_257, i_258, i_261, i_264, i_265, i_279, i_280, i_284, i_285, i_286, i_288, i_319, i_320, i_338, i_339, i_575, i_576, i_599, i_600, i_4096, i_8191, i_8192, i_8249, i_8250, i_8256, i_9000, i_16384, i_32767, i_32768, i_65520, i_65521, i_65535, i_65536, i_65999, i_66000, i_1300, i_120, i_156, e2]
      rw [if_pos (by rw [nI_leI (by omega) (by omega)]; omega), Tt_N (by omega), nI_clamp (by omega), hc, nI_add, nI_add, pk_sub (by omega), pk_sub (by omega)]
      refine ⟨by omega, ?_⟩
      by_cases w : 2 * x + sB b a p' < bs f n (l + 1) + cn f (l + 1) n
      · rw [if_neg (by rw [nI_leI (by omega) (by omega)]; omega)]
        rw [if_pos w] at hD'
        obtain ⟨o1, o2, o3⟩ := @nth_ok f (l + 1) (2 * x + sB b a p' - bs f n (l + 1)) n (by omega)
        have sy := hT.2 _ o1 (by omega)
        rw [o2, o3] at sy
        generalize nth f (l + 1) (2 * x + sB b a p' - bs f n (l + 1)) n = s at *
        have e3 : lv f n (l + 1) + (2 * x + sB b a p') - bs f n (l + 1) = lv f n (l + 1) + (2 * x + sB b a p' - bs f n (l + 1)) := by omega
        unfold Table_next_59
        simp (disch := omega) only [Tt_L, Tt_S, Tt_C, Tt_Z, Tt_R0, Tt_R1, Tt_R2, Tt_R3, Tt_R4, Tt_R5, q10, eq_self, if_true, if_false, i_0, i_1, i_2, i_3, i_4, i_5, i_6, i_7, i_8, i_9, i_10, i_11, i_13, i_14, i_15, i_16, i_17, i_18, i_19, i_24, i_29, i_30, i_31, i_32, i_138, i_143, i_144, i_254, i_255, i_256, i_257, i_258, i_261, i_264, i_265, i_279, i_280, i_284, i_285, i_286, i_288, i_319, i_320, i_338, i_339, i_575, i_576, i_599, i_600, i_4096, i_8191, i_8192, i_8249, i_8250, i_8256, i_9000, i_16384, i_32767, i_32768, i_65520, i_65521, i_65535, i_65536, i_65999, i_66000, i_1300, i_120, i_156, n_neg, nI_leI, Tt_N, nI_clamp]
        rw [if_neg (by omega), e3, sy, ← hD']
        refine ⟨by omega, fun s' p'' q => ?_, fun q => by cases q⟩
        have q' := Option.some.inj q
        have q1 := congrArg Prod.fst q'
        have q2 := congrArg Prod.snd q'
        dsimp only at q1 q2
        rw [q1, q2]
      · rw [if_neg w] at hD'
        rw [if_pos (by rw [nI_leI (by omega) (by omega)]; omega), Tt_N (by omega), Tt_N (by omega), nI_add, n_shl (by omega) (by omega)]
        refine ⟨by omega, by omega, ?_⟩
        refine ih (15 - (l + 1)) _ _ _ _ _ (by omega) ⟨l + 1, 2 * x + sB b a p', p' + 1, by omega, rfl, rfl, rfl, ?_, ?_, rfl, by omega, by omega, by omega, by omega, ?_⟩
        · rw [eb]; congr 1; omega
        · rw [lv2]
        · rw [show 15 - (l + 1) = 14 - l by omega]; exact hD'
    · rw [if_neg y] at hu
      obtain ⟨rfl, rfl⟩ := hu
      rw [if_pos (by omega)] at hD'
      rw [if_neg (by decide), ← hD']
      exact ⟨fun s p'' q => by cases q, fun _ => ⟨p', hp1, hp2, rfl⟩⟩
