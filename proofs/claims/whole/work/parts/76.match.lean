/-! matches: program and reference find the same -/
/-- bytes b of a row of n, as they lie in an array from a place on -/
def Row (c : Nat → Int32) (a n : Nat) (b : Nat → Nat) : Prop := (∀ i, i < n → c (a + i) = sx (b i)) ∧ ∀ i, b i < 256
def bz (b : Nat → Nat) (n i : Nat) : Nat := if i < n then b i else 0
theorem bz_lt {b : Nat → Nat} {n : Nat} (hb : ∀ i, b i < 256) (i : Nat) : bz b n i < 256 := by
  unfold bz
  split
  · exact hb i
  · omega
theorem e_at {F N n i : Nat} {c : Nat → Int32} {b : Nat → Nat} {x y : Int32} (h : Row c 0 n b) (hn : n ≤ N) (hN : N < 2 ^ 30) (hi : i < 2 ^ 31) (hy : y = nI n) (hx : x = nI i) : Bytes_at F N y c x = some (nI (bz b n i), ()) := by
  subst hx hy
  unfold Bytes_at mC mG bz
  rw [if_neg (nI_pos hi)]
  by_cases z : i < n
  · rw [if_neg (by rw [nI_leI (by omega) (by omega)]; omega), if_neg (nI_in (by omega) (by omega)), nI_clamp (by omega), if_pos z]
    have := h.1 i z
    rw [Nat.zero_add] at this
    rw [this]
    show some (sx (b i) &&& nI 255, ()) = _
    rw [sx_k _ (h.2 i)]
  · rw [if_pos (by rw [nI_leI (by omega) (by omega)]; omega), if_neg z]
    rfl
/-! chains -/
def lb (f : Nat → Nat) : Nat → Nat → Nat
  | 0, _ => 0
  | p + 1, h => if f p = h then p + 1 else lb f p h
theorem lb_le (f : Nat → Nat) (h : Nat) : ∀ p, lb f p h ≤ p := by
  intro p
  induction p with
  | zero => exact Nat.le_refl 0
  | succ p ih =>
    show (if f p = h then p + 1 else lb f p h) ≤ p + 1
    split <;> omega
theorem lb_hit (f : Nat → Nat) (h : Nat) : ∀ p k, lb f p h = k + 1 → f k = h := by
  intro p
  induction p with
  | zero => intro k e; cases e
  | succ p ih =>
    intro k e
    by_cases z : f p = h
    · have : lb f (p + 1) h = p + 1 := if_pos z
      rw [this] at e
      have : k = p := by omega
      subst this; exact z
    · have : lb f (p + 1) h = lb f p h := if_neg z
      rw [this] at e
      exact ih k e
theorem lb_gap (f : Nat → Nat) (h : Nat) : ∀ p k, lb f p h ≤ k → k < p → f k ≠ h := by
  intro p
  induction p with
  | zero => intro k _ e; omega
  | succ p ih =>
    intro k h1 h2
    by_cases z : f p = h
    · have : lb f (p + 1) h = p + 1 := if_pos z
      omega
    · have : lb f (p + 1) h = lb f p h := if_neg z
      rw [this] at h1
      by_cases y : k = p
      · subst y; exact z
      · exact ih k h1 (by omega)
def th3 (x y z : Nat) : Int32 := (nI x ||| (nI y <<< ((8 : Int32) &&& 31))) ||| (nI z <<< ((16 : Int32) &&& 31))
def hsN (t : Int32) : Nat := (t * (-1640531535)).toBitVec.toNat / 2 ^ 20
theorem hsN_lt (t : Int32) : hsN t < 4096 := by
  unfold hsN
  have := (t * (-1640531535)).toBitVec.isLt
  omega
theorem hsN_e (t : Int32) : (((t * (-1640531535)).toUInt32 >>> ((20 : Int32).toUInt32 &&& Int32.toUInt32 31)).toInt32) = nI (hsN t) := by
  have h := pk_ushr (t * (-1640531535)) 20 20 (by decide +kernel)
  apply Int32.toBitVec_inj.1
  apply BitVec.eq_of_toNat_eq
  rw [h, pk_tn (by have := hsN_lt t; omega)]
  rfl
/-- the hash of the three bytes at a place -/
def hf (b : Nat → Nat) (n p : Nat) : Nat := hsN (th3 (bz b n p) (bz b n (p + 1)) (bz b n (p + 2)))
theorem t_chain {c late before : Nat → Int32} {b : Nat → Nat} {n : Nat} {y : Int32} (h : Row c 0 n b) (hn : n ≤ 8192) (hy : y = nI n) : Tt (Matches_chain 200000 8192 y c late before) (fun u => ∀ p, p < n → u.2.2 p = nI (lb (hf b n) p (hf b n p))) := by
  subst hy
  unfold Matches_chain
  rw [Tt_R1]
  refine Tt_m (t_fill (by omega)) ?_
  rintro ⟨_, c1⟩ h1
  refine Tt_W3 (fun m late before x1 => ∃ p, p ≤ n ∧ x1 = nI p ∧ m = n - p ∧ (∀ k, k < 4096 → late k = nI (lb (hf b n) p k)) ∧ ∀ q, q < p → before q = nI (lb (hf b n) q (hf b n q))) ?_ 200000 n c1 before 0 (by omega) ⟨0, by omega, rfl, rfl, fun k hk => by
    have := h1 k
    rw [if_pos hk] at this
    exact this, fun q hq => by omega⟩
  rintro K m late before x1 ⟨p, hp, rfl, rfl, hl, hb⟩ ih
  have g0 := @e_at 200000 8192 n p c b (nI p) (nI n) h hn (by omega) (by omega) rfl rfl
  have g1 := @e_at 200000 8192 n (p + 1) c b (nI p + 1) (nI n) h hn (by omega) (by omega) rfl (nI_1 p)
  have g2 := @e_at 200000 8192 n (p + 2) c b (nI p + 2) (nI n) h hn (by omega) (by omega) rfl (nI_add p 2)
  have lt := hsN_lt (th3 (bz b n p) (bz b n (p + 1)) (bz b n (p + 2)))
  have key : (((((nI (bz b n p) ||| (nI (bz b n (p + 1)) <<< ((8 : Int32) &&& 31))) ||| (nI (bz b n (p + 2)) <<< ((16 : Int32) &&& 31))) * (-1640531535)).toUInt32 >>> ((20 : Int32).toUInt32 &&& Int32.toUInt32 31)).toInt32) = nI (hf b n p) := hsN_e _
  have lt' : hf b n p < 4096 := lt
  unfold Matches_chain_10 Bytes_length
  by_cases z : n ≤ p
  · simp only [Tt_R0, Tt_S, Tt_C]
    rw [if_pos (by rw [nI_leI (by omega) (by omega)]; exact z)]
    intro q hq
    exact hb q (by omega)
  · simp only [Tt_R0, Tt_S, Tt_C, Tt_L, g0, g1, g2, key]
    rw [if_neg (by rw [nI_leI (by omega) (by omega)]; exact z), if_neg (by rw [i_8192, nI_leI (by omega) (by omega)]; omega), Tt_N (by omega), Tt_N (by omega), Tt_N (by omega), nI_clamp (by omega), nI_clamp (by omega), nI_1]
    refine ⟨lt', by omega, lt', ih (n - (p + 1)) _ _ _ (by omega) ⟨p + 1, by omega, rfl, rfl, fun k hk => ?_, fun q hq => ?_⟩⟩
    · show _ = nI (if hf b n p = k then p + 1 else lb (hf b n) p k)
      by_cases y : k = hf b n p
      · rw [y, pk_us, if_pos rfl]
      · rw [pk_un y, if_neg (fun q => y q.symm), hl k hk]
    · by_cases y : q = p
      · rw [y, pk_us, hl _ lt']
      · rw [pk_un y]; exact hb q (by omega)
/-- the pair of bytes at a place -/
def pf (b : Nat → Nat) (p : Nat) : Nat := b p * 256 + b (p + 1)
theorem t_notePairs27 {N a n : Nat} {c last before : Nat → Int32} {b : Nat → Nat} (h : Row c a n b) (hn : n ≤ 8192) (haN : a + n ≤ N) (hN : N ≤ 65536) (hl : ∀ k, k < 65536 → last k = nI 0 - 1) : Tt (M_notePairs_24 200000 N c (nI a) (nI n) last before) (fun u => ∀ p, p + 1 < n → u.2.2 p = nI (lb (pf b) p (pf b p)) - 1) := by
  unfold M_notePairs_24
  refine Tt_W3 (fun m last before x4 => ∃ p, x4 = nI p ∧ p ≤ n ∧ m = n - p ∧ (∀ k, k < 65536 → last k = nI (lb (pf b) p k) - 1) ∧ ∀ q, q < p → before q = nI (lb (pf b) q (pf b q)) - 1) ?_ 200000 n last before 0 (by omega) ⟨0, rfl, by omega, rfl, hl, fun q hq => by omega⟩
  rintro K m last before x4 ⟨p, rfl, hp, rfl, hl, hb⟩ ih
  unfold M_notePairs_27
  by_cases z : n ≤ p + 1
  · simp only [Tt_C, i_0, i_1, i_2, i_3, i_4, i_5, i_6, i_7, i_8, i_9, i_10, i_11, i_13, i_14, i_15, i_16, i_17, i_18, i_19, i_24, i_29, i_30, i_31, i_32, i_138, i_143, i_144, i_254, i_255, i_256, i_257, i_258, i_261, i_264, i_265, i_279, i_280, i_284, i_285, i_286, i_288, i_319, i_320, i_338, i_339, i_575, i_576, i_599, i_600, i_4096, i_8191, i_8192, i_8249, i_8250, i_8256, i_9000, i_16384, i_32767, i_32768, i_65520, i_65521, i_65535, i_65536, i_65999, i_66000, i_1300, i_120, i_156, nI_add]
    rw [if_pos (by rw [nI_leI (by omega) (by omega)]; exact z)]
    intro q hq
    exact hb q (by omega)
  · have b0 := h.2 p
    have b1 := h.2 (p + 1)
    have e0 := h.1 p (by omega)
    have e1 := h.1 (p + 1) (by omega)
    have key : (((sx (b p)) &&& nI 255) <<< ((nI 8) &&& nI 31)) ||| ((sx (b (p + 1))) &&& nI 255) = nI (pf b p) := by
      rw [sx_k _ b0, sx_k _ b1, n_shl (by omega) (by omega), n_or, Nat.or_comm, ← n_or, n_ord (k := 8) b1]
      congr 1
      unfold pf
      omega
    have lt : pf b p < 65536 := by unfold pf; omega
    simp (disch := omega) only [Tt_L, Tt_C, i_0, i_1, i_2, i_3, i_4, i_5, i_6, i_7, i_8, i_9, i_10, i_11, i_13, i_14, i_15, i_16, i_17, i_18, i_19, i_24, i_29, i_30, i_31, i_32, i_138, i_143, i_144, i_254, i_255, i_256, i_257, i_258, i_261, i_264, i_265, i_279, i_280, i_284, i_285, i_286, i_288, i_319, i_320, i_338, i_339, i_575, i_576, i_599, i_600, i_4096, i_8191, i_8192, i_8249, i_8250, i_8256, i_9000, i_16384, i_32767, i_32768, i_65520, i_65521, i_65535, i_65536, i_65999, i_66000, i_1300, i_120, i_156, nI_add, nI_leI, Tt_N, nI_clamp]
    rw [show a + p + 1 = a + (p + 1) by omega, e0, e1, key]
    rw [if_neg z]
    simp (disch := omega) only [Tt_N, nI_clamp]
    refine ⟨by omega, by omega, lt, by omega, lt, ih (n - (p + 1)) _ _ _ (by omega) ⟨p + 1, rfl, by omega, rfl, fun k hk => ?_, fun q hq => ?_⟩⟩
    · show _ = nI (if pf b p = k then p + 1 else lb (pf b) p k) - 1
      by_cases y : k = pf b p
      · rw [y, pk_us, if_pos rfl, nI_pred]
      · rw [pk_un y, if_neg (fun q => y q.symm), hl k hk]
    · by_cases y : q = p
      · rw [y, pk_us, hl _ lt]
      · rw [pk_un y]; exact hb q (by omega)
theorem t_notePairs {N a n : Nat} {c last before : Nat → Int32} {b : Nat → Nat} {x2 x3 : Int32} (h : Row c a n b) (hn : n ≤ 8192) (haN : a + n ≤ N) (hN : N ≤ 65536) (h2 : x2 = nI a) (h3 : x3 = nI n) : Tt (M_notePairs 200000 N c last before x2 x3) (fun u => ∀ p, p + 1 < n → u.2.2 p = nI (lb (pf b) p (pf b p)) - 1) := by
  subst h2 h3
  unfold M_notePairs
  refine Tt_W3 (fun m last _ x4 => ∃ j, x4 = nI j ∧ j ≤ 65536 ∧ m = 65536 - j ∧ ∀ k, k < j → last k = nI 0 - 1) ?_ 200000 65536 last before 0 (by omega) ⟨0, rfl, by omega, rfl, fun k hk => by omega⟩
  rintro K m last before x4 ⟨j, rfl, hj, rfl, hl⟩ ih
  unfold M_notePairs_3
  simp (disch := omega) only [Tt_L, Tt_C, i_0, i_1, i_2, i_3, i_4, i_5, i_6, i_7, i_8, i_9, i_10, i_11, i_13, i_14, i_15, i_16, i_17, i_18, i_19, i_24, i_29, i_30, i_31, i_32, i_138, i_143, i_144, i_254, i_255, i_256, i_257, i_258, i_261, i_264, i_265, i_279, i_280, i_284, i_285, i_286, i_288, i_319, i_320, i_338, i_339, i_575, i_576, i_599, i_600, i_4096, i_8191, i_8192, i_8249, i_8250, i_8256, i_9000, i_16384, i_32767, i_32768, i_65520, i_65521, i_65535, i_65536, i_65999, i_66000, i_1300, i_120, i_156, nI_add, nI_leI, Tt_N, nI_clamp]
  split
  · rename_i h0
    exact t_notePairs27 h hn haN hN (fun k hk => hl k (by omega))
  · rename_i h0
    refine ⟨by omega, ih (65536 - (j + 1)) _ _ _ (by omega) ⟨j + 1, rfl, by omega, rfl, fun k hk => ?_⟩⟩
    by_cases y : k = j
    · rw [y, pk_us]; rfl
    · rw [pk_un y]; exact hl k (by omega)
/-! how many bytes are the same -/
def lcp (b : Nat → Nat) (q p : Nat) : Nat → Nat
  | 0 => 0
  | n + 1 => if lcp b q p n = n ∧ b (q + n) = b (p + n) then n + 1 else lcp b q p n
def isL (b : Nat → Nat) (q p most n : Nat) : Prop := n ≤ most ∧ (∀ s, s < n → b (q + s) = b (p + s)) ∧ (n = most ∨ b (q + n) ≠ b (p + n))
theorem lcp_ok (b : Nat → Nat) (q p : Nat) : ∀ most, isL b q p most (lcp b q p most) := by
  intro most
  induction most with
  | zero => exact ⟨Nat.le_refl 0, fun s h => by cases h, Or.inl rfl⟩
  | succ n ih =>
    obtain ⟨i1, i2, i3⟩ := ih
    by_cases z : lcp b q p n = n ∧ b (q + n) = b (p + n)
    · have e : lcp b q p (n + 1) = n + 1 := if_pos z
      rw [e]
      refine ⟨Nat.le_refl _, fun s hs => ?_, Or.inl rfl⟩
      by_cases y : s = n
      · rw [y]; exact z.2
      · exact i2 s (by have := z.1; omega)
    · have e : lcp b q p (n + 1) = lcp b q p n := if_neg z
      rw [e]
      refine ⟨by omega, i2, Or.inr ?_⟩
      rcases i3 with i3 | i3
      · rw [i3]
        exact fun w => z ⟨i3, w⟩
      · exact i3
theorem isL_u {b : Nat → Nat} {q p most n k : Nat} (h : isL b q p most n) (g : isL b q p most k) : n = k := by
  obtain ⟨h1, h2, h3⟩ := h
  obtain ⟨g1, g2, g3⟩ := g
  rcases Nat.lt_trichotomy n k with z | z | z
  · rcases h3 with h3 | h3
    · omega
    · exact absurd (g2 n z) h3
  · exact z
  · rcases g3 with g3 | g3
    · omega
    · exact absurd (h2 k z) g3
theorem lcp_e {b : Nat → Nat} {q p most n : Nat} (h : isL b q p most n) : lcp b q p most = n := isL_u (lcp_ok b q p most) h
def scn (b : Nat → Nat) (p most : Nat) : Nat → Nat → Nat → Nat → Nat × Nat
  | 0, _, best, far => (best, far)
  | k + 1, seen, best, far => if 16 ≤ seen then (best, far) else if lcp b k p most < 3 then scn b p most k seen best far else if lcp b k p most ≤ best then scn b p most k (seen + 1) best far else scn b p most k (seen + 1) (lcp b k p most) (p - k)
theorem scn_end {b : Nat → Nat} {p most k seen best far : Nat} (h : 16 ≤ seen) : scn b p most k seen best far = (best, far) := by
  cases k with
  | zero => rfl
  | succ k => exact if_pos h
theorem scn_full (b : Nat → Nat) (p most far : Nat) : ∀ k seen, scn b p most k seen most far = (most, far) := by
  intro k
  induction k with
  | zero => intro _; rfl
  | succ k ih =>
    intro seen
    show (if 16 ≤ seen then (most, far) else if lcp b k p most < 3 then scn b p most k seen most far else if lcp b k p most ≤ most then scn b p most k (seen + 1) most far else scn b p most k (seen + 1) (lcp b k p most) (p - k)) = (most, far)
    rw [ih, ih, if_pos (lcp_ok b k p most).1]
    split
    · rfl
    · split <;> rfl
theorem scn_skip {b : Nat → Nat} {p most k' seen best far : Nat} : ∀ {k : Nat}, k' ≤ k → (∀ q, k' ≤ q → q < k → lcp b q p most < 3) → scn b p most k seen best far = scn b p most k' seen best far := by
  intro k
  induction k with
  | zero =>
    intro h _
    have : k' = 0 := by omega
    rw [this]
  | succ k ih =>
    intro h hq
    by_cases z : k' = k + 1
    · rw [z]
    · by_cases y : 16 ≤ seen
      · rw [scn_end y, scn_end y]
      · have e : scn b p most (k + 1) seen best far = scn b p most k seen best far := by
          show (if 16 ≤ seen then (best, far) else if lcp b k p most < 3 then scn b p most k seen best far else _) = _
          rw [if_neg y, if_pos (hq k (by omega) (by omega))]
        rw [e]
        exact ih (by omega) (fun q a b' => hq q a (by omega))
/-- what is found at p in a part up to an end: length and distance, or 0 -/
def bst (b : Nat → Nat) (p fin : Nat) : Nat × Nat := if fin - p < 3 then (0, 0) else scn b p (min 258 (fin - p)) p 0 0 0
theorem scn_b {b : Nat → Nat} {p most : Nat} : ∀ k seen best far, k ≤ p → (best = 0 ∧ far = 0 ∨ 3 ≤ best ∧ best ≤ most ∧ 1 ≤ far ∧ far ≤ p) → ((scn b p most k seen best far).1 = 0 ∧ (scn b p most k seen best far).2 = 0 ∨ 3 ≤ (scn b p most k seen best far).1 ∧ (scn b p most k seen best far).1 ≤ most ∧ 1 ≤ (scn b p most k seen best far).2 ∧ (scn b p most k seen best far).2 ≤ p) := by
  intro k
  induction k with
  | zero => intro seen best far _ h; exact h
  | succ k ih =>
    intro seen best far hk h
    have e : scn b p most (k + 1) seen best far = if 16 ≤ seen then (best, far) else if lcp b k p most < 3 then scn b p most k seen best far else if lcp b k p most ≤ best then scn b p most k (seen + 1) best far else scn b p most k (seen + 1) (lcp b k p most) (p - k) := rfl
    rw [e]
    split
    · exact h
    · split
      · exact ih _ _ _ (by omega) h
      · split
        · exact ih _ _ _ (by omega) h
        · have := (lcp_ok b k p most).1
          exact ih _ _ _ (by omega) (Or.inr ⟨by omega, by omega, by omega, by omega⟩)
theorem bst_b (b : Nat → Nat) (p fin : Nat) : (bst b p fin).1 = 0 ∧ (bst b p fin).2 = 0 ∨ 3 ≤ (bst b p fin).1 ∧ (bst b p fin).1 ≤ 258 ∧ (bst b p fin).1 ≤ fin - p ∧ 1 ≤ (bst b p fin).2 ∧ (bst b p fin).2 ≤ p := by
  unfold bst
  split
  · exact Or.inl ⟨rfl, rfl⟩
  · have := @scn_b b p (min 258 (fin - p)) p 0 0 0 (Nat.le_refl p) (Or.inl ⟨rfl, rfl⟩)
    omega
/-! the program -/
theorem t_same3 {c : Nat → Int32} {b : Nat → Nat} {n q p most : Nat} {x1 x2 x3 : Int32} (h : Row c 0 n b) (hn : n ≤ 8192) (hq : q < p) (hp : p + most ≤ n) (h1 : x1 = nI q) (h2 : x2 = nI p) (h3 : x3 = nI most) : Tt (Matches_sameBytes 200000 8192 (nI n) c x1 x2 x3) (fun u => u.1 = nI (lcp b q p most)) := by
  subst h1 h2 h3
  unfold Matches_sameBytes
  refine Tt_W1 (fun m x4 => ∃ s, x4 = nI s ∧ s ≤ most ∧ m = most - s ∧ ∀ t, t < s → b (q + t) = b (p + t)) ?_ 200000 most 0 (by omega) ⟨0, rfl, by omega, rfl, fun t ht => by omega⟩
  rintro K m x4 ⟨s, rfl, hs, rfl, hb⟩ ih
  unfold Matches_sameBytes_3
  by_cases z : most ≤ s
  · simp only [Tt_C]
    rw [if_pos (by rw [nI_leI (by omega) (by omega)]; exact z)]
    show nI s = nI (lcp b q p most)
    rw [lcp_e ⟨hs, hb, Or.inl (by omega)⟩]
  · have g0 := @e_at 200000 8192 n (q + s) c b (nI q + nI s) (nI n) h hn (by omega) (by omega) rfl (nI_add q s)
    have g1 := @e_at 200000 8192 n (p + s) c b (nI p + nI s) (nI n) h hn (by omega) (by omega) rfl (nI_add p s)
    have z0 : bz b n (q + s) = b (q + s) := if_pos (by omega)
    have z1 : bz b n (p + s) = b (p + s) := if_pos (by omega)
    rw [z0] at g0
    rw [z1] at g1
    have b0 := h.2 (q + s)
    have b1 := h.2 (p + s)
    simp (disch := omega) only [Tt_R0, Tt_S, Tt_C, Tt_L, g0, g1, nI_leI, nI_eq, nI_1]
    rw [if_neg z]
    split
    · rename_i y
      refine ih (most - (s + 1)) _ (by omega) ⟨s + 1, rfl, by omega, rfl, fun t ht => ?_⟩
      by_cases w : t = s
      · rw [w]; exact y
      · exact hb t (by omega)
    · rename_i y
      rw [lcp_e ⟨hs, hb, Or.inr y⟩]
theorem hf_same {b : Nat → Nat} {n q p most : Nat} (hq : q < p) (hp : p + most ≤ n) (h : 3 ≤ lcp b q p most) : hf b n q = hf b n p := by
  have o := lcp_ok b q p most
  have e0 := o.2.1 0 (by omega)
  have e1 := o.2.1 1 (by omega)
  have e2 := o.2.1 2 (by omega)
  have m3 := o.1
  have z : ∀ i, i < n → bz b n i = b i := fun i hi => if_pos hi
  unfold hf
  rw [z q (by omega), z (q + 1) (by omega), z (q + 2) (by omega), z p (by omega), z (p + 1) (by omega), z (p + 2) (by omega)]
  rw [Nat.add_zero, Nat.add_zero] at e0
  rw [e0, e1, e2]
theorem t_best {c before : Nat → Int32} {b : Nat → Nat} {n p fin : Nat} {x1 x2 : Int32} (h : Row c 0 n b) (hn : n ≤ 8192) (hB : ∀ p, p < n → before p = nI (lb (hf b n) p (hf b n p))) (hp : p < fin) (hf' : fin ≤ n) (h1 : x1 = nI p) (h2 : x2 = nI fin) : Tt (Matches_best 200000 8192 before (nI n) c x1 x2) (fun u => u.1 = nI ((bst b p fin).1 * 65536 + (bst b p fin).2)) := by
  subst h1 h2
  unfold Matches_best
  have e1 : nI fin - nI p = nI (fin - p) := pk_sub (by omega)
  have e2 : (if nI (fin - p) < 258 then nI (fin - p) else (258 : Int32)) = nI (min 258 (fin - p)) := by
    rw [i_258]
    by_cases z : fin - p < 258
    · rw [if_pos (by rw [nI_ltI (by omega) (by omega)]; exact z)]; congr 1; omega
    · rw [if_neg (by rw [nI_ltI (by omega) (by omega)]; exact z)]; congr 1; omega
  simp only [Tt_L, e1, e2]
  by_cases z : fin - p < 3
  · simp only [Tt_C, i_0, i_1, i_2, i_3, i_4, i_5, i_6, i_7, i_8, i_9, i_10, i_11, i_13, i_14, i_15, i_16, i_17, i_18, i_19, i_24, i_29, i_30, i_31, i_32, i_138, i_143, i_144, i_254, i_255, i_256, i_257, i_258, i_261, i_264, i_265, i_279, i_280, i_284, i_285, i_286, i_288, i_319, i_320, i_338, i_339, i_575, i_576, i_599, i_600, i_4096, i_8191, i_8192, i_8249, i_8250, i_8256, i_9000, i_16384, i_32767, i_32768, i_65520, i_65521, i_65535, i_65536, i_65999, i_66000, i_1300, i_120, i_156]
    rw [if_pos (by rw [nI_ltI (by omega) (by omega)]; omega)]
    show nI 0 = _
    unfold bst
    rw [if_pos z]
  · have eb : bst b p fin = scn b p (min 258 (fin - p)) p 0 0 0 := if_neg z
    rw [eb]
    generalize hm : min 258 (fin - p) = most
    have hmost : 3 ≤ most ∧ most ≤ 258 ∧ p + most ≤ n := by omega
    have skip : ∀ q, q ≤ p → hf b n q = hf b n p ∨ q = p → ∀ k seen best far, k = lb (hf b n) q (hf b n p) → scn b p most q seen best far = scn b p most k seen best far := by
      intro q hq _ k seen best far hk
      rw [hk]
      apply scn_skip (lb_le _ _ _)
      intro r h3 h4
      have g := lb_gap (hf b n) (hf b n p) q r h3 h4
      have : ¬ (3 ≤ lcp b r p most) := fun w => g (hf_same (by omega) hmost.2.2 w)
      omega
    simp (disch := omega) only [Tt_C, i_0, i_1, i_2, i_3, i_4, i_5, i_6, i_7, i_8, i_9, i_10, i_11, i_13, i_14, i_15, i_16, i_17, i_18, i_19, i_24, i_29, i_30, i_31, i_32, i_138, i_143, i_144, i_254, i_255, i_256, i_257, i_258, i_261, i_264, i_265, i_279, i_280, i_284, i_285, i_286, i_288, i_319, i_320, i_338, i_339, i_575, i_576, i_599, i_600, i_4096, i_8191, i_8192, i_8249, i_8250, i_8256, i_9000, i_16384, i_32767, i_32768, i_65520, i_65521, i_65535, i_65536, i_65999, i_66000, i_1300, i_120, i_156, nI_ltI, n_neg, if_false, Tt_N, nI_clamp, Tt_L]
    rw [if_neg (by omega), if_pos (by omega)]
    refine ⟨by omega, ?_⟩
    rw [hB p (by omega)]
    have inv := Tt_W5 (st := Matches_best_49 200000 8192 before (nI n) c (nI p)) (Q := fun u => u.1 = nI ((scn b p most p 0 0 0).1 * 65536 + (scn b p most p 0 0 0).2)) (fun m x3 x4 x5 x6 x7 => ∃ k len far seen, x3 = nI most ∧ x4 = nI len ∧ x5 = nI far ∧ x6 = nI seen ∧ x7 = nI k - 1 ∧ m = k ∧ k ≤ p ∧ (k = 0 ∨ hf b n (k - 1) = hf b n p) ∧ len ≤ most ∧ far ≤ p ∧ seen ≤ 16 ∧ scn b p most k seen len far = scn b p most p 0 0 0) ?_ 200000 (lb (hf b n) p (hf b n p)) (nI most) (nI 0) (nI 0) (nI 0) (nI (lb (hf b n) p (hf b n p)) - 1) (by have := lb_le (hf b n) (hf b n p) p; omega) ⟨_, 0, 0, 0, rfl, rfl, rfl, rfl, rfl, rfl, lb_le _ _ _, ?_, by omega, by omega, by omega, ?_⟩
    · exact inv
    · rintro K m x3 x4 x5 x6 x7 ⟨k, len, far, seen, rfl, rfl, rfl, rfl, rfl, rfl, hk, hh, hlen, hfar, hseen, hS⟩ ih
      have fin1 : scn b p most k seen len far = (len, far) → nI len <<< (nI 16 &&& nI 31) ||| nI far = nI ((scn b p most p 0 0 0).1 * 65536 + (scn b p most p 0 0 0).2) := by
        intro e
        rw [← hS, e, n_shl (by omega) (by omega), n_or, Nat.or_comm, ← n_or, n_ord (k := 16) (by omega)]
        congr 1
        show far + len * 2 ^ 16 = len * 65536 + far
        omega
      unfold Matches_best_49 Matches_best_109
      by_cases y0 : k = 0
      · simp only [Tt_C, i_0, i_1, i_2, i_3, i_4, i_5, i_6, i_7, i_8, i_9, i_10, i_11, i_13, i_14, i_15, i_16, i_17, i_18, i_19, i_24, i_29, i_30, i_31, i_32, i_138, i_143, i_144, i_254, i_255, i_256, i_257, i_258, i_261, i_264, i_265, i_279, i_280, i_284, i_285, i_286, i_288, i_319, i_320, i_338, i_339, i_575, i_576, i_599, i_600, i_4096, i_8191, i_8192, i_8249, i_8250, i_8256, i_9000, i_16384, i_32767, i_32768, i_65520, i_65521, i_65535, i_65536, i_65999, i_66000, i_1300, i_120, i_156]
        rw [if_pos (by rw [y0]; decide)]
        exact fin1 (by rw [y0]; rfl)
      · have ek : nI k - 1 = nI (k - 1) := pk_sub (by omega)
        have hk1 : hf b n (k - 1) = hf b n p := by omega
        rw [ek]
        simp (disch := omega) only [Tt_C, i_0, i_1, i_2, i_3, i_4, i_5, i_6, i_7, i_8, i_9, i_10, i_11, i_13, i_14, i_15, i_16, i_17, i_18, i_19, i_24, i_29, i_30, i_31, i_32, i_138, i_143, i_144, i_254, i_255, i_256, i_257, i_258, i_261, i_264, i_265, i_279, i_280, i_284, i_285, i_286, i_288, i_319, i_320, i_338, i_339, i_575, i_576, i_599, i_600, i_4096, i_8191, i_8192, i_8249, i_8250, i_8256, i_9000, i_16384, i_32767, i_32768, i_65520, i_65521, i_65535, i_65536, i_65999, i_66000, i_1300, i_120, i_156, nI_leI, n_neg, if_false]
        rw [if_neg (by omega)]
        by_cases y1 : 16 ≤ seen
        · rw [if_pos y1]
          exact fin1 (scn_end y1)
        · rw [if_neg y1]
          by_cases y2 : most ≤ len
          · rw [if_pos y2]
            have : len = most := by omega
            exact fin1 (by rw [this]; exact scn_full _ _ _ _ _ _)
          · rw [if_neg y2, Tt_R0]
            refine Tt_m (t_same3 h hn (by omega) hmost.2.2 rfl rfl rfl) ?_
            rintro ⟨r, _⟩ hr
            have hr' : r = nI (lcp b (k - 1) p most) := hr
            subst hr'
            have lo := lcp_ok b (k - 1) p most
            have ll := lo.1
            have es : ∀ a2 a3 a4, scn b p most k a2 a3 a4 = if 16 ≤ a2 then (a3, a4) else if lcp b (k - 1) p most < 3 then scn b p most (k - 1) a2 a3 a4 else if lcp b (k - 1) p most ≤ a3 then scn b p most (k - 1) (a2 + 1) a3 a4 else scn b p most (k - 1) (a2 + 1) (lcp b (k - 1) p most) (p - (k - 1)) := by
              intro a2 a3 a4
              conv => lhs; rw [show k = (k - 1) + 1 by omega]
              rfl
            have el := lb_le (hf b n) (hf b n p) (k - 1)
            have et : (if nI (k - 1) < nI (lb (hf b n) (k - 1) (hf b n p)) then nI (k - 1) else nI (lb (hf b n) (k - 1) (hf b n p))) = nI (lb (hf b n) (k - 1) (hf b n p)) := by
              rw [if_neg (by rw [nI_ltI (by omega) (by omega)]; omega)]
            have eb2 : before (k - 1) = nI (lb (hf b n) (k - 1) (hf b n p)) := by rw [hB (k - 1) (by omega), hk1]
            have next : ∀ len' far' seen', len' ≤ most → far' ≤ p → seen' ≤ 16 → scn b p most (k - 1) seen' len' far' = scn b p most p 0 0 0 → Tt (K (nI most) (nI len') (nI far') (nI seen') (nI (lb (hf b n) (k - 1) (hf b n p)) - 1)) (fun u => u.1 = nI ((scn b p most p 0 0 0).1 * 65536 + (scn b p most p 0 0 0).2)) := by
              intro len' far' seen' a1 a2 a3 a4
              refine ih (lb (hf b n) (k - 1) (hf b n p)) _ _ _ _ _ (by omega) ⟨_, len', far', seen', rfl, rfl, rfl, rfl, rfl, rfl, by omega, ?_, a1, a2, a3, ?_⟩
              · rcases Nat.eq_zero_or_pos (lb (hf b n) (k - 1) (hf b n p)) with w | w
                · exact Or.inl w
                · right
                  apply lb_hit (hf b n) (hf b n p) (k - 1)
                  omega
              · rw [← a4]
                exact (skip (k - 1) (by omega) (Or.inl hk1) _ _ _ _ rfl).symm
            simp (disch := omega) only [Tt_L, Tt_C, nI_ltI, nI_leI, Tt_N, nI_clamp, nI_add, eb2, et]
            split
            · rename_i y3
              refine ⟨by omega, next _ _ _ hlen hfar hseen ?_⟩
              rw [← hS, es, if_neg y1, if_pos y3]
            · rename_i y3
              split
              · rename_i y4
                refine ⟨by omega, next _ _ _ hlen hfar (by omega) ?_⟩
                rw [← hS, es, if_neg y1, if_neg y3, if_pos y4]
              · rename_i y4
                have ed : nI p - nI (k - 1) = nI (p - (k - 1)) := pk_sub (by omega)
                rw [ed]
                refine ⟨by omega, next _ _ _ ll (by omega) (by omega) ?_⟩
                rw [← hS, es, if_neg y1, if_neg y3, if_neg y4]
    · rcases Nat.eq_zero_or_pos (lb (hf b n) p (hf b n p)) with w | w
      · exact Or.inl w
      · right
        apply lb_hit (hf b n) (hf b n p) p
        omega
    · exact (skip p (Nat.le_refl p) (Or.inr rfl) _ _ _ _ rfl).symm
