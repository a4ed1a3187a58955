/-! how many bits: program and reference count the same -/
def usd (f : Nat → Nat) : Nat → Nat
  | 0 => 0
  | n + 1 => if f n = 0 then usd f n else n + 1
theorem usd_le (f : Nat → Nat) : ∀ n, usd f n ≤ n := by
  intro n
  induction n with
  | zero => exact Nat.le_refl 0
  | succ n ih =>
    show (if f n = 0 then usd f n else n + 1) ≤ n + 1
    split <;> omega
theorem t_used {N : Nat} {lens : Nat → Int32} {f : Nat → Nat} (hN : N ≤ 339) (hL : ∀ i, i < N → lens i = nI (f i)) (hf : ∀ i, i < N → f i ≤ 15) : Tt (Code_used 200000 N lens) (fun u => u.1 = nI (usd f N)) := by
  unfold Code_used
  simp only [Tt_L]
  refine Tt_W1 (fun mm x1 => ∃ k, x1 = nI k ∧ k ≤ N ∧ mm = k ∧ usd f N = usd f k) ?_ 200000 N _ (by omega) ⟨N, rfl, Nat.le_refl N, rfl, rfl⟩
  rintro K mm x1 ⟨k, rfl, hk, rfl, hu⟩ ih
  unfold Code_used_6
  by_cases z : k = 0
  · subst z
    simp only [Tt_C]
    rw [if_pos (by decide)]
    rw [hu]; rfl
  · have e1 : nI k - nI 1 = nI (k - 1) := pk_sub (by omega)
    have l1 := hL (k - 1) (by omega)
    have f1 := hf (k - 1) (by omega)
    obtain ⟨d, rfl⟩ : ∃ d, k = d + 1 := ⟨k - 1, by omega⟩
    rw [Nat.add_sub_cancel] at l1 f1 e1
    simp (disch := omega) only [Tt_L, Tt_S, Tt_C, Tt_Z, Tt_R0, Tt_R1, Tt_R2, Tt_R3, Tt_R4, Tt_R5, q10, eq_self, if_true, if_false, i_0, i_1, i_2, i_3, i_4, i_5, i_6, i_7, i_8, i_9, i_10, i_11, i_13, i_14, i_15, i_16, i_17, i_18, i_19, i_24, i_29, i_30, i_31, i_32, i_138, i_143, i_144, i_254, i_255, i_256, i_257, i_258, i_261, i_264, i_265, i_279, i_280, i_284, i_285, i_286, i_288, i_319, i_320, i_338, i_339, i_575, i_576, i_599, i_600, i_4096, i_8191, i_8192, i_8249, i_8250, i_8256, i_9000, i_16384, i_32767, i_32768, i_65520, i_65521, i_65535, i_65536, i_65999, i_66000, i_1300, i_120, i_156, nI_leI, e1, Tt_N, nI_clamp, l1, nI_eq, n_dec2, Nat.add_sub_cancel]
    rw [if_neg (by omega)]
    refine ⟨by omega, ?_⟩
    by_cases y : f d = 0
    · rw [if_pos y]
      refine ih d _ (by omega) ⟨d, rfl, by omega, rfl, ?_⟩
      rw [hu]
      show (if f d = 0 then usd f d else d + 1) = usd f d
      rw [if_pos y]
    · rw [if_neg y, hu]
      show nI (d + 1) = nI (if f d = 0 then usd f d else d + 1)
      rw [if_neg y]
theorem t_needed {a n least : Nat} {lens : Nat → Int32} {f : Nat → Nat} {x1 x2 x3 : Int32} (h1 : x1 = nI a) (h2 : x2 = nI n) (h3 : x3 = nI least) (hn : a + n ≤ 339) (h0 : 1 ≤ least) (hl : least ≤ n) (hL : ∀ i, i < n → lens (a + i) = nI (f i)) (hf : ∀ i, i < n → f i ≤ 15) : Tt (M_needed 200000 lens x1 x2 x3) (fun u => u.1 = nI (max least (usd f n))) := by
  subst h1 h2 h3
  unfold M_needed
  refine Tt_W1 (fun mm x4 => ∃ k, x4 = nI k ∧ k ≤ n ∧ least ≤ k ∧ mm = k ∧ usd f n = usd f k) ?_ 200000 n _ (by omega) ⟨n, rfl, Nat.le_refl n, hl, rfl, rfl⟩
  rintro K mm x4 ⟨k, rfl, hk, hlk, rfl, hu⟩ ih
  have ul := usd_le f k
  unfold M_needed_3
  by_cases z : k ≤ least
  · simp (disch := omega) only [Tt_C, nI_leI]
    rw [if_pos z, hu]
    show nI k = nI _
    congr 1
    omega
  · obtain ⟨d, rfl⟩ : ∃ d, k = d + 1 := ⟨k - 1, by omega⟩
    have e1 : nI (a + (d + 1)) - nI 1 = nI (a + d) := pk_sub (by omega)
    have l1 := hL d (by omega)
    have f1 := hf d (by omega)
    simp (disch := omega) only [Tt_L, Tt_S, Tt_C, Tt_Z, Tt_R0, Tt_R1, Tt_R2, Tt_R3, Tt_R4, Tt_R5, q10, eq_self, if_true, if_false, i_0, i_1, i_2, i_3, i_4, i_5, i_6, i_7, i_8, i_9, i_10, i_11, i_13, i_14, i_15, i_16, i_17, i_18, i_19, i_24, i_29, i_30, i_31, i_32, i_138, i_143, i_144, i_254, i_255, i_256, i_257, i_258, i_261, i_264, i_265, i_279, i_280, i_284, i_285, i_286, i_288, i_319, i_320, i_338, i_339, i_575, i_576, i_599, i_600, i_4096, i_8191, i_8192, i_8249, i_8250, i_8256, i_9000, i_16384, i_32767, i_32768, i_65520, i_65521, i_65535, i_65536, i_65999, i_66000, i_1300, i_120, i_156, nI_leI, nI_add, e1, Tt_N, nI_clamp, l1, nI_eq, n_dec2, Nat.add_sub_cancel]
    rw [if_neg z]
    refine ⟨by omega, ?_⟩
    have hud : usd f (d + 1) = if f d = 0 then usd f d else d + 1 := rfl
    by_cases y : f d = 0
    · rw [if_pos y]
      rw [if_pos y] at hud
      exact ih d _ (by omega) ⟨d, rfl, by omega, by omega, rfl, by rw [hu, hud]⟩
    · rw [if_neg y, hu, hud, if_neg y]
      show nI (d + 1) = nI _
      congr 1
      omega
theorem t_bitsFor {N M : Nat} {lens cs : Nat → Int32} {f c : Nat → Nat} (hN : N ≤ 339) (hM : M ≤ 339) (hL : ∀ i, i < N → lens i = nI (f i)) (hC : ∀ i, i < M → cs i = nI (c i)) : Tt (Code_bitsFor 200000 N M lens cs) (fun u => u.1 = nI (sm (fun s => f s * c s) (min N M))) := by
  unfold Code_bitsFor
  refine Tt_W2 (fun mm x2 x3 => ∃ s, x3 = nI s ∧ s ≤ min N M ∧ mm = min N M - s ∧ x2 = nI (sm (fun s => f s * c s) s)) ?_ 200000 (min N M) 0 0 (by omega) ⟨0, rfl, by omega, rfl, rfl⟩
  rintro K mm x2 x3 ⟨s, rfl, hs, rfl, rfl⟩ ih
  unfold Code_bitsFor_4
  by_cases z : s < min N M
  · have l1 := hL s (by omega)
    have c1 := hC s (by omega)
    simp (disch := omega) only [Tt_L, Tt_S, Tt_C, Tt_Z, Tt_R0, Tt_R1, Tt_R2, Tt_R3, Tt_R4, Tt_R5, q10, eq_self, if_true, if_false, i_0, i_1, i_2, i_3, i_4, i_5, i_6, i_7, i_8, i_9, i_10, i_11, i_13, i_14, i_15, i_16, i_17, i_18, i_19, i_24, i_29, i_30, i_31, i_32, i_138, i_143, i_144, i_254, i_255, i_256, i_257, i_258, i_261, i_264, i_265, i_279, i_280, i_284, i_285, i_286, i_288, i_319, i_320, i_338, i_339, i_575, i_576, i_599, i_600, i_4096, i_8191, i_8192, i_8249, i_8250, i_8256, i_9000, i_16384, i_32767, i_32768, i_65520, i_65521, i_65535, i_65536, i_65999, i_66000, i_1300, i_120, i_156, nI_leI, nI_add, Tt_N, nI_clamp, l1, c1, pk_mul]
    rw [if_neg (by omega), if_neg (by omega)]
    exact ⟨by omega, by omega, ih (min N M - (s + 1)) _ _ (by omega) ⟨s + 1, rfl, by omega, rfl, rfl⟩⟩
  · simp (disch := omega) only [Tt_C, nI_leI]
    have e : s = min N M := by omega
    rw [← e]
    by_cases y : N ≤ s
    · rw [if_pos y]; rfl
    · rw [if_neg y, if_pos (by omega)]; rfl
theorem sm_add (f g : Nat → Nat) : ∀ n, sm (fun i => f i + g i) n = sm f n + sm g n := by
  intro n
  induction n with
  | zero => rfl
  | succ n ih =>
    show sm (fun i => f i + g i) n + (f n + g n) = sm f n + f n + (sm g n + g n)
    omega
theorem sm_one (h : Nat → Nat) (x : Nat) : ∀ n, sm (fun s => h s * (if x = s then 1 else 0)) n = if x < n then h x else 0 := by
  intro n
  induction n with
  | zero => rfl
  | succ n ih =>
    show sm (fun s => h s * (if x = s then 1 else 0)) n + h n * (if x = n then 1 else 0) = _
    rw [ih]
    rcases Nat.lt_trichotomy x n with z | z | z
    · rw [if_pos z, if_neg (by omega), if_pos (by omega)]; omega
    · subst z; rw [if_neg (by omega), if_pos rfl, if_pos (by omega)]; omega
    · rw [if_neg (by omega), if_neg (by omega), if_neg (by omega)]; omega
theorem sm_cn (h g : Nat → Nat) (M : Nat) : ∀ S, sm (fun s => h s * cn g s S) M = sm (fun t => if g t < M then h (g t) else 0) S := by
  intro S
  induction S with
  | zero => exact sm_0 (fun i _ => Nat.mul_zero _)
  | succ S ih =>
    show _ = sm (fun t => if g t < M then h (g t) else 0) S + (if g S < M then h (g S) else 0)
    rw [← ih, ← sm_one h (g S) M, ← sm_add]
    apply sm_c
    intro s _
    show h s * (cn g s S + (if g S = s then 1 else 0)) = _
    rw [Nat.mul_add]
/-- the bits that tokens take with lengths l (symbols from 0, distances from 288) -/
def bitN (b : Nat → Nat) (beg fin T : Nat) (l : Nat → Nat) : Nat := l 256 + sm (fun t => if tL b beg fin t = 0 then l (tV b beg fin t) else l (lsym (tL b beg fin t)) + lex (lsym (tL b beg fin t)) + l (288 + dsym (tV b beg fin t)) + dex (dsym (tV b beg fin t))) T
theorem t_bitsBy {b : Nat → Nat} {n beg fin T N : Nat} {tok : Int32} {of tl tv : Nat → Int32} {l : Nat → Nat} (hb : ∀ i, b i < 256) (hn : n ≤ 8192) (hfn : fin ≤ n) (hT : T ≤ 4096) (hpt : ∀ t, t < T → pos b beg fin t < fin) (hN0 : 320 ≤ N) (hN : N ≤ 339) (h1 : tok = nI T) (hv : ∀ t, t < T → tl t = nI (tL b beg fin t) ∧ tv t = nI (tV b beg fin t)) (hL : ∀ i, i < 320 → of i = nI (l i)) : Tt (M_bitsBy 200000 N of tok tl tv) (fun u => u.1 = nI (bitN b beg fin T l)) := by
  subst h1
  unfold M_bitsBy
  simp (disch := omega) only [Tt_L, Tt_S, Tt_C, Tt_Z, Tt_R0, Tt_R1, Tt_R2, Tt_R3, Tt_R4, Tt_R5, q10, eq_self, if_true, if_false, i_0, i_1, i_2, i_3, i_4, i_5, i_6, i_7, i_8, i_9, i_10, i_11, i_13, i_14, i_15, i_16, i_17, i_18, i_19, i_24, i_29, i_30, i_31, i_32, i_138, i_143, i_144, i_254, i_255, i_256, i_257, i_258, i_261, i_264, i_265, i_279, i_280, i_284, i_285, i_286, i_288, i_319, i_320, i_338, i_339, i_575, i_576, i_599, i_600, i_4096, i_8191, i_8192, i_8249, i_8250, i_8256, i_9000, i_16384, i_32767, i_32768, i_65520, i_65521, i_65535, i_65536, i_65999, i_66000, i_1300, i_120, i_156, Tt_N, nI_clamp, hL 256 (by omega)]
  refine ⟨by omega, ?_⟩
  refine Tt_W2 (fun mm x2 x3 => ∃ t, x3 = nI t ∧ t ≤ T ∧ mm = T - t ∧ x2 = nI (bitN b beg fin t l)) ?_ 200000 T _ _ (by omega) ⟨0, rfl, by omega, rfl, rfl⟩
  rintro K mm x2 x3 ⟨t, rfl, ht, rfl, rfl⟩ ih
  unfold M_bitsBy_8 M_bitsBy_84
  by_cases z : T ≤ t
  · simp (disch := omega) only [Tt_C, nI_leI]
    rw [if_pos z, show T = t by omega]; rfl
  · have tb := @tok_b b beg fin n t hb (hpt t (by omega)) hfn
    have v1 := (hv t (by omega)).1
    have v2 := (hv t (by omega)).2
    have bn : bitN b beg fin (t + 1) l = bitN b beg fin t l + (if tL b beg fin t = 0 then l (tV b beg fin t) else l (lsym (tL b beg fin t)) + lex (lsym (tL b beg fin t)) + l (288 + dsym (tV b beg fin t)) + dex (dsym (tV b beg fin t))) := by
      unfold bitN
      show _ + (_ + _) = _
      omega
    have yl := y_lsymM (tL b beg fin t) (by omega)
    simp (disch := omega) only [Tt_L, Tt_S, Tt_C, Tt_Z, Tt_R0, Tt_R1, Tt_R2, Tt_R3, Tt_R4, Tt_R5, q10, eq_self, if_true, if_false, i_0, i_1, i_2, i_3, i_4, i_5, i_6, i_7, i_8, i_9, i_10, i_11, i_13, i_14, i_15, i_16, i_17, i_18, i_19, i_24, i_29, i_30, i_31, i_32, i_138, i_143, i_144, i_254, i_255, i_256, i_257, i_258, i_261, i_264, i_265, i_279, i_280, i_284, i_285, i_286, i_288, i_319, i_320, i_338, i_339, i_575, i_576, i_599, i_600, i_4096, i_8191, i_8192, i_8249, i_8250, i_8256, i_9000, i_16384, i_32767, i_32768, i_65520, i_65521, i_65535, i_65536, i_65999, i_66000, i_1300, i_120, i_156, nI_leI, nI_add, Tt_N, nI_clamp, v1, v2, yl]
    rw [if_neg z]
    refine ⟨by omega, by omega, ?_⟩
    refine Tt_m (t_dsymM (by omega) rfl) ?_
    rintro ⟨r, _⟩ hr
    have hr' : r = nI (dsym (tV b beg fin t)) := hr
    subst hr'
    rcases tb with tb | tb
    · simp (disch := omega) only [Tt_L, Tt_S, Tt_C, Tt_Z, Tt_R0, Tt_R1, Tt_R2, Tt_R3, Tt_R4, Tt_R5, q10, eq_self, if_true, if_false, i_0, i_1, i_2, i_3, i_4, i_5, i_6, i_7, i_8, i_9, i_10, i_11, i_13, i_14, i_15, i_16, i_17, i_18, i_19, i_24, i_29, i_30, i_31, i_32, i_138, i_143, i_144, i_254, i_255, i_256, i_257, i_258, i_261, i_264, i_265, i_279, i_280, i_284, i_285, i_286, i_288, i_319, i_320, i_338, i_339, i_575, i_576, i_599, i_600, i_4096, i_8191, i_8192, i_8249, i_8250, i_8256, i_9000, i_16384, i_32767, i_32768, i_65520, i_65521, i_65535, i_65536, i_65999, i_66000, i_1300, i_120, i_156, nI_eq, Tt_N, nI_clamp, nI_add, tb.1, hL (tV b beg fin t) (by omega)]
      refine ⟨by omega, by omega, by omega, ih (T - (t + 1)) _ _ (by omega) ⟨t + 1, rfl, by omega, rfl, ?_⟩⟩
      rw [bn, if_pos tb.1]
    · have n0 : ¬ (tL b beg fin t = 0) := by omega
      have ylb := y_lsymB (tL b beg fin t) (by omega)
      have yd := @y_drest (tV b beg fin t) (by omega) (by omega)
      have yx := (y_lex (lsym (tL b beg fin t)) ylb.2 ylb.1).1
      have ye := (y_dex (dsym (tV b beg fin t)) yd.1).1
      simp (disch := omega) only [Tt_L, Tt_S, Tt_C, Tt_Z, Tt_R0, Tt_R1, Tt_R2, Tt_R3, Tt_R4, Tt_R5, q10, eq_self, if_true, if_false, i_0, i_1, i_2, i_3, i_4, i_5, i_6, i_7, i_8, i_9, i_10, i_11, i_13, i_14, i_15, i_16, i_17, i_18, i_19, i_24, i_29, i_30, i_31, i_32, i_138, i_143, i_144, i_254, i_255, i_256, i_257, i_258, i_261, i_264, i_265, i_279, i_280, i_284, i_285, i_286, i_288, i_319, i_320, i_338, i_339, i_575, i_576, i_599, i_600, i_4096, i_8191, i_8192, i_8249, i_8250, i_8256, i_9000, i_16384, i_32767, i_32768, i_65520, i_65521, i_65535, i_65536, i_65999, i_66000, i_1300, i_120, i_156, nI_eq, Tt_N, nI_clamp, nI_add, yx, ye, hL (lsym (tL b beg fin t)) (by omega), hL (288 + dsym (tV b beg fin t)) (by omega)]
      rw [if_neg n0]
      refine ⟨by omega, by omega, by omega, ih (T - (t + 1)) _ _ (by omega) ⟨t + 1, rfl, by omega, rfl, ?_⟩⟩
      rw [bn, if_neg n0]
/-- the program's sum over symbols is the reference's over tokens -/
theorem bits_eq {b : Nat → Nat} {n beg fin T : Nat} {l : Nat → Nat} (hb : ∀ i, b i < 256) (hn : n ≤ 8192) (hfn : fin ≤ n) (hpt : ∀ t, t < T → pos b beg fin t < fin) : sm (fun s => l s * (cn (sOf b beg fin) s T + (if s = 256 then 1 else 0))) 286 + sm (fun d => l (288 + d) * cn (dOf b beg fin) d T) 30 + sm (xOf b beg fin) T = bitN b beg fin T l := by
  have e1 : sm (fun s => l s * (cn (sOf b beg fin) s T + (if s = 256 then 1 else 0))) 286 = sm (fun s => l s * cn (sOf b beg fin) s T) 286 + l 256 := by
    have : sm (fun s => l s * (if 256 = s then 1 else 0)) 286 = l 256 := by rw [sm_one, if_pos (by omega)]
    rw [← this, ← sm_add]
    apply sm_c
    intro s _
    rw [Nat.mul_add]
    congr 2
    by_cases e : s = 256
    · rw [if_pos e, if_pos e.symm]
    · rw [if_neg e, if_neg (fun q => e q.symm)]
  rw [e1, sm_cn l, sm_cn (fun d => l (288 + d))]
  unfold bitN
  have key : sm (fun t => if tL b beg fin t = 0 then l (tV b beg fin t) else l (lsym (tL b beg fin t)) + lex (lsym (tL b beg fin t)) + l (288 + dsym (tV b beg fin t)) + dex (dsym (tV b beg fin t))) T = sm (fun t => ((if sOf b beg fin t < 286 then l (sOf b beg fin t) else 0) + (if dOf b beg fin t < 30 then l (288 + dOf b beg fin t) else 0)) + xOf b beg fin t) T := by
    apply sm_c
    intro t ht
    have tb := @tok_b b beg fin n t hb (hpt t ht) hfn
    unfold sOf dOf xOf
    rcases tb with tb | tb
    · rw [if_pos tb.1, if_pos tb.1, if_pos tb.1, if_pos tb.1, if_pos (by omega), if_neg (by omega)]
      omega
    · have n0 : ¬ (tL b beg fin t = 0) := by omega
      have ylb := y_lsymB (tL b beg fin t) (by omega)
      have yd := @y_drest (tV b beg fin t) (by omega) (by omega)
      rw [if_neg n0, if_neg n0, if_neg n0, if_neg n0, if_pos (by omega), if_pos (by omega)]
      omega
  rw [key, sm_add, sm_add]
  omega
theorem bitN_b {b : Nat → Nat} {n beg fin T : Nat} {l : Nat → Nat} (hb : ∀ i, b i < 256) (hn : n ≤ 8192) (hfn : fin ≤ n) (hpt : ∀ t, t < T → pos b beg fin t < fin) (hl : ∀ i, i < 320 → l i ≤ 15) : ∀ t, t ≤ T → bitN b beg fin t l ≤ 15 + 48 * t := by
  intro t
  induction t with
  | zero => intro _; have := hl 256 (by omega); show l 256 + 0 ≤ _; omega
  | succ t ih =>
    intro ht
    have i1 := ih (by omega)
    have tb := @tok_b b beg fin n t hb (hpt t (by omega)) hfn
    have bn : bitN b beg fin (t + 1) l = bitN b beg fin t l + (if tL b beg fin t = 0 then l (tV b beg fin t) else l (lsym (tL b beg fin t)) + lex (lsym (tL b beg fin t)) + l (288 + dsym (tV b beg fin t)) + dex (dsym (tV b beg fin t))) := by
      unfold bitN
      show _ + (_ + _) = _
      omega
    rw [bn]
    rcases tb with tb | tb
    · rw [if_pos tb.1]
      have := hl (tV b beg fin t) (by omega)
      omega
    · have n0 : ¬ (tL b beg fin t = 0) := by omega
      rw [if_neg n0]
      have ylb := y_lsymB (tL b beg fin t) (by omega)
      have yd := @y_drest (tV b beg fin t) (by omega) (by omega)
      have a1 := hl (lsym (tL b beg fin t)) (by omega)
      have a2 := hl (288 + dsym (tV b beg fin t)) (by omega)
      have a3 := (y_lex (lsym (tL b beg fin t)) ylb.2 ylb.1).2.2
      have a4 := (y_dex (dsym (tV b beg fin t)) yd.1).2.2
      omega
