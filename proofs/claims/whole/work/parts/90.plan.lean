/-! the plan of a made part: program -/
/-- what is known of one part's lengths and tellings -/
def pH (fS : Nat → Nat) : Nat := max 257 (usd fS 286)
def pD (fD : Nat → Nat) : Nat := max 1 (usd fD 30)
def pL (fS fD : Nat → Nat) : Lg := told (rowF fS fD (pH fS)) (pH fS + pD fD)
def pF (fS fD : Nat → Nat) : Nat → Nat := fitL (fun s => cn (pL fS fD).2.1 s (pL fS fD).1) 19 7
def pB (fS fD : Nat → Nat) : Nat := sm (fun t => pF fS fD ((pL fS fD).2.1 t) + rex ((pL fS fD).2.1 t)) (pL fS fD).1
theorem pH_b (fS : Nat → Nat) : 257 ≤ pH fS ∧ pH fS ≤ 286 := by
  have := usd_le fS 286
  unfold pH
  omega
theorem pD_b (fD : Nat → Nat) : 1 ≤ pD fD ∧ pD fD ≤ 30 := by
  have := usd_le fD 30
  unfold pD
  omega
theorem rws_n (f : Nat → Nat) (n : Nat) : ∀ N k L, n - k ≤ N → L.1 ≤ k → k ≤ n → (rws f n (n - k) k L).1 ≤ n := by
  intro N
  induction N with
  | zero =>
    intro k L h1 h2 h3
    rw [show n - k = 0 by omega]
    show L.1 ≤ n
    omega
  | succ N ih =>
    intro k L h1 h2 h3
    by_cases z : k = n
    · rw [show n - k = 0 by omega]
      show L.1 ≤ n
      omega
    · have l0 : lcp f k (k + 1) (n - k - 1) ≤ n - k - 1 := (lcp_ok f k (k + 1) (n - k - 1)).1
      have es : stl f n k = lcp f k (k + 1) (n - k - 1) + 1 := rfl
      rw [rws_s (by omega)]
      have tn := @tlv_n (f k) (stl f n k) L (by omega)
      exact ih _ _ (by omega) (by omega) (by omega)
theorem told_n (f : Nat → Nat) (n : Nat) : (told f n).1 ≤ n := rws_n f n n 0 _ (by omega) (Nat.le_refl 0) (Nat.zero_le n)
theorem sm_mc {f g : Nat → Nat} (h : ∀ i, f i = g i) (n : Nat) : sm f n = sm g n := sm_c (fun i _ => h i)
theorem fitL_hi {c : Nat → Nat} {n K x : Nat} (hK0 : 0 < K) (hK : (n - 1) / 2 ^ (K - 1) = 0) : fitL c n K x ≤ K := by
  obtain ⟨o1, o2, o3, o4, o5⟩ := rk_ok c n
  unfold fitL
  split
  · omega
  · split
    · split <;> omega
    · rename_i h1 h2
      refine gH_hi (by omega) ?_ o3
      have : ((rk c n).1 - 1) / 2 ^ (K - 1) ≤ (n - 1) / 2 ^ (K - 1) := Nat.div_le_div_right (by omega)
      omega
theorem fitL_lo {c : Nat → Nat} {n K x : Nat} (hK0 : 0 < K) (hK : (n - 1) / 2 ^ (K - 1) = 0) (hx : x < n) (hc : 0 < c x) : 0 < fitL c n K x := by
  obtain ⟨o1, o2, o3, o4, o5⟩ := rk_ok c n
  obtain ⟨a, ha, hr⟩ := o5 x hx hc
  unfold fitL
  rw [if_neg (by omega)]
  split
  · rename_i h1
    have : a = 0 := by omega
    rw [this] at hr
    rw [if_pos hr]
    omega
  · rename_i h1
    have := @gH_lo (rk c n).1 (fun a => c ((rk c n).2 a)) (rk c n).2 K a (by omega) hK0 (by
      have : ((rk c n).1 - 1) / 2 ^ (K - 1) ≤ (n - 1) / 2 ^ (K - 1) := Nat.div_le_div_right (by omega)
      omega) o4 ha
    rw [hr] at this
    omega
theorem fitL_0 {c : Nat → Nat} {n K x : Nat} (hK0 : 0 < K) (hK : (n - 1) / 2 ^ (K - 1) = 0) (hx : n ≤ x) : fitL c n K x = 0 := by
  obtain ⟨o1, o2, o3, o4, o5⟩ := rk_ok c n
  unfold fitL
  split
  · rfl
  · split
    · rename_i h1 h2
      have := (o2 0 (by omega)).1
      rw [if_neg (by omega)]
    · rename_i h1 h2
      refine gH_0 (by omega) ?_ (fun a ha => ?_)
      · have : ((rk c n).1 - 1) / 2 ^ (K - 1) ≤ (n - 1) / 2 ^ (K - 1) := Nat.div_le_div_right (by omega)
        omega
      · have := (o2 a ha).1
        omega
theorem rk_ext {c : Nat → Nat} {n : Nat} : ∀ k, (∀ i, n ≤ i → i < n + k → c i = 0) → rk c (n + k) = rk c n := by
  intro k
  induction k with
  | zero => intro _; rfl
  | succ k ih =>
    intro h
    have e : rk c (n + k + 1) = rk c (n + k) := if_neg (by rw [h (n + k) (by omega) (by omega)]; omega)
    rw [show n + (k + 1) = n + k + 1 by omega, e]
    exact ih (fun i h1 h2 => h i h1 (by omega))
theorem fitL_ext {c : Nat → Nat} {n k K x : Nat} (h : ∀ i, n ≤ i → i < n + k → c i = 0) : fitL c (n + k) K x = fitL c n K x := by
  unfold fitL
  rw [rk_ext k h]
theorem rex_0 {w : Nat} (h : w < 16) : rex w = 0 := by
  unfold rex
  rw [if_neg (by omega), if_neg (by omega), if_neg (by omega)]
theorem pB_e {f : Nat → Nat} {L : Lg} (hB : LgB L) : sm (fun t => f (L.2.1 t) + rex (L.2.1 t)) L.1 = sm (fun s => f s * cn L.2.1 s L.1) 19 + sm (fun s => cn L.2.1 s L.1 * rex s) 19 := by
  have e1 : sm (fun s => f s * cn L.2.1 s L.1) 19 + sm (fun s => cn L.2.1 s L.1 * rex s) 19 = sm (fun s => (fun s => f s + rex s) s * cn L.2.1 s L.1) 19 := by
    rw [← sm_add]
    apply sm_c
    intro s _
    rw [Nat.add_mul, Nat.mul_comm (rex s)]
  rw [e1, sm_cn (fun s => f s + rex s)]
  apply sm_c
  intro t ht
  rw [if_pos (hB t ht).1]
theorem t_plan {l1 l2 row counts td clens lc ls ib it nx co : Nat → Int32} {pr : Nat → Nat → Int32} {fS fD : Nat → Nat} {rl tc sl dl cl many : Int32} (hS : ∀ i, i < 286 → l1 i = nI (fS i)) (hS' : ∀ i, i < 286 → fS i ≤ 15) (hD : ∀ i, i < 30 → l2 i = nI (fD i)) (hD' : ∀ i, i < 30 → fD i ≤ 15) : Tt (Header_plan 200000 286 30 19 19 l1 l2 rl tc sl dl cl row counts td clens many lc ls ib it pr nx co) (fun (r, _, tc, sl, dl, cl, _, cs, td, cle, _, _, _, _, _, _, _, co) => r = nI (14 + 3 * cln (pF fS fD) 19 + pB fS fD) ∧ CT tc td cs (pL fS fD) ∧ sl = nI (pH fS) ∧ dl = nI (pD fD) ∧ cl = nI (cln (pF fS fD) 19) ∧ (∀ s, s < 19 → cle s = nI (pF fS fD s)) ∧ ∀ s, s < 19 → 0 < pF fS fD s → co s = nI (rv (cde (pF fS fD) 19 s) (pF fS fD s))) := by
  have bH := pH_b fS
  have bD := pD_b fD
  unfold Header_plan
  rw [Tt_R4]
  refine Tt_m (t_gather hS hS' hD hD') ?_
  rintro ⟨_, rl1, sl1, dl1, row1⟩ ⟨g1, g2, g3, g4⟩
  dsimp only at g1 g2 g3 g4 ⊢
  have hrow : ∀ i, i < pH fS + pD fD → rowF fS fD (pH fS) i ≤ 15 := by
    intro i hi
    unfold rowF
    split
    · exact hS' i (by omega)
    · exact hD' _ (by omega)
  rw [Tt_R3]
  refine Tt_m (t_tellRowC (f := rowF fS fD (pH fS)) (n := pH fS + pD fD) g1 (by omega) g4 hrow) ?_
  rintro ⟨_, tc1, cs1, td1⟩ hCT
  dsimp only at hCT ⊢
  have hCT' : CT tc1 td1 cs1 (pL fS fD) := hCT
  have ln : (pL fS fD).1 ≤ pH fS + pD fD := told_n _ _
  rw [Tt_R7]
  refine Tt_m (t_fit (n := 19) (K := 7) (c := fun s => cn (pL fS fD).2.1 s (pL fS fD).1) (by omega) hCT'.2.2.1 (fun i => by have := cn_le (pL fS fD).2.1 i (pL fS fD).1; omega) (by omega) (by omega) (by decide) rfl) ?_
  rintro ⟨_, cle1, many1, lc1, ls1, ib1, it1, pr1⟩ hF
  dsimp only at hF ⊢
  have hF' : ∀ x, x < 19 → cle1 x = nI (pF fS fD x) := hF
  have hF7 : ∀ x, pF fS fD x ≤ 7 := fun x => fitL_hi (by omega) (by decide)
  rw [Tt_R2]
  refine Tt_m (t_assign (N := 19) (by omega) hF' (fun i hi => by have := hF7 i; omega)) ?_
  rintro ⟨_, nx1, co1⟩ hA
  dsimp only at hA ⊢
  have pBe : pB fS fD = sm (fun s => pF fS fD s * cn (pL fS fD).2.1 s (pL fS fD).1) 19 + sm (fun s => cn (pL fS fD).2.1 s (pL fS fD).1 * rex s) 19 := pB_e hCT'.2.2.2
  generalize pF fS fD = f at *
  generalize pL fS fD = L at *
  refine Tt_W17 (fun mm a1 a2 a3 a4 a5 a6 a7 a8 a9 _ _ _ _ _ _ _ a17 => a2 = tc1 ∧ a3 = sl1 ∧ a4 = dl1 ∧ a7 = cs1 ∧ a8 = td1 ∧ a9 = cle1 ∧ a17 = co1 ∧ ∃ k, a5 = nI k ∧ k ≤ 19 ∧ 4 ≤ k ∧ mm = k ∧ cln f 19 = cln f k) ?_ 200000 19 _ _ _ _ _ _ _ _ _ _ _ _ _ _ _ _ _ (by omega) ⟨rfl, rfl, rfl, rfl, rfl, rfl, rfl, 19, rfl, by omega, by omega, rfl, rfl⟩
  rintro K mm a1 a2 a3 a4 a5 a6 a7 a8 a9 a10 a11 a12 a13 a14 a15 a16 a17 ⟨rfl, rfl, rfl, rfl, rfl, rfl, rfl, k, rfl, hk1, hk2, rfl, hcl⟩ ih
  have out : cln f 19 = k → Tt (Header_plan_86 200000 19 a1 a2 a3 a4 (nI k) a6 a7 a8 a9 a10 a11 a12 a13 a14 a15 a16 a17) (fun (r, _, tc, sl, dl, cl, _, cs, td, cle, _, _, _, _, _, _, _, co) => r = nI (14 + 3 * cln f 19 + pB fS fD) ∧ CT tc td cs L ∧ sl = nI (pH fS) ∧ dl = nI (pD fD) ∧ cl = nI (cln f 19) ∧ (∀ s, s < 19 → cle s = nI (f s)) ∧ ∀ s, s < 19 → 0 < f s → co s = nI (rv (cde f 19 s) (f s))) := by
    intro e
    unfold Header_plan_86
    rw [Tt_R0]
    refine Tt_m (t_bitsFor (N := 19) (M := 19) (by omega) (by omega) hF' hCT'.2.2.1) ?_
    rintro ⟨r4, _⟩ h4
    have h4' : r4 = nI (sm (fun s => f s * cn L.2.1 s L.1) 19) := h4
    subst h4'
    simp only [Tt_L, i_0, i_1, i_2, i_3, i_4, i_5, i_6, i_7, i_8, i_9, i_10, i_11, i_13, i_14, i_15, i_16, i_17, i_18, i_19, i_24, i_29, i_30, i_31, i_32, i_138, i_143, i_144, i_254, i_255, i_256, i_257, i_258, i_261, i_264, i_265, i_279, i_280, i_284, i_285, i_286, i_288, i_319, i_320, i_338, i_339, i_575, i_576, i_599, i_600, i_4096, i_8191, i_8192, i_8249, i_8250, i_8256, i_9000, i_16384, i_32767, i_32768, i_65520, i_65521, i_65535, i_65536, i_65999, i_66000, i_1300, i_120, i_156, pk_mul, nI_add]
    refine Tt_W19 (fun mm b1 b2 b3 b4 b5 b6 b7 b8 b9 _ _ _ _ _ _ _ b17 x3 x4 => b2 = a2 ∧ b3 = a3 ∧ b4 = a4 ∧ b5 = nI k ∧ b7 = a7 ∧ b8 = a8 ∧ b9 = a9 ∧ b17 = a17 ∧ ∃ s, x4 = nI s ∧ 16 ≤ s ∧ s ≤ 19 ∧ mm = 19 - s ∧ x3 = nI (14 + 3 * k + sm (fun s => f s * cn L.2.1 s L.1) 19 + sm (fun s => cn L.2.1 s L.1 * rex s) s)) ?_ 200000 3 _ _ _ _ _ _ _ _ _ _ _ _ _ _ _ _ _ _ _ (by omega) ⟨rfl, rfl, rfl, rfl, rfl, rfl, rfl, rfl, 16, rfl, by omega, by omega, rfl, ?_⟩
    · rintro K2 mm b1 b2 b3 b4 b5 b6 b7 b8 b9 b10 b11 b12 b13 b14 b15 b16 b17 x3 x4 ⟨rfl, rfl, rfl, rfl, rfl, rfl, rfl, rfl, s, rfl, hs1, hs2, rfl, rfl⟩ ih2
      unfold Header_plan_112
      by_cases z : 19 ≤ s
      · have es : s = 19 := by omega
        subst es
        simp (disch := omega) only [Tt_C, Tt_S, i_0, i_1, i_2, i_3, i_4, i_5, i_6, i_7, i_8, i_9, i_10, i_11, i_13, i_14, i_15, i_16, i_17, i_18, i_19, i_24, i_29, i_30, i_31, i_32, i_138, i_143, i_144, i_254, i_255, i_256, i_257, i_258, i_261, i_264, i_265, i_279, i_280, i_284, i_285, i_286, i_288, i_319, i_320, i_338, i_339, i_575, i_576, i_599, i_600, i_4096, i_8191, i_8192, i_8249, i_8250, i_8256, i_9000, i_16384, i_32767, i_32768, i_65520, i_65521, i_65535, i_65536, i_65999, i_66000, i_1300, i_120, i_156, nI_leI]
        rw [if_pos z]
        refine ⟨?_, hCT', g2, g3, by rw [e], hF', hA⟩
        rw [e, pBe]
        congr 1
        omega
      · have yr := y_rex s (by omega)
        have cs := hCT'.2.2.1 s (by omega)
        simp (disch := omega) only [Tt_L, Tt_S, Tt_C, Tt_Z, Tt_R0, Tt_R1, Tt_R2, Tt_R3, Tt_R4, Tt_R5, q10, eq_self, if_true, if_false, i_0, i_1, i_2, i_3, i_4, i_5, i_6, i_7, i_8, i_9, i_10, i_11, i_13, i_14, i_15, i_16, i_17, i_18, i_19, i_24, i_29, i_30, i_31, i_32, i_138, i_143, i_144, i_254, i_255, i_256, i_257, i_258, i_261, i_264, i_265, i_279, i_280, i_284, i_285, i_286, i_288, i_319, i_320, i_338, i_339, i_575, i_576, i_599, i_600, i_4096, i_8191, i_8192, i_8249, i_8250, i_8256, i_9000, i_16384, i_32767, i_32768, i_65520, i_65521, i_65535, i_65536, i_65999, i_66000, i_1300, i_120, i_156, nI_leI, Tt_N, nI_clamp, yr.1, cs, pk_mul, nI_add]
        rw [if_neg z]
        exact ⟨by omega, ih2 (19 - (s + 1)) _ _ _ _ _ _ _ _ _ _ _ _ _ _ _ _ _ _ _ (by omega) ⟨rfl, rfl, rfl, rfl, rfl, rfl, rfl, rfl, s + 1, rfl, by omega, by omega, rfl, rfl⟩⟩
    · congr 1
      rw [sm_0 (f := fun s => cn L.2.1 s L.1 * rex s) (n := 16) (fun i hi => by show cn L.2.1 i L.1 * rex i = 0; rw [rex_0 hi, Nat.mul_zero])]
      rfl
  unfold Header_plan_45
  by_cases z : k ≤ 4
  · simp (disch := omega) only [Tt_C, i_0, i_1, i_2, i_3, i_4, i_5, i_6, i_7, i_8, i_9, i_10, i_11, i_13, i_14, i_15, i_16, i_17, i_18, i_19, i_24, i_29, i_30, i_31, i_32, i_138, i_143, i_144, i_254, i_255, i_256, i_257, i_258, i_261, i_264, i_265, i_279, i_280, i_284, i_285, i_286, i_288, i_319, i_320, i_338, i_339, i_575, i_576, i_599, i_600, i_4096, i_8191, i_8192, i_8249, i_8250, i_8256, i_9000, i_16384, i_32767, i_32768, i_65520, i_65521, i_65535, i_65536, i_65999, i_66000, i_1300, i_120, i_156, nI_leI]
    rw [if_pos z]
    apply out
    have : k = 4 := by omega
    rw [hcl, this]
    rfl
  · obtain ⟨d, rfl⟩ : ∃ d, k = d + 1 := ⟨k - 1, by omega⟩
    have yo := y_ord d (by omega)
    have e1 : nI (d + 1) - nI 1 = nI d := nI_pred d
    have g := @t_lengthOf 19 (ord d) a9 f (nI (ord d)) (by omega) hF' yo.2.2 rfl
    have f7 := hF7 (ord d)
    have cd : cln f (d + 1) = if d + 1 ≤ 4 then d + 1 else if f (ord d) = 0 then cln f d else d + 1 := rfl
    rw [if_neg z] at cd
    simp (disch := omega) only [Tt_L, Tt_S, Tt_C, Tt_Z, Tt_R0, Tt_R1, Tt_R2, Tt_R3, Tt_R4, Tt_R5, q10, eq_self, if_true, if_false, i_0, i_1, i_2, i_3, i_4, i_5, i_6, i_7, i_8, i_9, i_10, i_11, i_13, i_14, i_15, i_16, i_17, i_18, i_19, i_24, i_29, i_30, i_31, i_32, i_138, i_143, i_144, i_254, i_255, i_256, i_257, i_258, i_261, i_264, i_265, i_279, i_280, i_284, i_285, i_286, i_288, i_319, i_320, i_338, i_339, i_575, i_576, i_599, i_600, i_4096, i_8191, i_8192, i_8249, i_8250, i_8256, i_9000, i_16384, i_32767, i_32768, i_65520, i_65521, i_65535, i_65536, i_65999, i_66000, i_1300, i_120, i_156, nI_leI, e1, Tt_N, nI_clamp, yo.1, g, nI_eq]
    rw [if_neg z]
    refine ⟨by omega, ?_⟩
    by_cases y : f (ord d) = 0
    · rw [if_pos y]
      rw [if_pos y] at cd
      exact ih d _ _ _ _ _ _ _ _ _ _ _ _ _ _ _ _ _ (by omega) ⟨rfl, rfl, rfl, rfl, rfl, rfl, rfl, d, rfl, by omega, by omega, rfl, by rw [hcl, cd]⟩
    · rw [if_neg y]
      rw [if_neg y] at cd
      exact out (by rw [hcl, cd])
