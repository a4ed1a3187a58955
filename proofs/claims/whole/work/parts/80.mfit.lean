/-! lengths of codes: the reference -/
theorem t_rank {a n : Nat} {counts ranked : Nat → Int32} {c : Nat → Nat} {x1 x2 : Int32} (h1 : x1 = nI a) (h2 : x2 = nI n) (hn : n ≤ 288) (han : a + n ≤ 339) (hp : ∀ s, s < n → counts (a + s) = nI (c s)) (hc : ∀ i, c i < 2 ^ 30) : Tt (M_rank 200000 counts ranked x1 x2) (fun u => u.1 = nI (rk c n).1 ∧ ∀ z, z < (rk c n).1 → u.2 z = nI ((rk c n).2 z)) := by
  subst h1 h2
  unfold M_rank
  refine Tt_W3 (fun mm ranked x3 x4 => ∃ s, x4 = nI s ∧ s ≤ n ∧ mm = n - s ∧ x3 = nI (rk c s).1 ∧ ∀ z, z < (rk c s).1 → ranked z = nI ((rk c s).2 z)) ?_ 200000 n ranked 0 0 (by omega) ⟨0, rfl, by omega, rfl, rfl, fun z hz => absurd hz (Nat.not_lt_zero z)⟩
  rintro K mm ranked x3 x4 ⟨s, rfl, hs, rfl, rfl, hR⟩ ih
  obtain ⟨ok, ok2, _⟩ := rk_ok c s
  unfold M_rank_5
  by_cases z : n ≤ s
  · simp only [Tt_C]
    rw [if_pos (by rw [nI_leI (by omega) (by omega)]; exact z)]
    rw [show n = s by omega]
    exact ⟨rfl, hR⟩
  · have e := hp s (by omega)
    have c1 := hc s
    simp (disch := omega) only [Tt_L, Tt_S, Tt_C, Tt_Z, Tt_R0, Tt_R1, Tt_R2, Tt_R3, Tt_R4, Tt_R5, q10, eq_self, if_true, if_false, i_0, i_1, i_2, i_3, i_4, i_5, i_6, i_7, i_8, i_9, i_10, i_11, i_13, i_14, i_15, i_16, i_17, i_18, i_19, i_24, i_29, i_30, i_31, i_32, i_138, i_143, i_144, i_254, i_255, i_256, i_257, i_258, i_261, i_264, i_265, i_279, i_280, i_284, i_285, i_286, i_288, i_319, i_320, i_338, i_339, i_575, i_576, i_599, i_600, i_4096, i_8191, i_8192, i_8249, i_8250, i_8256, i_9000, i_16384, i_32767, i_32768, i_65520, i_65521, i_65535, i_65536, i_65999, i_66000, i_1300, i_120, i_156, nI_leI, Tt_N, nI_clamp, e, nI_add]
    rw [if_neg z]
    refine ⟨by omega, ?_⟩
    by_cases y : c s ≤ 0
    · rw [if_pos y]
      unfold M_rank_93
      have e1 : rk c (s + 1) = rk c s := if_neg (by omega)
      simp only [Tt_L, i_0, i_1, i_2, i_3, i_4, i_5, i_6, i_7, i_8, i_9, i_10, i_11, i_13, i_14, i_15, i_16, i_17, i_18, i_19, i_24, i_29, i_30, i_31, i_32, i_138, i_143, i_144, i_254, i_255, i_256, i_257, i_258, i_261, i_264, i_265, i_279, i_280, i_284, i_285, i_286, i_288, i_319, i_320, i_338, i_339, i_575, i_576, i_599, i_600, i_4096, i_8191, i_8192, i_8249, i_8250, i_8256, i_9000, i_16384, i_32767, i_32768, i_65520, i_65521, i_65535, i_65536, i_65999, i_66000, i_1300, i_120, i_156, nI_add]
      refine ih (n - (s + 1)) _ _ _ (by omega) ⟨s + 1, rfl, by omega, rfl, ?_, ?_⟩
      · rw [e1]
      · rw [e1]; exact hR
    · rw [if_neg y]
      have e1 : rk c (s + 1) = ((rk c s).1 + 1, rkI (rk c s).2 (rkP c (rk c s).2 (c s) (rk c s).1) s) := if_pos (by omega)
      have fin : ∀ ranked', (∀ z, z < (rk c s).1 + 1 → ranked' z = nI (rkI (rk c s).2 (rkP c (rk c s).2 (c s) (rk c s).1) s z)) → Tt (K ranked' (nI ((rk c s).1 + 1)) (nI (s + 1))) (fun u => u.1 = nI (rk c n).1 ∧ ∀ z, z < (rk c n).1 → u.2 z = nI ((rk c n).2 z)) := by
        intro ranked' h
        refine ih (n - (s + 1)) _ _ _ (by omega) ⟨s + 1, rfl, by omega, rfl, ?_, ?_⟩
        · rw [e1]
        · rw [e1]; exact h
      generalize (rk c s).1 = m at *
      generalize (rk c s).2 = r at *
      refine Tt_W4 (fun k' ranked x3 x4 x5 => ∃ k, x3 = nI m ∧ x4 = nI s ∧ x5 = nI k ∧ k' = k ∧ k ≤ m ∧ rkP c r (c s) m = rkP c r (c s) k ∧ (∀ j, j < k → ranked j = nI (r j)) ∧ ∀ j, k < j → j ≤ m → ranked j = nI (r (j - 1))) ?_ 200000 m ranked _ _ _ (by omega) ⟨m, rfl, rfl, rfl, rfl, Nat.le_refl m, rfl, hR, fun j a b => by omega⟩
      rintro K2 k' ranked x3 x4 x5 ⟨k, rfl, rfl, rfl, rfl, hk, hP, hlo, hhi⟩ ih2
      have fin2 : rkP c r (c s) k = k → Tt (M_rank_81 200000 K ranked (nI m) (nI s) (nI k)) (fun u => u.1 = nI (rk c n).1 ∧ ∀ z, z < (rk c n).1 → u.2 z = nI ((rk c n).2 z)) := by
        intro e
        unfold M_rank_81 M_rank_93
        simp (disch := omega) only [Tt_L, Tt_S, Tt_C, Tt_Z, Tt_R0, Tt_R1, Tt_R2, Tt_R3, Tt_R4, Tt_R5, q10, eq_self, if_true, if_false, i_0, i_1, i_2, i_3, i_4, i_5, i_6, i_7, i_8, i_9, i_10, i_11, i_13, i_14, i_15, i_16, i_17, i_18, i_19, i_24, i_29, i_30, i_31, i_32, i_138, i_143, i_144, i_254, i_255, i_256, i_257, i_258, i_261, i_264, i_265, i_279, i_280, i_284, i_285, i_286, i_288, i_319, i_320, i_338, i_339, i_575, i_576, i_599, i_600, i_4096, i_8191, i_8192, i_8249, i_8250, i_8256, i_9000, i_16384, i_32767, i_32768, i_65520, i_65521, i_65535, i_65536, i_65999, i_66000, i_1300, i_120, i_156, Tt_N, nI_clamp, nI_add]
        refine ⟨by omega, fin _ (fun z hz => ?_)⟩
        rw [hP, e]
        unfold rkI
        by_cases w : z = k
        · rw [w, pk_us, if_neg (by omega), if_pos rfl]
        · rw [pk_un w]
          by_cases y : z < k
          · rw [if_pos y]; exact hlo z y
          · rw [if_neg y, if_neg w]; exact hhi z (by omega) (by omega)
      unfold M_rank_26
      by_cases z0 : k = 0
      · simp only [Tt_C]
        rw [if_pos (by rw [z0]; decide)]
        exact fin2 (by rw [z0]; rfl)
      · have e2 : nI k - nI 1 = nI (k - 1) := pk_sub (by omega)
        have l1 := hlo (k - 1) (by omega)
        have l2 := (ok2 (k - 1) (by omega)).1
        have l3 := hp (r (k - 1)) (by omega)
        have c3 := hc (r (k - 1))
        simp (disch := omega) only [Tt_L, Tt_S, Tt_C, Tt_Z, Tt_R0, Tt_R1, Tt_R2, Tt_R3, Tt_R4, Tt_R5, q10, eq_self, if_true, if_false, i_0, i_1, i_2, i_3, i_4, i_5, i_6, i_7, i_8, i_9, i_10, i_11, i_13, i_14, i_15, i_16, i_17, i_18, i_19, i_24, i_29, i_30, i_31, i_32, i_138, i_143, i_144, i_254, i_255, i_256, i_257, i_258, i_261, i_264, i_265, i_279, i_280, i_284, i_285, i_286, i_288, i_319, i_320, i_338, i_339, i_575, i_576, i_599, i_600, i_4096, i_8191, i_8192, i_8249, i_8250, i_8256, i_9000, i_16384, i_32767, i_32768, i_65520, i_65521, i_65535, i_65536, i_65999, i_66000, i_1300, i_120, i_156, nI_leI, Tt_N, nI_clamp, e2, l1, l3, e, nI_add, n_dec2]
        rw [if_neg (by omega)]
        refine ⟨by omega, by omega, by omega, ?_⟩
        have ek : k = (k - 1) + 1 := by omega
        by_cases y : c (r (k - 1)) ≤ c s
        · rw [if_pos y]
          apply fin2
          conv => lhs; rw [ek]
          show (if c s < c (r (k - 1)) then rkP c r (c s) (k - 1) else k - 1 + 1) = k
          rw [if_neg (by omega)]
          omega
        · rw [if_neg y]
          refine ⟨by omega, by omega, ih2 (k - 1) _ _ _ _ (by omega) ⟨k - 1, rfl, rfl, rfl, rfl, by omega, ?_, fun j hj => ?_, fun j a b => ?_⟩⟩
          · rw [hP]
            conv => lhs; rw [ek]
            show (if c s < c (r (k - 1)) then rkP c r (c s) (k - 1) else k - 1 + 1) = _
            rw [if_pos (by omega)]
          · rw [pk_un (by omega)]; exact hlo j (by omega)
          · by_cases w : j = k
            · rw [w, pk_us]
            · rw [pk_un w]; exact hhi j (by omega) b
theorem n_it1 (x : Int32) : -1 - (-1 - x) = x := by grind
theorem n_it2 (x : Int32) : -(-1 - x) = x + 1 := by grind
theorem n_it3 (x : Int32) : -1 - x = 0 - (x + 1) := by grind
/-- an item of the reference's lists -/
def itm (m : Nat) (w : Nat → Nat) (k i : Nat) : Int32 := if gY m w k i = true then nI (gL m w k i) else -1 - nI (2 * (i - gL m w k i))
theorem t_takeItem {m a K : Nat} {w r : Nat → Nat} {items ranked : Nat → Int32} (hm1 : 2 ≤ m) (hm : m ≤ 288) (hK : K ≤ 15) (hI : ∀ k i, k < K → i < gZ m k → items (600 * k + i) = itm m w k i) (hr : ∀ z, z < m → ranked z = nI (r z)) (ha : ∀ z, z < m → a + r z < 339) : ∀ k i fuel (lens : Nat → Int32), k < K → i < gZ m k → k < fuel → Tt (mW4 (M_takeItem_r 200000 items ranked) fuel lens (nI a) (nI k) (nI i)) (fun u => ∀ j, u.2 j = lens j + nI (gD m w (fun z => a + r z) j k i)) := by
  intro k
  induction k with
  | zero =>
    intro i fuel lens hk hi hf
    obtain ⟨f, rfl⟩ : ∃ f, fuel = f + 1 := ⟨fuel - 1, by omega⟩
    have hi' : i < m := hi
    have gl := gL0 m w i
    have gy : gY m w 0 i = true := by
      apply decide_eq_true
      left
      have : gA m (gQ m 0) w (gP m w 0) i = i := gl
      rw [this]
      exact Nat.sub_self i
    have e0 := hI 0 i hk hi
    unfold itm at e0
    rw [gy, if_pos rfl, gl] at e0
    have ez := hr i hi'
    have az := ha i hi'
    show Tt (M_takeItem_r 200000 items ranked (mW4 (M_takeItem_r 200000 items ranked) f) lens (nI a) (nI 0) (nI i)) _
    unfold M_takeItem_r
    simp (disch := omega) only [Tt_L, Tt_S, Tt_C, Tt_Z, Tt_R0, Tt_R1, Tt_R2, Tt_R3, Tt_R4, Tt_R5, q10, eq_self, if_true, if_false, i_0, i_1, i_2, i_3, i_4, i_5, i_6, i_7, i_8, i_9, i_10, i_11, i_13, i_14, i_15, i_16, i_17, i_18, i_19, i_24, i_29, i_30, i_31, i_32, i_138, i_143, i_144, i_254, i_255, i_256, i_257, i_258, i_261, i_264, i_265, i_279, i_280, i_284, i_285, i_286, i_288, i_319, i_320, i_338, i_339, i_575, i_576, i_599, i_600, i_4096, i_8191, i_8192, i_8249, i_8250, i_8256, i_9000, i_16384, i_32767, i_32768, i_65520, i_65521, i_65535, i_65536, i_65999, i_66000, i_1300, i_120, i_156, pk_mul, nI_add, Tt_N, nI_clamp, e0, n_neg, ez]
    refine ⟨by omega, by omega, by omega, by omega, fun j => ?_⟩
    have eD : gD m w (fun z => a + r z) j 0 i = if a + r (gL m w 0 i) = j then 1 else 0 := rfl
    rw [eD, gl]
    by_cases q : j = a + r i
    · rw [q, pk_us, if_pos rfl]
    · rw [pk_un q, if_neg (fun z => q z.symm), nI_0, Int32.add_zero]
  | succ k ih =>
    intro i fuel lens hk hi hf
    obtain ⟨f, rfl⟩ : ∃ f, fuel = f + 1 := ⟨fuel - 1, by omega⟩
    have zhi := @gZ_hi m (by omega) (k + 1)
    have ze := gZ_e m (k + 1)
    have b1 : gL m w (k + 1) (i + 1) ≤ m ∧ i + 1 - gL m w (k + 1) (i + 1) ≤ gQ m (k + 1) := @gA_b m (gQ m (k + 1)) w (gP m w (k + 1)) (i + 1) (by omega)
    have l0 : gL m w (k + 1) i ≤ i := @gA_le m (gQ m (k + 1)) w (gP m w (k + 1)) i
    have e0 := hI (k + 1) i hk hi
    unfold itm at e0
    have eD : ∀ j, gD m w (fun z => a + r z) j (k + 1) i = if gY m w (k + 1) i = true then (if a + r (gL m w (k + 1) i) = j then 1 else 0) else gD m w (fun z => a + r z) j k (2 * (i - gL m w (k + 1) i)) + gD m w (fun z => a + r z) j k (2 * (i - gL m w (k + 1) i) + 1) := fun j => rfl
    show Tt (M_takeItem_r 200000 items ranked (mW4 (M_takeItem_r 200000 items ranked) f) lens (nI a) (nI (k + 1)) (nI i)) _
    unfold M_takeItem_r
    cases gy : gY m w (k + 1) i with
    | true =>
      have ea : gL m w (k + 1) (i + 1) = gL m w (k + 1) i + 1 := gA_t gy
      rw [gy, if_pos rfl] at e0
      have ez := hr (gL m w (k + 1) i) (by omega)
      have az := ha (gL m w (k + 1) i) (by omega)
      simp (disch := omega) only [Tt_L, Tt_S, Tt_C, Tt_Z, Tt_R0, Tt_R1, Tt_R2, Tt_R3, Tt_R4, Tt_R5, q10, eq_self, if_true, if_false, i_0, i_1, i_2, i_3, i_4, i_5, i_6, i_7, i_8, i_9, i_10, i_11, i_13, i_14, i_15, i_16, i_17, i_18, i_19, i_24, i_29, i_30, i_31, i_32, i_138, i_143, i_144, i_254, i_255, i_256, i_257, i_258, i_261, i_264, i_265, i_279, i_280, i_284, i_285, i_286, i_288, i_319, i_320, i_338, i_339, i_575, i_576, i_599, i_600, i_4096, i_8191, i_8192, i_8249, i_8250, i_8256, i_9000, i_16384, i_32767, i_32768, i_65520, i_65521, i_65535, i_65536, i_65999, i_66000, i_1300, i_120, i_156, pk_mul, nI_add, Tt_N, nI_clamp, e0, n_neg, ez]
      refine ⟨by omega, by omega, by omega, by omega, fun j => ?_⟩
      rw [eD, gy, if_pos rfl]
      by_cases q : j = a + r (gL m w (k + 1) i)
      · rw [q, pk_us, if_pos rfl]
      · rw [pk_un q, if_neg (fun z => q z.symm), nI_0, Int32.add_zero]
    | false =>
      have ea : gL m w (k + 1) (i + 1) = gL m w (k + 1) i := gA_f gy
      rw [gy, if_neg Bool.false_ne_true] at e0
      have q1 : gQ m (k + 1) = gZ m k / 2 := rfl
      generalize hb : i - gL m w (k + 1) i = b at *
      have neg : (-1 - nI (2 * b) : Int32) < 0 := by
        rw [n_it3, nI_1]
        exact pk_sneg (a := 0) (by omega) (by omega)
      have t1 : (-1 : Int32) - (-1 - nI (2 * b)) = nI (2 * b) := n_it1 _
      have t2 : -(-1 - nI (2 * b)) = nI (2 * b + 1) := by rw [n_it2, nI_1]
      have t3 : nI (k + 1) - 1 = nI k := nI_pred k
      have t4 : (600 : Int32) * nI (k + 1) + nI i = nI (600 * (k + 1) + i) := by rw [i_600, pk_mul, nI_add]
      simp only [Tt_L, t4]
      rw [Tt_N (by omega), nI_clamp (by omega), e0]
      simp only [Tt_C, if_pos neg, t1, t2, t3]
      refine ⟨by omega, ?_⟩
      rw [Tt_R1]
      refine Tt_m (ih (2 * b) f lens (by omega) (by omega) (by omega)) ?_
      rintro ⟨_, l2⟩ h2
      rw [Tt_R1]
      refine Tt_m (ih (2 * b + 1) f l2 (by omega) (by omega) (by omega)) ?_
      rintro ⟨_, l3⟩ h3
      intro j
      have h2' := h2 j
      have h3' := h3 j
      dsimp only at h2' h3' ⊢
      rw [eD, gy, if_neg Bool.false_ne_true, h3', h2', Int32.add_assoc, nI_add]
theorem t_find309 {m a K : Nat} {w r : Nat → Nat} {items ranked lens weight wb : Nat → Int32} (hm : m ≤ 288) (hK0 : 0 < K) (hK : K ≤ 15) (hK' : (m - 1) / 2 ^ (K - 1) = 0) (hI : ∀ k i, k < K → i < gZ m k → items (600 * k + i) = itm m w k i) (hr : ∀ z, z < m → ranked z = nI (r z)) (ha : ∀ z, z < m → a + r z < 339) : Tt (M_findLengths_309 200000 (nI a) (nI K) ranked lens weight wb items (nI m)) (fun u => ∀ j, u.2.2.1 j = lens j + nI (if m ≤ 1 then 0 else gH m w (fun z => a + r z) K j)) := by
  unfold M_findLengths_309
  by_cases z : m ≤ 1
  · have e : mW7 (M_findLengths_312 200000 (nI a) (nI K)) 200000 ranked lens weight wb items (nI m) 0 = some ((), ranked, lens, weight, wb, items) := by
      show M_findLengths_312 200000 (nI a) (nI K) (mW7 (M_findLengths_312 200000 (nI a) (nI K)) 199999) ranked lens weight wb items (nI m) 0 = _
      have : m = 0 ∨ m = 1 := by omega
      rcases this with rfl | rfl
      · unfold M_findLengths_312 mC
        rw [if_pos (by decide)]
      · unfold M_findLengths_312 mC
        rw [if_pos (by decide)]
    rw [e]
    intro j
    rw [if_pos z, nI_0, Int32.add_zero]
  · refine Tt_W7 (fun mm ra le we wb' it x4 x6 => ra = ranked ∧ we = weight ∧ wb' = wb ∧ it = items ∧ x4 = nI m ∧ ∃ i, x6 = nI i ∧ i ≤ 2 * m - 2 ∧ mm = 2 * m - 2 - i ∧ ∀ j, le j = lens j + nI (sm (gD m w (fun z => a + r z) j (K - 1)) i)) ?_ 200000 (2 * m - 2) _ _ _ _ _ _ _ (by omega) ⟨rfl, rfl, rfl, rfl, rfl, 0, rfl, by omega, rfl, fun j => by
      show lens j = lens j + nI 0
      rw [nI_0, Int32.add_zero]⟩
    rintro K2 mm ra le we wb' it x4 x6 ⟨rfl, rfl, rfl, rfl, rfl, i, rfl, hi, rfl, hl⟩ ih
    have e2m : (2 : Int32) * nI m - 2 = nI (2 * m - 2) := by rw [i_2, pk_mul, pk_sub (by omega)]
    unfold M_findLengths_312
    simp only [Tt_C, e2m]
    by_cases y : 2 * m - 2 ≤ i
    · rw [if_pos (by rw [nI_leI (by omega) (by omega)]; exact y)]
      intro j
      rw [if_neg z, ← gD_H m w _ j K hK0]
      have : i = 2 * m - 2 := by omega
      rw [← this]
      exact hl j
    · rw [if_neg (by rw [nI_leI (by omega) (by omega)]; exact y), if_neg (by rw [i_1, nI_leI (by omega) (by omega)]; exact z)]
      have zl := @gZ_lo m (by omega) (K - 1)
      have e1 : nI K - 1 = nI (K - 1) := pk_sub (by omega)
      simp only [Tt_L, e1]
      unfold M_takeItem
      rw [Tt_R1]
      refine Tt_m (t_takeItem (by omega) hm hK hI hr ha (K - 1) i 16 le (by omega) (by omega) (by omega)) ?_
      rintro ⟨_, l2⟩ h2
      simp only [Tt_L, nI_1]
      refine ih (2 * m - 2 - (i + 1)) _ _ _ _ _ _ _ (by omega) ⟨rfl, rfl, rfl, rfl, rfl, i + 1, rfl, by omega, rfl, fun j => ?_⟩
      have := h2 j
      dsimp only at this ⊢
      rw [this, hl j, Int32.add_assoc, nI_add]
      rfl
abbrev FlR := Option (Unit × (Nat → Int32) × (Nat → Int32) × (Nat → Int32) × (Nat → Int32) × (Nat → Int32))
theorem t_mlist {m a k : Nat} {w r : Nat → Nat} {counts items ranked lens weight wb : Nat → Int32} {k273 : (Nat → Int32) → (Nat → Int32) → (Nat → Int32) → (Nat → Int32) → (Nat → Int32) → Int32 → Int32 → Int32 → FlR} {Q : Unit × (Nat → Int32) × (Nat → Int32) × (Nat → Int32) × (Nat → Int32) × (Nat → Int32) → Prop} (hm1 : 2 ≤ m) (hm : m ≤ 288) (hk : k < 15) (hr : ∀ z, z < m → ranked z = nI (r z)) (ha : ∀ z, z < m → a + r z < 339) (hcs : ∀ z, z < m → counts (a + r z) = nI (w z)) (hw : ∀ z, z < m → w z ≤ 8192) (hwb : ∀ b, b < gQ m k → wb (2 * b) + wb (2 * b + 1) = nI (gP m w k b)) (hQ : ∀ weight' items', (∀ i, i < gZ m k → weight' i = nI (gV m w k i)) → (∀ i, i < gZ m k → items' (600 * k + i) = itm m w k i) → (∀ j, j < 600 * k → items' j = items j) → Tt (k273 ranked lens weight' wb items' (nI m) (nI (gZ m k)) (nI k)) Q) : Tt (mW11 (M_findLengths_86 200000 counts (nI a) k273) 200000 ranked lens weight wb items (nI m) 0 (nI k) (nI (gQ m k)) 0 0) Q := by
  have zhi := @gZ_hi m (by omega) k
  have ze := gZ_e m k
  refine Tt_W11 (fun mm ra le we wb' it x4 x5 x6 x7 x8 x9 => ra = ranked ∧ le = lens ∧ wb' = wb ∧ x4 = nI m ∧ x6 = nI k ∧ x7 = nI (gQ m k) ∧ ∃ i, x5 = nI i ∧ x8 = nI (gL m w k i) ∧ x9 = nI (i - gL m w k i) ∧ i ≤ gZ m k ∧ mm = gZ m k - i ∧ (∀ j, j < i → we j = nI (gV m w k j)) ∧ (∀ j, j < i → it (600 * k + j) = itm m w k j) ∧ ∀ j, j < 600 * k → it j = items j) ?_ 200000 (gZ m k) _ _ _ _ _ _ _ _ _ _ _ (by omega) ⟨rfl, rfl, rfl, rfl, rfl, rfl, 0, rfl, rfl, rfl, by omega, rfl, fun j hj => by omega, fun j hj => by omega, fun j _ => rfl⟩
  rintro K mm ra le we wb' it x4 x5 x6 x7 x8 x9 ⟨rfl, rfl, rfl, rfl, rfl, rfl, i, rfl, rfl, rfl, hi, rfl, hwe, hit, hio⟩ ih
  have b0 : gL m w k i ≤ m ∧ i - gL m w k i ≤ gQ m k := @gA_b m (gQ m k) w (gP m w k) i (by omega)
  have l0 : gL m w k i ≤ i := @gA_le m (gQ m k) w (gP m w k) i
  unfold M_findLengths_86
  by_cases z : gZ m k ≤ i
  · have ei : i = gZ m k := by omega
    simp (disch := omega) only [Tt_C, nI_leI, nI_ltI]
    rw [if_neg (by omega), if_pos (by omega), ei]
    rw [ei] at hwe hit
    exact hQ _ _ hwe hit hio
  · have b1 : gL m w k (i + 1) ≤ m ∧ i + 1 - gL m w k (i + 1) ≤ gQ m k := @gA_b m (gQ m k) w (gP m w k) (i + 1) (by omega)
    have sB : (8192 : Nat) * 2 ^ k ≤ 8192 * 2 ^ 14 := Nat.mul_le_mul_left _ (Nat.pow_le_pow_right (by omega) (by omega))
    have sB2 : (8192 : Nat) * 2 ^ 14 = 134217728 := by decide
    have next : ∀ (we2 it2 : Nat → Int32) (x8 x9 : Nat), we2 = upd we i (nI (gV m w k i)) → it2 = upd it (600 * k + i) (itm m w k i) → x8 = gL m w k (i + 1) → x9 = i + 1 - gL m w k (i + 1) → Tt (K ra le we2 wb' it2 (nI m) (nI (i + 1)) (nI k) (nI (gQ m k)) (nI x8) (nI x9)) Q := by
      intro we2 it2 x8 x9 h1 h2 h3 h4
      subst h1 h2 h3 h4
      refine ih (gZ m k - (i + 1)) _ _ _ _ _ _ _ _ _ _ _ (by omega) ⟨rfl, rfl, rfl, rfl, rfl, rfl, i + 1, rfl, rfl, rfl, by omega, rfl, fun j hj => ?_, fun j hj => ?_, fun j hj => ?_⟩
      · by_cases e : j = i
        · rw [e, pk_us]
        · rw [pk_un e]; exact hwe j (by omega)
      · by_cases e : j = i
        · rw [e, pk_us]
        · rw [pk_un (by omega)]; exact hit j (by omega)
      · rw [pk_un (by omega)]; exact hio j hj
    have nS : ∀ s0, gY m w k i = true → Tt (M_findLengths_167 200000 counts (nI a) K ra le we wb' it (nI m) (nI i) (nI k) (nI (gQ m k)) (nI (gL m w k i)) (nI (i - gL m w k i)) s0) Q := by
      intro s0 hy
      have ea : gL m w k (i + 1) = gL m w k i + 1 := gA_t hy
      have ev : gV m w k i = w (gL m w k i) := by rw [gV_e]; exact gW_t hy
      have ei : itm m w k i = nI (gL m w k i) := by unfold itm; rw [hy, if_pos rfl]
      have am : gL m w k i < m := by omega
      have e1 := hr _ am
      have e2 := ha _ am
      have e3 := hcs _ am
      unfold M_findLengths_167 M_findLengths_172 M_findLengths_204 M_findLengths_234 M_findLengths_249 M_findLengths_265
      simp (disch := omega) only [Tt_L, Tt_S, Tt_C, Tt_Z, Tt_R0, Tt_R1, Tt_R2, Tt_R3, Tt_R4, Tt_R5, q10, eq_self, if_true, if_false, i_0, i_1, i_2, i_3, i_4, i_5, i_6, i_7, i_8, i_9, i_10, i_11, i_13, i_14, i_15, i_16, i_17, i_18, i_19, i_24, i_29, i_30, i_31, i_32, i_138, i_143, i_144, i_254, i_255, i_256, i_257, i_258, i_261, i_264, i_265, i_279, i_280, i_284, i_285, i_286, i_288, i_319, i_320, i_338, i_339, i_575, i_576, i_599, i_600, i_4096, i_8191, i_8192, i_8249, i_8250, i_8256, i_9000, i_16384, i_32767, i_32768, i_65520, i_65521, i_65535, i_65536, i_65999, i_66000, i_1300, i_120, i_156, Tt_N, nI_clamp, nI_add, pk_mul, e1, e3, nI_eq]
      refine ⟨by omega, by omega, by omega, by omega, ?_⟩
      exact next _ _ _ _ (by rw [ev]) (by rw [ei]) (by omega) (by omega)
    have nP : gY m w k i = false → Tt (M_findLengths_171 200000 counts (nI a) K ra le we wb' it (nI m) (nI i) (nI k) (nI (gQ m k)) (nI (gL m w k i)) (nI (i - gL m w k i)) (nI (gP m w k (i - gL m w k i)))) Q := by
      intro hy
      have ea : gL m w k (i + 1) = gL m w k i := gA_f hy
      have ev : gV m w k i = gP m w k (i - gL m w k i) := by rw [gV_e]; exact gW_f hy
      have ei : itm m w k i = -nI 1 - nI (2 * (i - gL m w k i)) := by unfold itm; rw [hy, if_neg Bool.false_ne_true]; rfl
      unfold M_findLengths_171 M_findLengths_172 M_findLengths_204 M_findLengths_234 M_findLengths_249 M_findLengths_265
      simp (disch := omega) only [Tt_L, Tt_S, Tt_C, Tt_Z, Tt_R0, Tt_R1, Tt_R2, Tt_R3, Tt_R4, Tt_R5, q10, eq_self, if_true, if_false, i_0, i_1, i_2, i_3, i_4, i_5, i_6, i_7, i_8, i_9, i_10, i_11, i_13, i_14, i_15, i_16, i_17, i_18, i_19, i_24, i_29, i_30, i_31, i_32, i_138, i_143, i_144, i_254, i_255, i_256, i_257, i_258, i_261, i_264, i_265, i_279, i_280, i_284, i_285, i_286, i_288, i_319, i_320, i_338, i_339, i_575, i_576, i_599, i_600, i_4096, i_8191, i_8192, i_8249, i_8250, i_8256, i_9000, i_16384, i_32767, i_32768, i_65520, i_65521, i_65535, i_65536, i_65999, i_66000, i_1300, i_120, i_156, Tt_N, nI_clamp, nI_add, pk_mul, nI_eq]
      refine ⟨by omega, by omega, ?_⟩
      exact next _ _ _ _ (by rw [ev]) (by rw [ei]) (by omega) (by omega)
    have body : Tt (M_findLengths_100 200000 counts (nI a) K ra le we wb' it (nI m) (nI i) (nI k) (nI (gQ m k)) (nI (gL m w k i)) (nI (i - gL m w k i))) Q := by
      unfold M_findLengths_100 M_findLengths_132
      by_cases y : gQ m k ≤ i - gL m w k i
      · have hy : gY m w k i = true := decide_eq_true (Or.inl (show i - gL m w k i = gQ m k by omega))
        simp (disch := omega) only [Tt_L, Tt_S, Tt_C, Tt_Z, Tt_R0, Tt_R1, Tt_R2, Tt_R3, Tt_R4, Tt_R5, q10, eq_self, if_true, if_false, i_0, i_1, i_2, i_3, i_4, i_5, i_6, i_7, i_8, i_9, i_10, i_11, i_13, i_14, i_15, i_16, i_17, i_18, i_19, i_24, i_29, i_30, i_31, i_32, i_138, i_143, i_144, i_254, i_255, i_256, i_257, i_258, i_261, i_264, i_265, i_279, i_280, i_284, i_285, i_286, i_288, i_319, i_320, i_338, i_339, i_575, i_576, i_599, i_600, i_4096, i_8191, i_8192, i_8249, i_8250, i_8256, i_9000, i_16384, i_32767, i_32768, i_65520, i_65521, i_65535, i_65536, i_65999, i_66000, i_1300, i_120, i_156, nI_leI, nI_eq]
        rw [if_pos y, if_pos (by omega)]
        exact nS _ hy
      · have pb := gP_b hw k (i - gL m w k i) (by omega)
        have e1 := hwb (i - gL m w k i) (by omega)
        simp (disch := omega) only [Tt_L, Tt_S, Tt_C, Tt_Z, Tt_R0, Tt_R1, Tt_R2, Tt_R3, Tt_R4, Tt_R5, q10, eq_self, if_true, if_false, i_0, i_1, i_2, i_3, i_4, i_5, i_6, i_7, i_8, i_9, i_10, i_11, i_13, i_14, i_15, i_16, i_17, i_18, i_19, i_24, i_29, i_30, i_31, i_32, i_138, i_143, i_144, i_254, i_255, i_256, i_257, i_258, i_261, i_264, i_265, i_279, i_280, i_284, i_285, i_286, i_288, i_319, i_320, i_338, i_339, i_575, i_576, i_599, i_600, i_4096, i_8191, i_8192, i_8249, i_8250, i_8256, i_9000, i_16384, i_32767, i_32768, i_65520, i_65521, i_65535, i_65536, i_65999, i_66000, i_1300, i_120, i_156, nI_leI, pk_mul, nI_add, Tt_N, nI_clamp, nI_eq]
        rw [if_neg y]
        refine ⟨by omega, by omega, ?_⟩
        rw [if_neg (by omega), e1]
        by_cases am : m ≤ gL m w k i
        · rw [if_pos am]
          apply nP
          apply decide_eq_false
          rintro (q | q)
          · have : i - gL m w k i = gQ m k := q
            omega
          · have : gL m w k i < m := q.1
            omega
        · rw [if_neg am]
          have wl := hw (gL m w k i) (by omega)
          have g1 := hr (gL m w k i) (by omega)
          have g2 := ha (gL m w k i) (by omega)
          have g3 := hcs (gL m w k i) (by omega)
          rw [g1]
          simp (disch := omega) only [nI_add, Tt_N, nI_clamp, g3, nI_ltI]
          refine ⟨by omega, by omega, ?_⟩
          by_cases q : gP m w k (i - gL m w k i) < w (gL m w k i)
          · rw [if_pos q]
            apply nP
            apply decide_eq_false
            rintro (q' | q')
            · have : i - gL m w k i = gQ m k := q'
              omega
            · have : w (gL m w k i) ≤ gP m w k (i - gL m w k i) := q'.2
              omega
          · rw [if_neg q]
            exact nS _ (decide_eq_true (Or.inr ⟨by omega, by omega⟩))
    simp (disch := omega) only [Tt_C, nI_leI, nI_ltI]
    by_cases y : gL m w k i < m
    · rw [if_pos y]; exact body
    · rw [if_neg y, if_neg (by omega)]; exact body
theorem gH_sh {m a K x : Nat} {w r : Nat → Nat} : gH m w (fun z => a + r z) K (a + x) = gH m w r K x := by
  unfold gH
  apply sm_c
  intro j _
  unfold gN
  apply sm_c
  intro z _
  by_cases e : r z = x
  · rw [if_pos (by rw [e]), if_pos e]
  · rw [if_neg (by omega), if_neg e]
theorem t_find53 {m a n K : Nat} {w r : Nat → Nat} {counts items ranked lens weight wb : Nat → Int32} (hm : m ≤ 288) (hK0 : 0 < K) (hK : K ≤ 15) (hK' : (m - 1) / 2 ^ (K - 1) = 0) (hr : ∀ z, z < m → ranked z = nI (r z)) (ha : ∀ z, z < m → a + r z < 339) (hcs : ∀ z, z < m → counts (a + r z) = nI (w z)) (hw : ∀ z, z < m → w z ≤ 8192) : Tt (M_findLengths_53 200000 counts (nI a) (nI K) ranked lens weight wb items (nI m)) (fun u => ∀ j, u.2.2.1 j = lens j + nI (if m ≤ 1 then 0 else gH m w (fun z => a + r z) K j)) := by
  unfold M_findLengths_53
  by_cases z : m ≤ 1
  · have e : mW8 (M_findLengths_59 200000 counts (nI a) (nI K) (M_findLengths_309 200000 (nI a) (nI K))) 200000 ranked lens weight wb items (nI m) 0 0 = M_findLengths_309 200000 (nI a) (nI K) ranked lens weight wb items (nI m) := by
      show M_findLengths_59 200000 counts (nI a) (nI K) (M_findLengths_309 200000 (nI a) (nI K)) (mW8 (M_findLengths_59 200000 counts (nI a) (nI K) (M_findLengths_309 200000 (nI a) (nI K))) 199999) ranked lens weight wb items (nI m) 0 0 = _
      unfold M_findLengths_59 mC
      rw [if_neg (by rw [i_0, nI_leI (by omega) (by omega)]; omega), if_pos (by rw [i_1, nI_leI (by omega) (by omega)]; exact z)]
    rw [e]
    have e2 : M_findLengths_309 200000 (nI a) (nI K) ranked lens weight wb items (nI m) = some ((), ranked, lens, weight, wb, items) := by
      unfold M_findLengths_309
      show M_findLengths_312 200000 (nI a) (nI K) (mW7 (M_findLengths_312 200000 (nI a) (nI K)) 199999) ranked lens weight wb items (nI m) 0 = _
      have : m = 0 ∨ m = 1 := by omega
      rcases this with rfl | rfl
      · unfold M_findLengths_312 mC
        rw [if_pos (by decide)]
      · unfold M_findLengths_312 mC
        rw [if_pos (by decide)]
    rw [e2]
    intro j
    rw [if_pos z, nI_0, Int32.add_zero]
  · refine Tt_W8 (fun mm ra le we wb' it x4 x5 x6 => ra = ranked ∧ le = lens ∧ x4 = nI m ∧ ∃ k, x6 = nI k ∧ k ≤ K ∧ mm = K - k ∧ x5 = nI (if k = 0 then 0 else gZ m (k - 1)) ∧ (∀ i, 0 < k → i < gZ m (k - 1) → wb' i = nI (gV m w (k - 1) i)) ∧ ∀ l i, l < k → i < gZ m l → it (600 * l + i) = itm m w l i) ?_ 200000 K _ _ _ _ _ _ _ _ (by omega) ⟨rfl, rfl, rfl, 0, rfl, by omega, rfl, rfl, fun i h => by omega, fun l i h => by omega⟩
    rintro KK mm ra le we wb' it x4 x5 x6 ⟨rfl, rfl, rfl, k, rfl, hk, rfl, rfl, hwb, hit⟩ ih
    unfold M_findLengths_59
    by_cases y : K ≤ k
    · simp (disch := omega) only [Tt_C, nI_leI]
      rw [if_pos y]
      exact t_find309 hm hK0 hK hK' (fun l i h1 h2 => hit l i (by omega) h2) hr ha
    · have hzz : (if k = 0 then 0 else gZ m (k - 1)) / 2 = gQ m k := by
        cases k with
        | zero => rfl
        | succ k => rw [if_neg (by omega), Nat.add_sub_cancel]; rfl
      have hz2 : (if k = 0 then 0 else gZ m (k - 1)) < 576 := by
        have := @gZ_hi m (by omega) (k - 1)
        split <;> omega
      simp (disch := omega) only [Tt_C, Tt_L, i_0, i_1, i_2, i_3, i_4, i_5, i_6, i_7, i_8, i_9, i_10, i_11, i_13, i_14, i_15, i_16, i_17, i_18, i_19, i_24, i_29, i_30, i_31, i_32, i_138, i_143, i_144, i_254, i_255, i_256, i_257, i_258, i_261, i_264, i_265, i_279, i_280, i_284, i_285, i_286, i_288, i_319, i_320, i_338, i_339, i_575, i_576, i_599, i_600, i_4096, i_8191, i_8192, i_8249, i_8250, i_8256, i_9000, i_16384, i_32767, i_32768, i_65520, i_65521, i_65535, i_65536, i_65999, i_66000, i_1300, i_120, i_156, nI_leI]
      rw [if_neg y, if_neg z, n_half (by omega), hzz]
      refine t_mlist (w := w) (by omega) hm (by omega) hr ha hcs hw (fun b hb => ?_) ?_
      · cases k with
        | zero => exact absurd hb (Nat.not_lt_zero b)
        | succ k =>
          have q : gQ m (k + 1) = gZ m k / 2 := rfl
          have h3 := hwb (2 * b) (by omega) (by rw [Nat.add_sub_cancel]; omega)
          have h4 := hwb (2 * b + 1) (by omega) (by rw [Nat.add_sub_cancel]; omega)
          rw [Nat.add_sub_cancel] at h3 h4
          rw [h3, h4, nI_add]
          rfl
      · intro we2 it2 g1 g2 g3
        have zhi := @gZ_hi m (by omega) k
        have hit2 : ∀ l i, l < k + 1 → i < gZ m l → it2 (600 * l + i) = itm m w l i := by
          intro l i hl hi
          by_cases e : l = k
          · subst e; exact g2 i hi
          · have zl := @gZ_hi m (by omega) l
            rw [g3 _ (by omega)]
            exact hit l i (by omega) hi
        unfold M_findLengths_273
        refine Tt_W9 (fun mm ra' le' we' wb2 it' x4 x5 x6 x10 => ra' = ra ∧ le' = le ∧ we' = we2 ∧ it' = it2 ∧ x4 = nI m ∧ x5 = nI (gZ m k) ∧ x6 = nI k ∧ ∃ i, x10 = nI i ∧ i ≤ gZ m k ∧ mm = gZ m k - i ∧ ∀ j, j < i → wb2 j = nI (gV m w k j)) ?_ 200000 (gZ m k) _ _ _ _ _ _ _ _ _ (by omega) ⟨rfl, rfl, rfl, rfl, rfl, rfl, rfl, 0, rfl, by omega, rfl, fun j hj => by omega⟩
        rintro K4 mm ra' le' we' wb2 it' x4 x5 x6 x10 ⟨rfl, rfl, rfl, rfl, rfl, rfl, rfl, i, rfl, hi, rfl, hw2⟩ ih4
        unfold M_findLengths_276
        by_cases y2 : gZ m k ≤ i
        · simp (disch := omega) only [Tt_C, nI_leI]
          rw [if_pos y2]
          unfold M_findLengths_303
          simp only [Tt_L, i_0, i_1, i_2, i_3, i_4, i_5, i_6, i_7, i_8, i_9, i_10, i_11, i_13, i_14, i_15, i_16, i_17, i_18, i_19, i_24, i_29, i_30, i_31, i_32, i_138, i_143, i_144, i_254, i_255, i_256, i_257, i_258, i_261, i_264, i_265, i_279, i_280, i_284, i_285, i_286, i_288, i_319, i_320, i_338, i_339, i_575, i_576, i_599, i_600, i_4096, i_8191, i_8192, i_8249, i_8250, i_8256, i_9000, i_16384, i_32767, i_32768, i_65520, i_65521, i_65535, i_65536, i_65999, i_66000, i_1300, i_120, i_156, nI_add]
          refine ih (K - (k + 1)) _ _ _ _ _ _ _ _ (by omega) ⟨rfl, rfl, rfl, k + 1, rfl, by omega, rfl, ?_, fun j _ hj => ?_, hit2⟩
          · rw [if_neg (by omega), Nat.add_sub_cancel]
          · rw [Nat.add_sub_cancel] at hj ⊢
            exact hw2 j (by omega)
        · simp (disch := omega) only [Tt_C, Tt_L, i_0, i_1, i_2, i_3, i_4, i_5, i_6, i_7, i_8, i_9, i_10, i_11, i_13, i_14, i_15, i_16, i_17, i_18, i_19, i_24, i_29, i_30, i_31, i_32, i_138, i_143, i_144, i_254, i_255, i_256, i_257, i_258, i_261, i_264, i_265, i_279, i_280, i_284, i_285, i_286, i_288, i_319, i_320, i_338, i_339, i_575, i_576, i_599, i_600, i_4096, i_8191, i_8192, i_8249, i_8250, i_8256, i_9000, i_16384, i_32767, i_32768, i_65520, i_65521, i_65535, i_65536, i_65999, i_66000, i_1300, i_120, i_156, nI_leI, Tt_N, nI_clamp, nI_add]
          rw [if_neg y2]
          refine ⟨by omega, by omega, ih4 (gZ m k - (i + 1)) _ _ _ _ _ _ _ _ _ (by omega) ⟨rfl, rfl, rfl, rfl, rfl, rfl, rfl, i + 1, rfl, by omega, rfl, fun j hj => ?_⟩⟩
          by_cases e : j = i
          · rw [e, pk_us]; exact g1 i (by omega)
          · rw [pk_un e]; exact hw2 j (by omega)
/-- the reference's lengths of codes -/
theorem t_findLengths {a n K : Nat} {counts items ranked lens weight wb : Nat → Int32} {c : Nat → Nat} {x1 x2 x3 : Int32} (h1 : x1 = nI a) (h2 : x2 = nI n) (h3 : x3 = nI K) (hn : n ≤ 288) (han : a + n ≤ 339) (hp : ∀ s, s < n → counts (a + s) = nI (c s)) (hc : ∀ i, c i ≤ 8192) (hK0 : 0 < K) (hK : K ≤ 15) (hK' : (n - 1) / 2 ^ (K - 1) = 0) : Tt (M_findLengths 200000 counts ranked lens weight wb items x1 x2 x3) (fun u => ∀ j, u.2.2.1 j = if a ≤ j ∧ j < a + n then nI (fitL c n K (j - a)) else lens j) := by
  subst h1 h2 h3
  unfold M_findLengths
  rw [Tt_R1]
  refine Tt_m (t_rank rfl rfl hn han hp (fun i => by have := hc i; omega)) ?_
  rintro ⟨r1, ranked1⟩ ⟨q1, q2⟩
  obtain ⟨o1, o2, o3, o4, o5⟩ := rk_ok c n
  have fe : ∀ x, fitL c n K x = if (rk c n).1 = 0 then 0 else if (rk c n).1 = 1 then (if (rk c n).2 0 = x then 1 else 0) else gH (rk c n).1 (fun a => c ((rk c n).2 a)) (rk c n).2 K x := fun x => rfl
  dsimp only at q1 q2 ⊢
  generalize (rk c n).1 = m at *
  generalize (rk c n).2 = r at *
  subst q1
  have hKm : (m - 1) / 2 ^ (K - 1) = 0 := by
    have : (m - 1) / 2 ^ (K - 1) ≤ (n - 1) / 2 ^ (K - 1) := Nat.div_le_div_right (by omega)
    omega
  have ha : ∀ z, z < m → a + r z < 339 := fun z hz => by have := (o2 z hz).1; omega
  refine Tt_W7 (fun mm ra le we wb' it x4 x5 => ra = ranked1 ∧ x4 = nI m ∧ ∃ s, x5 = nI s ∧ s ≤ n ∧ mm = n - s ∧ ∀ j, le j = if a ≤ j ∧ j < a + s then nI 0 else lens j) ?_ 200000 n _ _ _ _ _ _ _ (by omega) ⟨rfl, rfl, 0, rfl, by omega, rfl, fun j => by rw [if_neg (by omega)]⟩
  rintro KK mm ra le we wb' it x4 x5 ⟨rfl, rfl, s, rfl, hs, rfl, hl⟩ ih
  unfold M_findLengths_11
  by_cases z : n ≤ s
  · have es : s = n := by omega
    subst es
    simp (disch := omega) only [Tt_C, nI_leI]
    rw [if_pos z]
    unfold M_findLengths_33
    have cs : ∀ z, z < m → counts (a + r z) = nI (c (r z)) := fun z hz => hp _ (o2 z hz).1
    by_cases y : m = 1
    · subst y
      have g1 := q2 0 (by omega)
      have g2 := ha 0 (by omega)
      have g3 := (o2 0 (by omega)).1
      simp (disch := omega) only [Tt_L, Tt_S, Tt_C, Tt_Z, Tt_R0, Tt_R1, Tt_R2, Tt_R3, Tt_R4, Tt_R5, q10, eq_self, if_true, if_false, i_0, i_1, i_2, i_3, i_4, i_5, i_6, i_7, i_8, i_9, i_10, i_11, i_13, i_14, i_15, i_16, i_17, i_18, i_19, i_24, i_29, i_30, i_31, i_32, i_138, i_143, i_144, i_254, i_255, i_256, i_257, i_258, i_261, i_264, i_265, i_279, i_280, i_284, i_285, i_286, i_288, i_319, i_320, i_338, i_339, i_575, i_576, i_599, i_600, i_4096, i_8191, i_8192, i_8249, i_8250, i_8256, i_9000, i_16384, i_32767, i_32768, i_65520, i_65521, i_65535, i_65536, i_65999, i_66000, i_1300, i_120, i_156, nI_eq, Tt_N, nI_clamp, nI_add, g1]
      refine ⟨by omega, by omega, ?_⟩
      refine Tt_m (t_find53 (n := s) (w := fun z => c (r z)) (r := r) (by omega) hK0 hK hKm q2 ha cs (fun z _ => hc _)) ?_
      rintro ⟨_, ra2, le2, we2, wb2, it2⟩ hu j
      have := hu j
      dsimp only at this ⊢
      rw [this, if_pos (by omega), nI_0, Int32.add_zero]
      by_cases e : j = a + r 0
      · rw [e, pk_us, if_pos (by omega), fe, if_neg (by omega), if_pos rfl, if_pos (by omega)]
      · rw [pk_un e, hl j]
        by_cases e2 : a ≤ j ∧ j < a + s
        · rw [if_pos e2, if_pos e2, fe, if_neg (by omega), if_pos rfl, if_neg (by omega)]
        · rw [if_neg e2, if_neg e2]
    · simp (disch := omega) only [Tt_L, Tt_S, Tt_C, Tt_Z, Tt_R0, Tt_R1, Tt_R2, Tt_R3, Tt_R4, Tt_R5, q10, eq_self, if_true, if_false, i_0, i_1, i_2, i_3, i_4, i_5, i_6, i_7, i_8, i_9, i_10, i_11, i_13, i_14, i_15, i_16, i_17, i_18, i_19, i_24, i_29, i_30, i_31, i_32, i_138, i_143, i_144, i_254, i_255, i_256, i_257, i_258, i_261, i_264, i_265, i_279, i_280, i_284, i_285, i_286, i_288, i_319, i_320, i_338, i_339, i_575, i_576, i_599, i_600, i_4096, i_8191, i_8192, i_8249, i_8250, i_8256, i_9000, i_16384, i_32767, i_32768, i_65520, i_65521, i_65535, i_65536, i_65999, i_66000, i_1300, i_120, i_156, nI_eq]
      rw [if_neg y]
      refine Tt_m (t_find53 (n := s) (w := fun z => c (r z)) (r := r) (by omega) hK0 hK hKm q2 ha cs (fun z _ => hc _)) ?_
      rintro ⟨_, ra2, le2, we2, wb2, it2⟩ hu j
      have := hu j
      dsimp only at this ⊢
      rw [this, hl j]
      by_cases e2 : a ≤ j ∧ j < a + s
      · rw [if_pos e2, if_pos e2, fe, if_neg (c := m = 1) y]
        by_cases y0 : m = 0
        · rw [if_pos (by omega), if_pos y0]; rfl
        · rw [if_neg (by omega), if_neg y0, nI_add, Nat.zero_add]
          congr 1
          have := @gH_sh m a K (j - a) (fun z => c (r z)) r
          rw [show a + (j - a) = j by omega] at this
          exact this
      · rw [if_neg e2, if_neg e2]
        by_cases y0 : m = 0
        · rw [if_pos (by omega), nI_0, Int32.add_zero]
        · rw [if_neg (by omega), gH_0 (by omega) hKm (fun z hz => by have := (o2 z hz).1; omega), nI_0, Int32.add_zero]
  · simp (disch := omega) only [Tt_L, Tt_S, Tt_C, Tt_Z, Tt_R0, Tt_R1, Tt_R2, Tt_R3, Tt_R4, Tt_R5, q10, eq_self, if_true, if_false, i_0, i_1, i_2, i_3, i_4, i_5, i_6, i_7, i_8, i_9, i_10, i_11, i_13, i_14, i_15, i_16, i_17, i_18, i_19, i_24, i_29, i_30, i_31, i_32, i_138, i_143, i_144, i_254, i_255, i_256, i_257, i_258, i_261, i_264, i_265, i_279, i_280, i_284, i_285, i_286, i_288, i_319, i_320, i_338, i_339, i_575, i_576, i_599, i_600, i_4096, i_8191, i_8192, i_8249, i_8250, i_8256, i_9000, i_16384, i_32767, i_32768, i_65520, i_65521, i_65535, i_65536, i_65999, i_66000, i_1300, i_120, i_156, nI_leI, nI_add, Tt_N, nI_clamp]
    rw [if_neg z]
    refine ⟨by omega, ih (n - (s + 1)) _ _ _ _ _ _ _ (by omega) ⟨rfl, rfl, s + 1, rfl, by omega, rfl, fun j => ?_⟩⟩
    by_cases e : j = a + s
    · rw [e, pk_us, if_pos (by omega)]
    · rw [pk_un e, hl j]
      by_cases e2 : a ≤ j ∧ j < a + s
      · rw [if_pos e2, if_pos (by omega)]
      · rw [if_neg e2, if_neg (by omega)]
