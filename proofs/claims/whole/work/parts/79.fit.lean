/-! lengths of codes: the program's lists -/
theorem gV_b {m : Nat} {w : Nat → Nat} {B : Nat} (hw : ∀ a, a < m → w a ≤ B) : ∀ k i, i < gZ m k → gV m w k i ≤ B * 2 ^ k := by
  intro k
  induction k with
  | zero =>
    intro i hi
    have hi' : i < m := hi
    have z := gL0 m w i
    have hy : gS m 0 w (fun _ => 0) i = true := by
      apply decide_eq_true
      left
      have : gA m 0 w (fun _ => 0) i = i := z
      rw [this]
      exact Nat.sub_self i
    show gW m 0 w (fun _ => 0) i ≤ B * 2 ^ 0
    rw [gW_t hy]
    have : gA m 0 w (fun _ => 0) i = i := z
    rw [this, Nat.pow_zero, Nat.mul_one]
    exact hw i hi'
  | succ k ih =>
    intro i hi
    rw [gV_e]
    have b := @gA_b m (gQ m (k + 1)) w (gP m w (k + 1)) i (by rw [← gZ_e]; omega)
    have b1 := @gA_b m (gQ m (k + 1)) w (gP m w (k + 1)) (i + 1) (by rw [← gZ_e]; omega)
    have l := @gA_le m (gQ m (k + 1)) w (gP m w (k + 1)) i
    have p2 : B * 2 ^ (k + 1) = B * 2 ^ k + B * 2 ^ k := by rw [Nat.pow_succ, ← Nat.mul_assoc]; omega
    cases h : gS m (gQ m (k + 1)) w (gP m w (k + 1)) i with
    | true =>
      rw [gW_t h]
      rw [gA_t h] at b1
      have h1 := hw (gA m (gQ m (k + 1)) w (gP m w (k + 1)) i) (by omega)
      have h2 : B * 1 ≤ B * 2 ^ k := Nat.mul_le_mul_left _ (Nat.two_pow_pos k)
      omega
    | false =>
      rw [gW_f h]
      rw [gA_f h] at b1
      have q : gQ m (k + 1) = gZ m k / 2 := rfl
      generalize hj : i - gA m (gQ m (k + 1)) w (gP m w (k + 1)) i = j at *
      have h1 := ih (2 * j) (by omega)
      have h2 := ih (2 * j + 1) (by omega)
      show gV m w k (2 * j) + gV m w k (2 * j + 1) ≤ _
      omega
theorem gP_b {m : Nat} {w : Nat → Nat} {B : Nat} (hw : ∀ a, a < m → w a ≤ B) (k b : Nat) (hb : b < gQ m k) : gP m w k b ≤ B * 2 ^ k := by
  cases k with
  | zero => exact absurd hb (Nat.not_lt_zero b)
  | succ k =>
    have q : gQ m (k + 1) = gZ m k / 2 := rfl
    have h1 := gV_b hw k (2 * b) (by omega)
    have h2 := gV_b hw k (2 * b + 1) (by omega)
    show gV m w k (2 * b) + gV m w k (2 * b + 1) ≤ _
    rw [Nat.pow_succ, ← Nat.mul_assoc]
    omega
/-- ranked symbols with their counts, as the program has them -/
def isRk (cs sy : Nat → Int32) (c r : Nat → Nat) (m : Nat) : Prop := ∀ a, a < m → cs a = nI (c (r a)) ∧ sy a = nI (r a)
theorem t_insert {cs sy : Nat → Int32} {c r : Nat → Nat} {m s : Nat} {v x1 x2 : Int32} (hv : v = nI m) (h1 : x1 = nI s) (h2 : x2 = nI (c s)) (hm : m < 288) (hc : ∀ i, c i < 2 ^ 30) (h : isRk cs sy c r m) : Tt (Lists_insert 200000 v cs sy x1 x2) (fun u => u.2.1 = nI (m + 1) ∧ isRk u.2.2.1 u.2.2.2 c (rkI r (rkP c r (c s) m) s) (m + 1)) := by
  subst hv h1 h2
  unfold Lists_insert
  refine Tt_W4 (fun k' v cs sy x3 => ∃ k, v = nI m ∧ x3 = nI k ∧ k' = k ∧ k ≤ m ∧ rkP c r (c s) m = rkP c r (c s) k ∧ (∀ j, j < k → cs j = nI (c (r j)) ∧ sy j = nI (r j)) ∧ ∀ j, k < j → j ≤ m → cs j = nI (c (r (j - 1))) ∧ sy j = nI (r (j - 1))) ?_ 200000 m _ cs sy (nI m) (by omega) ⟨m, rfl, rfl, rfl, Nat.le_refl m, rfl, h, fun j a b => by omega⟩
  rintro K k' v cs sy x3 ⟨k, rfl, rfl, rfl, hk, hP, hlo, hhi⟩ ih
  have fin : rkP c r (c s) k = k → Tt (Lists_insert_64 200000 (nI s) (nI (c s)) (nI m) cs sy (nI k)) (fun u => u.2.1 = nI (m + 1) ∧ isRk u.2.2.1 u.2.2.2 c (rkI r (rkP c r (c s) m) s) (m + 1)) := by
    intro e
    unfold Lists_insert_64
    simp (disch := omega) only [Tt_L, Tt_S, Tt_C, Tt_Z, Tt_R0, Tt_R1, Tt_R2, Tt_R3, Tt_R4, Tt_R5, q10, eq_self, if_true, if_false, i_0, i_1, i_2, i_3, i_4, i_5, i_6, i_7, i_8, i_9, i_10, i_11, i_13, i_14, i_15, i_16, i_17, i_18, i_19, i_24, i_29, i_30, i_31, i_32, i_138, i_143, i_144, i_254, i_255, i_256, i_257, i_258, i_261, i_264, i_265, i_279, i_280, i_284, i_285, i_286, i_288, i_319, i_320, i_338, i_339, i_575, i_576, i_599, i_600, i_4096, i_8191, i_8192, i_8249, i_8250, i_8256, i_9000, i_16384, i_32767, i_32768, i_65520, i_65521, i_65535, i_65536, i_65999, i_66000, i_1300, i_120, i_156, Tt_N, nI_clamp, nI_add]
    refine ⟨by omega, by omega, trivial, ?_⟩
    intro a ha
    rw [hP, e]
    unfold rkI
    by_cases w : a = k
    · rw [w, pk_us, pk_us, if_neg (by omega), if_pos rfl]; exact ⟨rfl, rfl⟩
    · rw [pk_un w, pk_un w]
      by_cases y : a < k
      · rw [if_pos y]; exact hlo a y
      · rw [if_neg y, if_neg w]; exact hhi a (by omega) (by omega)
  unfold Lists_insert_5
  by_cases z : k = 0
  · simp only [Tt_C]
    rw [if_pos (by rw [z]; decide)]
    exact fin (by rw [z]; rfl)
  · have e1 : nI k - nI 1 = nI (k - 1) := pk_sub (by omega)
    have l1 := hlo (k - 1) (by omega)
    have c1 := hc (r (k - 1))
    have c2 := hc s
    simp (disch := omega) only [Tt_L, Tt_S, Tt_C, Tt_Z, Tt_R0, Tt_R1, Tt_R2, Tt_R3, Tt_R4, Tt_R5, q10, eq_self, if_true, if_false, i_0, i_1, i_2, i_3, i_4, i_5, i_6, i_7, i_8, i_9, i_10, i_11, i_13, i_14, i_15, i_16, i_17, i_18, i_19, i_24, i_29, i_30, i_31, i_32, i_138, i_143, i_144, i_254, i_255, i_256, i_257, i_258, i_261, i_264, i_265, i_279, i_280, i_284, i_285, i_286, i_288, i_319, i_320, i_338, i_339, i_575, i_576, i_599, i_600, i_4096, i_8191, i_8192, i_8249, i_8250, i_8256, i_9000, i_16384, i_32767, i_32768, i_65520, i_65521, i_65535, i_65536, i_65999, i_66000, i_1300, i_120, i_156, nI_leI, Tt_N, nI_clamp, e1, l1.1, l1.2, n_dec2]
    rw [if_neg (by omega), if_neg (by omega)]
    refine ⟨by omega, ?_⟩
    have ek : k = (k - 1) + 1 := by omega
    by_cases y : c (r (k - 1)) ≤ c s
    · rw [if_pos y]
      apply fin
      conv => lhs; rw [ek]
      show (if c s < c (r (k - 1)) then rkP c r (c s) (k - 1) else k - 1 + 1) = k
      rw [if_neg (by omega)]
      omega
    · rw [if_neg y]
      refine ⟨by omega, by omega, by omega, by omega, ih (k - 1) _ _ _ _ (by omega) ⟨k - 1, rfl, rfl, rfl, by omega, ?_, fun j hj => ?_, fun j a b => ?_⟩⟩
      · rw [hP]
        conv => lhs; rw [ek]
        show (if c s < c (r (k - 1)) then rkP c r (c s) (k - 1) else k - 1 + 1) = _
        rw [if_pos (by omega)]
      · rw [pk_un (by omega), pk_un (by omega)]; exact hlo j (by omega)
      · by_cases w : j = k
        · rw [w, pk_us, pk_us]; exact ⟨rfl, rfl⟩
        · rw [pk_un w, pk_un w]; exact hhi j (by omega) b
theorem t_sort {n : Nat} {p cs sy : Nat → Int32} {c : Nat → Nat} {v : Int32} (hn : n ≤ 288) (hp : ∀ s, s < n → p s = nI (c s)) (hc : ∀ i, c i < 2 ^ 30) : Tt (Lists_sort 200000 n p v cs sy) (fun u => u.2.1 = nI (rk c n).1 ∧ isRk u.2.2.1 u.2.2.2 c (rk c n).2 (rk c n).1) := by
  unfold Lists_sort
  refine Tt_W4 (fun m v cs sy x2 => ∃ s, x2 = nI s ∧ s ≤ n ∧ m = n - s ∧ v = nI (rk c s).1 ∧ isRk cs sy c (rk c s).2 (rk c s).1) ?_ 200000 n 0 cs sy 0 (by omega) ⟨0, rfl, by omega, rfl, rfl, fun a ha => absurd ha (Nat.not_lt_zero a)⟩
  rintro K m v cs sy x2 ⟨s, rfl, hs, rfl, rfl, hR⟩ ih
  have ok := (rk_ok c s).1
  unfold Lists_sort_7 Lists_sort_39
  by_cases z : n ≤ s
  · simp only [Tt_C]
    rw [if_pos (by rw [nI_leI (by omega) (by omega)]; exact z)]
    rw [show n = s by omega]
    exact ⟨rfl, hR⟩
  · have e := hp s (by omega)
    have c1 := hc s
    simp (disch := omega) only [Tt_L, Tt_S, Tt_C, Tt_Z, Tt_R0, Tt_R1, Tt_R2, Tt_R3, Tt_R4, Tt_R5, q10, eq_self, if_true, if_false, i_0, i_1, i_2, i_3, i_4, i_5, i_6, i_7, i_8, i_9, i_10, i_11, i_13, i_14, i_15, i_16, i_17, i_18, i_19, i_24, i_29, i_30, i_31, i_32, i_138, i_143, i_144, i_254, i_255, i_256, i_257, i_258, i_261, i_264, i_265, i_279, i_280, i_284, i_285, i_286, i_288, i_319, i_320, i_338, i_339, i_575, i_576, i_599, i_600, i_4096, i_8191, i_8192, i_8249, i_8250, i_8256, i_9000, i_16384, i_32767, i_32768, i_65520, i_65521, i_65535, i_65536, i_65999, i_66000, i_1300, i_120, i_156, nI_leI, Tt_N, nI_clamp, e, nI_add]
    rw [if_neg z, if_neg (by omega)]
    refine ⟨by omega, ?_⟩
    by_cases y : c s ≤ 0
    · rw [if_pos y]
      have e1 : rk c (s + 1) = rk c s := if_neg (by omega)
      refine ih (n - (s + 1)) _ _ _ _ (by omega) ⟨s + 1, rfl, by omega, rfl, ?_, ?_⟩
      · rw [e1]
      · rw [e1]; exact hR
    · rw [if_neg y]
      have e1 : rk c (s + 1) = ((rk c s).1 + 1, rkI (rk c s).2 (rkP c (rk c s).2 (c s) (rk c s).1) s) := if_pos (by omega)
      refine ⟨by omega, ?_⟩
      refine Tt_m (t_insert rfl rfl rfl (by omega) hc hR) ?_
      rintro ⟨_, v2, cs2, sy2⟩ ⟨q1, q2⟩
      refine ih (n - (s + 1)) _ _ _ _ (by omega) ⟨s + 1, rfl, by omega, rfl, ?_, ?_⟩
      · rw [e1]; exact q1
      · rw [e1]; exact q2
theorem n_half {a : Nat} (h : a < 2 ^ 31) : nI a / nI 2 = nI (a / 2) := pk_div h (by omega) (by omega)
/-- one list of the program -/
theorem t_makeList {m k sz : Nat} {w : Nat → Nat} {cs ib it : Nat → Int32} {pr : Nat → Nat → Int32} {v x1 x2 : Int32} (hv : v = nI m) (hm1 : 2 ≤ m) (hm : m ≤ 288) (h1 : x1 = nI k) (hk : k < 15) (h2 : x2 = nI sz) (hsz : sz / 2 = gQ m k) (hsz2 : sz < 576) (hw : ∀ a, a < m → w a ≤ 8192) (hcs : ∀ a, a < m → cs a = nI (w a)) (hit : ∀ b, b < gQ m k → it (2 * b) + it (2 * b + 1) = nI (gP m w k b)) : Tt (Lists_makeList 200000 v cs ib it pr x1 x2) (fun u => u.1 = nI (gZ m k) ∧ (∀ i, i < gZ m k → u.2.2.1 i = nI (gV m w k i)) ∧ (∀ i, i < gZ m k → u.2.2.2 k i = if gY m w k i = true then nI 0 else nI 1) ∧ ∀ j, j ≠ k → u.2.2.2 j = pr j) := by
  subst hv h1 h2
  have zhi := @gZ_hi m (by omega) k
  have ze := gZ_e m k
  unfold Lists_makeList
  simp only [Tt_L, i_0, i_1, i_2, i_3, i_4, i_5, i_6, i_7, i_8, i_9, i_10, i_11, i_13, i_14, i_15, i_16, i_17, i_18, i_19, i_24, i_29, i_30, i_31, i_32, i_138, i_143, i_144, i_254, i_255, i_256, i_257, i_258, i_261, i_264, i_265, i_279, i_280, i_284, i_285, i_286, i_288, i_319, i_320, i_338, i_339, i_575, i_576, i_599, i_600, i_4096, i_8191, i_8192, i_8249, i_8250, i_8256, i_9000, i_16384, i_32767, i_32768, i_65520, i_65521, i_65535, i_65536, i_65999, i_66000, i_1300, i_120, i_156]
  rw [n_half (by omega), hsz]
  refine Tt_W7 (fun mm ib it' pr' x4 x5 x6 x7 => ∃ i, ib = it ∧ x4 = nI (gQ m k) ∧ x5 = nI (gL m w k i) ∧ x6 = nI (i - gL m w k i) ∧ x7 = nI i ∧ i ≤ gZ m k ∧ mm = gZ m k - i ∧ (∀ j, j < i → it' j = nI (gV m w k j)) ∧ (∀ j, j < i → pr' k j = if gY m w k j = true then nI 0 else nI 1) ∧ ∀ j, j ≠ k → pr' j = pr j) ?_ 200000 (gZ m k) _ _ _ _ _ _ _ (by omega) ⟨0, rfl, rfl, rfl, rfl, rfl, by omega, rfl, fun j hj => by omega, fun j hj => by omega, fun j _ => rfl⟩
  rintro K mm ib' it' pr' x4 x5 x6 x7 ⟨i, rfl, rfl, rfl, rfl, rfl, hi, rfl, hit', hpr, hpo⟩ ih
  have b0 := @gA_b m (gQ m k) w (gP m w k) i (by omega)
  have l0 := @gA_le m (gQ m k) w (gP m w k) i
  have b0' : gL m w k i ≤ m ∧ i - gL m w k i ≤ gQ m k := b0
  have l0' : gL m w k i ≤ i := l0
  have next : ∀ (y : Bool) (val : Nat) (it2 : Nat → Int32) (pr2 : Nat → Nat → Int32) (a b : Nat), gY m w k i = y → i < gZ m k → val = gV m w k i → it2 = upd it' i (nI val) → pr2 = xup2 pr' k (upd (pr' k) i (if y = true then nI 0 else nI 1)) → a = gL m w k (i + 1) → b = i + 1 - gL m w k (i + 1) → Tt (K ib' it2 pr2 (nI (gQ m k)) (nI a) (nI b) (nI (i + 1))) (fun u => u.1 = nI (gZ m k) ∧ (∀ i, i < gZ m k → u.2.2.1 i = nI (gV m w k i)) ∧ (∀ i, i < gZ m k → u.2.2.2 k i = if gY m w k i = true then nI 0 else nI 1) ∧ ∀ j, j ≠ k → u.2.2.2 j = pr j) := by
    intro y val it2 pr2 a b hy hiz hval h2 h3 h4 h5
    subst h2 h3 h4 h5
    refine ih (gZ m k - (i + 1)) _ _ _ _ _ _ _ (by omega) ⟨i + 1, rfl, rfl, rfl, rfl, rfl, by omega, rfl, fun j hj => ?_, fun j hj => ?_, fun j hj => ?_⟩
    · by_cases e : j = i
      · rw [e, pk_us, hval]
      · rw [pk_un e]; exact hit' j (by omega)
    · have : xup2 pr' k (upd (pr' k) i (if y = true then nI 0 else nI 1)) k = upd (pr' k) i (if y = true then nI 0 else nI 1) := if_pos rfl
      rw [this]
      by_cases e : j = i
      · rw [e, pk_us, hy]
      · rw [pk_un e]; exact hpr j (by omega)
    · have : xup2 pr' k (upd (pr' k) i (if y = true then nI 0 else nI 1)) j = pr' j := if_neg hj
      rw [this]; exact hpo j hj
  unfold Lists_makeList_32
  by_cases z : gZ m k ≤ i
  · have ei : i = gZ m k := by omega
    have ea : gL m w k i = m ∧ i - gL m w k i = gQ m k := by omega
    simp (disch := omega) only [Tt_L, Tt_S, Tt_C, Tt_Z, Tt_R0, Tt_R1, Tt_R2, Tt_R3, Tt_R4, Tt_R5, q10, eq_self, if_true, if_false, i_0, i_1, i_2, i_3, i_4, i_5, i_6, i_7, i_8, i_9, i_10, i_11, i_13, i_14, i_15, i_16, i_17, i_18, i_19, i_24, i_29, i_30, i_31, i_32, i_138, i_143, i_144, i_254, i_255, i_256, i_257, i_258, i_261, i_264, i_265, i_279, i_280, i_284, i_285, i_286, i_288, i_319, i_320, i_338, i_339, i_575, i_576, i_599, i_600, i_4096, i_8191, i_8192, i_8249, i_8250, i_8256, i_9000, i_16384, i_32767, i_32768, i_65520, i_65521, i_65535, i_65536, i_65999, i_66000, i_1300, i_120, i_156, nI_leI, nI_ltI]
    rw [if_neg (by omega), if_neg (by omega), if_pos (by omega)]
    refine ⟨by rw [ei], fun j hj => hit' j (by omega), fun j hj => hpr j (by omega), hpo⟩
  · have sB : (8192 : Nat) * 2 ^ k ≤ 8192 * 2 ^ 14 := Nat.mul_le_mul_left _ (Nat.pow_le_pow_right (by omega) (by omega))
    have sB2 : (8192 : Nat) * 2 ^ 14 = 134217728 := by decide
    have b1 := @gA_b m (gQ m k) w (gP m w k) (i + 1) (by omega)
    have nS : ∀ s0, gY m w k i = true → Tt (Lists_makeList_122 200000 cs (nI k) K ib' it' pr' (nI (gQ m k)) (nI (gL m w k i)) (nI (i - gL m w k i)) (nI i) s0) (fun u => u.1 = nI (gZ m k) ∧ (∀ i, i < gZ m k → u.2.2.1 i = nI (gV m w k i)) ∧ (∀ i, i < gZ m k → u.2.2.2 k i = if gY m w k i = true then nI 0 else nI 1) ∧ ∀ j, j ≠ k → u.2.2.2 j = pr j) := by
      intro s0 hy
      have ea : gL m w k (i + 1) = gL m w k i + 1 := gA_t hy
      have am : gL m w k i < m := by
        have : gA m (gQ m k) w (gP m w k) (i + 1) = gL m w k i + 1 := ea
        omega
      have ev : gV m w k i = w (gL m w k i) := by rw [gV_e]; exact gW_t hy
      have wl := hw _ am
      unfold Lists_makeList_122 Lists_makeList_123 Lists_makeList_148 Lists_makeList_167 Lists_makeList_181 Lists_makeList_196
      simp (disch := omega) only [Tt_L, Tt_S, Tt_C, Tt_Z, Tt_R0, Tt_R1, Tt_R2, Tt_R3, Tt_R4, Tt_R5, q10, eq_self, if_true, if_false, i_0, i_1, i_2, i_3, i_4, i_5, i_6, i_7, i_8, i_9, i_10, i_11, i_13, i_14, i_15, i_16, i_17, i_18, i_19, i_24, i_29, i_30, i_31, i_32, i_138, i_143, i_144, i_254, i_255, i_256, i_257, i_258, i_261, i_264, i_265, i_279, i_280, i_284, i_285, i_286, i_288, i_319, i_320, i_338, i_339, i_575, i_576, i_599, i_600, i_4096, i_8191, i_8192, i_8249, i_8250, i_8256, i_9000, i_16384, i_32767, i_32768, i_65520, i_65521, i_65535, i_65536, i_65999, i_66000, i_1300, i_120, i_156, Tt_N, nI_clamp, nI_add, sx_nar, hcs _ am, nI_eq]
      refine ⟨by omega, by omega, by omega, by omega, ?_⟩
      exact next true (w (gL m w k i)) _ _ _ _ hy (by omega) ev.symm rfl rfl (by omega) (by omega)
    have nP : gY m w k i = false → Tt (Lists_makeList_118 200000 cs (nI k) K ib' it' pr' (nI (gQ m k)) (nI (gL m w k i)) (nI (i - gL m w k i)) (nI i) (nI (gP m w k (i - gL m w k i)))) (fun u => u.1 = nI (gZ m k) ∧ (∀ i, i < gZ m k → u.2.2.1 i = nI (gV m w k i)) ∧ (∀ i, i < gZ m k → u.2.2.2 k i = if gY m w k i = true then nI 0 else nI 1) ∧ ∀ j, j ≠ k → u.2.2.2 j = pr j) := by
      intro hy
      have ea : gL m w k (i + 1) = gL m w k i := gA_f hy
      have ev : gV m w k i = gP m w k (i - gL m w k i) := by rw [gV_e]; exact gW_f hy
      unfold Lists_makeList_118 Lists_makeList_123 Lists_makeList_148 Lists_makeList_167 Lists_makeList_181 Lists_makeList_196
      simp (disch := omega) only [Tt_L, Tt_S, Tt_C, Tt_Z, Tt_R0, Tt_R1, Tt_R2, Tt_R3, Tt_R4, Tt_R5, q10, eq_self, if_true, if_false, i_0, i_1, i_2, i_3, i_4, i_5, i_6, i_7, i_8, i_9, i_10, i_11, i_13, i_14, i_15, i_16, i_17, i_18, i_19, i_24, i_29, i_30, i_31, i_32, i_138, i_143, i_144, i_254, i_255, i_256, i_257, i_258, i_261, i_264, i_265, i_279, i_280, i_284, i_285, i_286, i_288, i_319, i_320, i_338, i_339, i_575, i_576, i_599, i_600, i_4096, i_8191, i_8192, i_8249, i_8250, i_8256, i_9000, i_16384, i_32767, i_32768, i_65520, i_65521, i_65535, i_65536, i_65999, i_66000, i_1300, i_120, i_156, Tt_N, nI_clamp, nI_add, sx_nar, nI_eq]
      refine ⟨by omega, by omega, by omega, ?_⟩
      exact next false (gP m w k (i - gL m w k i)) _ _ _ _ hy (by omega) ev.symm rfl rfl (by omega) (by omega)
    have body : Tt (Lists_makeList_56 200000 (nI m) cs (nI k) K ib' it' pr' (nI (gQ m k)) (nI (gL m w k i)) (nI (i - gL m w k i)) (nI i)) (fun u => u.1 = nI (gZ m k) ∧ (∀ i, i < gZ m k → u.2.2.1 i = nI (gV m w k i)) ∧ (∀ i, i < gZ m k → u.2.2.2 k i = if gY m w k i = true then nI 0 else nI 1) ∧ ∀ j, j ≠ k → u.2.2.2 j = pr j) := by
      unfold Lists_makeList_56 Lists_makeList_88
      by_cases y : gQ m k ≤ i - gL m w k i
      · have hy : gY m w k i = true := decide_eq_true (Or.inl (show i - gL m w k i = gQ m k by omega))
        simp (disch := omega) only [Tt_L, Tt_S, Tt_C, Tt_Z, Tt_R0, Tt_R1, Tt_R2, Tt_R3, Tt_R4, Tt_R5, q10, eq_self, if_true, if_false, i_0, i_1, i_2, i_3, i_4, i_5, i_6, i_7, i_8, i_9, i_10, i_11, i_13, i_14, i_15, i_16, i_17, i_18, i_19, i_24, i_29, i_30, i_31, i_32, i_138, i_143, i_144, i_254, i_255, i_256, i_257, i_258, i_261, i_264, i_265, i_279, i_280, i_284, i_285, i_286, i_288, i_319, i_320, i_338, i_339, i_575, i_576, i_599, i_600, i_4096, i_8191, i_8192, i_8249, i_8250, i_8256, i_9000, i_16384, i_32767, i_32768, i_65520, i_65521, i_65535, i_65536, i_65999, i_66000, i_1300, i_120, i_156, nI_leI]
        rw [if_pos y, if_neg (by omega), if_pos y]
        exact nS _ hy
      · have hq : gQ m k ≤ 287 := by omega
        have pb := gP_b hw k (i - gL m w k i) (by omega)
        have e1 := hit (i - gL m w k i) (by omega)
        simp (disch := omega) only [Tt_L, Tt_S, Tt_C, Tt_Z, Tt_R0, Tt_R1, Tt_R2, Tt_R3, Tt_R4, Tt_R5, q10, eq_self, if_true, if_false, i_0, i_1, i_2, i_3, i_4, i_5, i_6, i_7, i_8, i_9, i_10, i_11, i_13, i_14, i_15, i_16, i_17, i_18, i_19, i_24, i_29, i_30, i_31, i_32, i_138, i_143, i_144, i_254, i_255, i_256, i_257, i_258, i_261, i_264, i_265, i_279, i_280, i_284, i_285, i_286, i_288, i_319, i_320, i_338, i_339, i_575, i_576, i_599, i_600, i_4096, i_8191, i_8192, i_8249, i_8250, i_8256, i_9000, i_16384, i_32767, i_32768, i_65520, i_65521, i_65535, i_65536, i_65999, i_66000, i_1300, i_120, i_156, nI_leI, pk_mul, nI_add, Tt_N, nI_clamp]
        rw [if_neg y]
        refine ⟨by omega, by omega, ?_⟩
        rw [e1]
        by_cases am : m ≤ gL m w k i
        · rw [if_pos am]
          apply nP
          apply decide_eq_false
          rintro (q | q)
          · have : i - gL m w k i = gQ m k := q
            omega
          · have : gL m w k i < m := q.1
            omega
        · rw [if_neg am, hcs _ (by omega)]
          have wl := hw (gL m w k i) (by omega)
          simp (disch := omega) only [nI_leI]
          rw [if_neg y]
          refine ⟨by omega, ?_⟩
          by_cases q : w (gL m w k i) ≤ gP m w k (i - gL m w k i)
          · rw [if_pos q]
            exact nS _ (decide_eq_true (Or.inr ⟨by omega, q⟩))
          · rw [if_neg q]
            apply nP
            apply decide_eq_false
            rintro (q' | q')
            · have : i - gL m w k i = gQ m k := q'
              omega
            · exact q q'.2
    simp (disch := omega) only [Tt_C, i_0, i_1, i_2, i_3, i_4, i_5, i_6, i_7, i_8, i_9, i_10, i_11, i_13, i_14, i_15, i_16, i_17, i_18, i_19, i_24, i_29, i_30, i_31, i_32, i_138, i_143, i_144, i_254, i_255, i_256, i_257, i_258, i_261, i_264, i_265, i_279, i_280, i_284, i_285, i_286, i_288, i_319, i_320, i_338, i_339, i_575, i_576, i_599, i_600, i_4096, i_8191, i_8192, i_8249, i_8250, i_8256, i_9000, i_16384, i_32767, i_32768, i_65520, i_65521, i_65535, i_65536, i_65999, i_66000, i_1300, i_120, i_156, nI_leI, nI_ltI]
    rw [if_neg (by omega)]
    by_cases y : gL m w k i < m
    · rw [if_pos y]; exact body
    · rw [if_neg y, if_neg (by omega)]; exact body
theorem t_addOne {n s : Nat} {c : Nat → Int32} {x : Int32} (hx : x = nI s) (hs : s < n) (hn : n ≤ 339) : Tt (Lists_addOne 200000 n c x) (fun u => u.2 = upd c s (c s + 1)) := by
  subst hx
  unfold Lists_addOne
  simp (disch := omega) only [Tt_L, Tt_S, Tt_C, Tt_Z, Tt_R0, Tt_R1, Tt_R2, Tt_R3, Tt_R4, Tt_R5, q10, eq_self, if_true, if_false, i_0, i_1, i_2, i_3, i_4, i_5, i_6, i_7, i_8, i_9, i_10, i_11, i_13, i_14, i_15, i_16, i_17, i_18, i_19, i_24, i_29, i_30, i_31, i_32, i_138, i_143, i_144, i_254, i_255, i_256, i_257, i_258, i_261, i_264, i_265, i_279, i_280, i_284, i_285, i_286, i_288, i_319, i_320, i_338, i_339, i_575, i_576, i_599, i_600, i_4096, i_8191, i_8192, i_8249, i_8250, i_8256, i_9000, i_16384, i_32767, i_32768, i_65520, i_65521, i_65535, i_65536, i_65999, i_66000, i_1300, i_120, i_156, n_neg, nI_leI, Tt_N, nI_clamp]
  rw [if_neg (by omega)]
  exact ⟨hs, hs, trivial⟩
/-- what the program takes of one list -/
theorem t_take {n m k t : Nat} {w r : Nat → Nat} {pr : Nat → Nat → Int32} {sy c : Nat → Int32} {v x1 x2 : Int32} (hv : v = nI m) (hm1 : 2 ≤ m) (hm : m ≤ 288) (h1 : x1 = nI k) (hk : k < 15) (h2 : x2 = nI t) (ht : t ≤ gZ m k) (hpr : ∀ i, i < gZ m k → pr k i = if gY m w k i = true then nI 0 else nI 1) (hsy : ∀ a, a < m → sy a = nI (r a)) (hr : ∀ a, a < m → r a < n) (hn : n ≤ 339) : Tt (Lists_take 200000 n v pr sy c x1 x2) (fun u => u.1 = nI (2 * (t - gL m w k t)) ∧ ∀ x, u.2 x = c x + nI (gN r (gL m w k t) x)) := by
  subst hv h1 h2
  have zhi := @gZ_hi m (by omega) k
  have ze := gZ_e m k
  unfold Lists_take
  refine Tt_W3 (fun mm c' x4 x5 => ∃ i, x4 = nI (gL m w k i) ∧ x5 = nI i ∧ i ≤ t ∧ mm = t - i ∧ ∀ x, c' x = c x + nI (gN r (gL m w k i) x)) ?_ 200000 t c 0 0 (by omega) ⟨0, rfl, rfl, by omega, rfl, fun x => by
    show c x = c x + nI 0
    rw [nI_0, Int32.add_zero]⟩
  rintro K mm c' x4 x5 ⟨i, rfl, rfl, hi, rfl, hc⟩ ih
  have b0 : gL m w k i ≤ m ∧ i - gL m w k i ≤ gQ m k := @gA_b m (gQ m k) w (gP m w k) i (by omega)
  have l0 : gL m w k i ≤ i := @gA_le m (gQ m k) w (gP m w k) i
  unfold Lists_take_6 Lists_take_55
  by_cases z : t ≤ i
  · have e : i = t := by omega
    subst e
    simp (disch := omega) only [Tt_L, Tt_S, Tt_C, Tt_Z, Tt_R0, Tt_R1, Tt_R2, Tt_R3, Tt_R4, Tt_R5, q10, eq_self, if_true, if_false, i_0, i_1, i_2, i_3, i_4, i_5, i_6, i_7, i_8, i_9, i_10, i_11, i_13, i_14, i_15, i_16, i_17, i_18, i_19, i_24, i_29, i_30, i_31, i_32, i_138, i_143, i_144, i_254, i_255, i_256, i_257, i_258, i_261, i_264, i_265, i_279, i_280, i_284, i_285, i_286, i_288, i_319, i_320, i_338, i_339, i_575, i_576, i_599, i_600, i_4096, i_8191, i_8192, i_8249, i_8250, i_8256, i_9000, i_16384, i_32767, i_32768, i_65520, i_65521, i_65535, i_65536, i_65999, i_66000, i_1300, i_120, i_156, nI_leI, pk_sub, pk_mul]
    rw [if_pos z]
    exact ⟨trivial, hc⟩
  · have b1 : gL m w k (i + 1) ≤ m ∧ i + 1 - gL m w k (i + 1) ≤ gQ m k := @gA_b m (gQ m k) w (gP m w k) (i + 1) (by omega)
    have p0 := hpr i (by omega)
    simp (disch := omega) only [Tt_L, Tt_S, Tt_C, Tt_Z, Tt_R0, Tt_R1, Tt_R2, Tt_R3, Tt_R4, Tt_R5, q10, eq_self, if_true, if_false, i_0, i_1, i_2, i_3, i_4, i_5, i_6, i_7, i_8, i_9, i_10, i_11, i_13, i_14, i_15, i_16, i_17, i_18, i_19, i_24, i_29, i_30, i_31, i_32, i_138, i_143, i_144, i_254, i_255, i_256, i_257, i_258, i_261, i_264, i_265, i_279, i_280, i_284, i_285, i_286, i_288, i_319, i_320, i_338, i_339, i_575, i_576, i_599, i_600, i_4096, i_8191, i_8192, i_8249, i_8250, i_8256, i_9000, i_16384, i_32767, i_32768, i_65520, i_65521, i_65535, i_65536, i_65999, i_66000, i_1300, i_120, i_156, nI_leI, Tt_N, nI_clamp, nI_add]
    rw [if_neg z, if_neg (by omega)]
    refine ⟨by omega, by omega, ?_⟩
    cases hy : gY m w k i with
    | true =>
      have ea : gL m w k (i + 1) = gL m w k i + 1 := gA_t hy
      rw [hy, if_pos rfl] at p0
      rw [p0, if_pos rfl, if_neg (by omega)]
      refine ⟨by omega, ?_⟩
      refine Tt_m (t_addOne (hsy _ (by omega)) (hr _ (by omega)) hn) ?_
      rintro ⟨_, c2⟩ hc2
      dsimp only at hc2 ⊢
      subst hc2
      rw [← ea]
      refine ih (t - (i + 1)) _ _ _ (by omega) ⟨i + 1, rfl, rfl, by omega, rfl, fun x => ?_⟩
      rw [ea]
      show _ = c x + nI (gN r (gL m w k i) x + (if r (gL m w k i) = x then 1 else 0))
      by_cases e : x = r (gL m w k i)
      · rw [e, pk_us, hc, if_pos rfl, ← nI_add, Int32.add_assoc]; rfl
      · rw [pk_un e, hc, if_neg (fun q => e q.symm)]; rfl
    | false =>
      have ea : gL m w k (i + 1) = gL m w k i := gA_f hy
      rw [hy, if_neg Bool.false_ne_true] at p0
      rw [p0, if_neg (by decide)]
      refine ih (t - (i + 1)) _ _ _ (by omega) ⟨i + 1, by rw [ea], rfl, by omega, rfl, fun x => ?_⟩
      rw [ea]; exact hc x
/-- the program's lengths of codes -/
theorem t_fit {n K : Nat} {p c3 cs sy ib it : Nat → Int32} {pr : Nat → Nat → Int32} {c : Nat → Nat} {v x2 : Int32} (hn : n ≤ 288) (hp : ∀ s, s < n → p s = nI (c s)) (hc : ∀ i, c i ≤ 8192) (hK0 : 0 < K) (hK1 : K ≤ 15) (hK : (n - 1) / 2 ^ (K - 1) = 0) (h2 : x2 = nI K) : Tt (Lists_fit 200000 n n p c3 v cs sy ib it pr x2) (fun u => ∀ x, x < n → u.2.1 x = nI (fitL c n K x)) := by
  subst h2
  unfold Lists_fit
  rw [Tt_R1]
  refine Tt_m (t_fill (by omega)) ?_
  rintro ⟨_, c1⟩ hc1
  rw [Tt_R3]
  refine Tt_m (t_sort hn hp (fun i => by have := hc i; omega)) ?_
  rintro ⟨_, v2, cs2, sy2⟩ ⟨q1, q2⟩
  dsimp only at hc1 q1 q2 ⊢
  obtain ⟨o1, o2, o3, o4, o5⟩ := rk_ok c n
  have fe : ∀ x, fitL c n K x = if (rk c n).1 = 0 then 0 else if (rk c n).1 = 1 then (if (rk c n).2 0 = x then 1 else 0) else gH (rk c n).1 (fun a => c ((rk c n).2 a)) (rk c n).2 K x := fun x => rfl
  generalize (rk c n).1 = m at *
  generalize (rk c n).2 = r at *
  subst q1
  have c0 : ∀ x, x < n → c1 x = nI 0 := fun x hx => by
    have := hc1 x
    rw [if_pos hx] at this
    exact this
  unfold Lists_fit_28
  by_cases z1 : m = 1
  · subst z1
    have g1 := (q2 0 (by omega)).2
    have g2 := (o2 0 (by omega)).1
    simp (disch := omega) only [Tt_L, Tt_S, Tt_C, Tt_Z, Tt_R0, Tt_R1, Tt_R2, Tt_R3, Tt_R4, Tt_R5, q10, eq_self, if_true, if_false, i_0, i_1, i_2, i_3, i_4, i_5, i_6, i_7, i_8, i_9, i_10, i_11, i_13, i_14, i_15, i_16, i_17, i_18, i_19, i_24, i_29, i_30, i_31, i_32, i_138, i_143, i_144, i_254, i_255, i_256, i_257, i_258, i_261, i_264, i_265, i_279, i_280, i_284, i_285, i_286, i_288, i_319, i_320, i_338, i_339, i_575, i_576, i_599, i_600, i_4096, i_8191, i_8192, i_8249, i_8250, i_8256, i_9000, i_16384, i_32767, i_32768, i_65520, i_65521, i_65535, i_65536, i_65999, i_66000, i_1300, i_120, i_156, nI_eq, Tt_N, nI_clamp, nI_leI]
    rw [g1]
    refine ⟨by omega, ?_⟩
    refine Tt_m (t_addOne rfl g2 (by omega)) ?_
    rintro ⟨_, c2⟩ hc2
    dsimp only at hc2 ⊢
    subst hc2
    rw [if_neg (by omega)]
    intro x hx
    rw [fe, if_neg (by omega), if_pos rfl]
    by_cases e : x = r 0
    · rw [e, pk_us, c0 _ g2, if_pos rfl]; rfl
    · rw [pk_un e, c0 x hx, if_neg (fun q => e q.symm)]
  · by_cases z2 : m = 0
    · subst z2
      simp (disch := omega) only [Tt_L, Tt_S, Tt_C, Tt_Z, Tt_R0, Tt_R1, Tt_R2, Tt_R3, Tt_R4, Tt_R5, q10, eq_self, if_true, if_false, i_0, i_1, i_2, i_3, i_4, i_5, i_6, i_7, i_8, i_9, i_10, i_11, i_13, i_14, i_15, i_16, i_17, i_18, i_19, i_24, i_29, i_30, i_31, i_32, i_138, i_143, i_144, i_254, i_255, i_256, i_257, i_258, i_261, i_264, i_265, i_279, i_280, i_284, i_285, i_286, i_288, i_319, i_320, i_338, i_339, i_575, i_576, i_599, i_600, i_4096, i_8191, i_8192, i_8249, i_8250, i_8256, i_9000, i_16384, i_32767, i_32768, i_65520, i_65521, i_65535, i_65536, i_65999, i_66000, i_1300, i_120, i_156, nI_eq, nI_leI]
      rw [if_neg (by omega), if_neg (by omega)]
      intro x hx
      rw [fe, if_pos rfl]
      exact c0 x hx
    · have hm2 : 2 ≤ m := by omega
      have hK' : (m - 1) / 2 ^ (K - 1) = 0 := by
        have : (m - 1) / 2 ^ (K - 1) ≤ (n - 1) / 2 ^ (K - 1) := Nat.div_le_div_right (by omega)
        omega
      have fe' : ∀ x, fitL c n K x = gH m (fun a => c (r a)) r K x := fun x => by rw [fe, if_neg z2, if_neg z1]
      generalize hw : (fun a => c (r a)) = w at *
      have hw1 : ∀ a, a < m → w a ≤ 8192 := fun a _ => by rw [← hw]; exact hc (r a)
      have hcs : ∀ a, a < m → cs2 a = nI (w a) := fun a ha => by rw [← hw]; exact (q2 a ha).1
      have hsy : ∀ a, a < m → sy2 a = nI (r a) := fun a ha => (q2 a ha).2
      simp (disch := omega) only [Tt_L, Tt_S, Tt_C, Tt_Z, Tt_R0, Tt_R1, Tt_R2, Tt_R3, Tt_R4, Tt_R5, q10, eq_self, if_true, if_false, i_0, i_1, i_2, i_3, i_4, i_5, i_6, i_7, i_8, i_9, i_10, i_11, i_13, i_14, i_15, i_16, i_17, i_18, i_19, i_24, i_29, i_30, i_31, i_32, i_138, i_143, i_144, i_254, i_255, i_256, i_257, i_258, i_261, i_264, i_265, i_279, i_280, i_284, i_285, i_286, i_288, i_319, i_320, i_338, i_339, i_575, i_576, i_599, i_600, i_4096, i_8191, i_8192, i_8249, i_8250, i_8256, i_9000, i_16384, i_32767, i_32768, i_65520, i_65521, i_65535, i_65536, i_65999, i_66000, i_1300, i_120, i_156, nI_eq, nI_leI]
      rw [if_neg z1, if_pos hm2]
      refine Tt_W9 (fun mm c3 v cs sy ib it pr x4 x5 => c3 = c1 ∧ v = nI m ∧ cs = cs2 ∧ sy = sy2 ∧ ∃ k, x5 = nI k ∧ k ≤ K ∧ mm = K - k ∧ x4 = nI (if k = 0 then 0 else gZ m (k - 1)) ∧ (∀ i, 0 < k → i < gZ m (k - 1) → it i = nI (gV m w (k - 1) i)) ∧ ∀ l, l < k → ∀ i, i < gZ m l → pr l i = if gY m w l i = true then nI 0 else nI 1) ?_ 200000 K _ _ _ _ _ _ _ _ _ (by omega) ⟨rfl, rfl, rfl, rfl, 0, rfl, by omega, rfl, rfl, fun i h => by omega, fun l h => by omega⟩
      rintro KK mm c3 v cs sy ib it pr x4 x5 ⟨rfl, rfl, rfl, rfl, k, rfl, hk, rfl, rfl, hit, hpr⟩ ih
      unfold Lists_fit_43
      by_cases z : K ≤ k
      · have ek : k = K := by omega
        subst ek
        simp (disch := omega) only [Tt_C, nI_leI]
        rw [if_pos z]
        unfold Lists_fit_72
        have e15 : (if (15 : Int32) < nI k then (15 : Int32) else nI k) - 1 = nI (k - 1) := by
          rw [if_neg (by rw [i_15, nI_ltI (by omega) (by omega)]; omega)]
          exact pk_sub (by omega)
        have e2m : (2 : Int32) * nI m - 2 = nI (2 * m - 2) := by
          rw [i_2, pk_mul, pk_sub (by omega)]
        simp only [Tt_L, e15, e2m]
        refine Tt_W9 (fun mm c3' v cs' sy' ib' it' pr' x5 x6 => v = nI m ∧ cs' = cs ∧ sy' = sy ∧ pr' = pr ∧ ∃ j, j ≤ k ∧ mm = k - j ∧ x6 = nI (k - j) - 1 ∧ x5 = nI (gT m w k j) ∧ ∀ x, c3' x = c3 x + nI (sm (fun j => gN r (gL m w (k - 1 - j) (gT m w k j)) x) j)) ?_ 200000 k _ _ _ _ _ _ _ _ _ (by omega) ⟨rfl, rfl, rfl, rfl, 0, by omega, rfl, (pk_sub (by omega)).symm, rfl, fun x => by
          show c3 x = c3 x + nI 0
          rw [nI_0, Int32.add_zero]⟩
        rintro K3 mm c3' v cs' sy' ib' it' pr' x5 x6 ⟨rfl, rfl, rfl, rfl, j, hj, rfl, rfl, rfl, hcx⟩ ih3
        unfold Lists_fit_92
        by_cases y : j = k
        · subst y
          simp only [Tt_C]
          rw [if_pos (by rw [Nat.sub_self]; decide)]
          intro x hx
          rw [fe']
          have := hcx x
          rw [c0 x hx, nI_add, Nat.zero_add] at this
          exact this
        · have e1 : nI (k - j) - 1 = nI (k - 1 - j) := by rw [i_1, pk_sub (by omega)]; congr 1; omega
          rw [e1]
          simp (disch := omega) only [Tt_C, i_0, i_1, i_2, i_3, i_4, i_5, i_6, i_7, i_8, i_9, i_10, i_11, i_13, i_14, i_15, i_16, i_17, i_18, i_19, i_24, i_29, i_30, i_31, i_32, i_138, i_143, i_144, i_254, i_255, i_256, i_257, i_258, i_261, i_264, i_265, i_279, i_280, i_284, i_285, i_286, i_288, i_319, i_320, i_338, i_339, i_575, i_576, i_599, i_600, i_4096, i_8191, i_8192, i_8249, i_8250, i_8256, i_9000, i_16384, i_32767, i_32768, i_65520, i_65521, i_65535, i_65536, i_65999, i_66000, i_1300, i_120, i_156, n_neg, if_false]
          rw [Tt_R1]
          refine Tt_m (t_take (w := w) (r := r) (k := k - 1 - j) (t := gT m w k j) rfl hm2 (by omega) rfl (by omega) rfl (gT_le (by omega) hK' j (by omega)) (hpr _ (by omega)) hsy (fun a ha => (o2 a ha).1) (by omega)) ?_
          rintro ⟨x', c4⟩ ⟨g1, g2⟩
          dsimp only at g1 g2 ⊢
          subst g1
          simp only [Tt_L]
          refine ih3 (k - (j + 1)) _ _ _ _ _ _ _ _ _ (by omega) ⟨rfl, rfl, rfl, rfl, j + 1, by omega, rfl, ?_, rfl, fun x => ?_⟩
          · show nI (k - 1 - j) + -nI 1 = nI (k - (j + 1)) - nI 1
            rw [show k - (j + 1) = k - 1 - j by omega, Int32.sub_eq_add_neg]
          · rw [g2 x, hcx x, Int32.add_assoc, nI_add]; rfl
      · simp (disch := omega) only [Tt_C, i_0, i_1, i_2, i_3, i_4, i_5, i_6, i_7, i_8, i_9, i_10, i_11, i_13, i_14, i_15, i_16, i_17, i_18, i_19, i_24, i_29, i_30, i_31, i_32, i_138, i_143, i_144, i_254, i_255, i_256, i_257, i_258, i_261, i_264, i_265, i_279, i_280, i_284, i_285, i_286, i_288, i_319, i_320, i_338, i_339, i_575, i_576, i_599, i_600, i_4096, i_8191, i_8192, i_8249, i_8250, i_8256, i_9000, i_16384, i_32767, i_32768, i_65520, i_65521, i_65535, i_65536, i_65999, i_66000, i_1300, i_120, i_156, nI_leI]
        rw [if_neg z, if_neg (by omega), Tt_R3]
        have hzz : (if k = 0 then 0 else gZ m (k - 1)) / 2 = gQ m k := by
          cases k with
          | zero => rfl
          | succ k => rw [if_neg (by omega), Nat.add_sub_cancel]; rfl
        have hz2 : (if k = 0 then 0 else gZ m (k - 1)) < 576 := by
          have := @gZ_hi m (by omega) (k - 1)
          split <;> omega
        refine Tt_m (t_makeList (w := w) (k := k) rfl hm2 (by omega) rfl (by omega) rfl hzz hz2 hw1 hcs (fun b hb => ?_)) ?_
        · cases k with
          | zero => exact absurd hb (Nat.not_lt_zero b)
          | succ k =>
            have q : gQ m (k + 1) = gZ m k / 2 := rfl
            have h3 := hit (2 * b) (by omega) (by rw [Nat.add_sub_cancel]; omega)
            have h4 := hit (2 * b + 1) (by omega) (by rw [Nat.add_sub_cancel]; omega)
            rw [Nat.add_sub_cancel] at h3 h4
            rw [h3, h4, nI_add]
            rfl
        · rintro ⟨r1, ib2, it2, pr2⟩ ⟨g1, g2, g3, g4⟩
          dsimp only at g1 g2 g3 g4 ⊢
          subst g1
          simp only [Tt_L, nI_add]
          refine ih (K - (k + 1)) _ _ _ _ _ _ _ _ _ (by omega) ⟨rfl, rfl, rfl, rfl, k + 1, rfl, by omega, rfl, ?_, fun i _ hi => ?_, fun l hl i hi => ?_⟩
          · rw [if_neg (by omega), Nat.add_sub_cancel]
          · rw [Nat.add_sub_cancel] at hi ⊢
            exact g2 i hi
          · by_cases e : l = k
            · subst e; exact g3 i hi
            · rw [g4 l e]; exact hpr l (by omega) i hi
