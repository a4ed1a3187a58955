/-! bits written, by program and reference: n of them, as the number V -/
def byt (V i : Nat) : Nat := V / 2 ^ (8 * i) % 256
theorem byt_lt (V i : Nat) : byt V i < 256 := Nat.mod_lt _ (by omega)
theorem app_hi {V b n m : Nat} (h : 8 * m ≤ n) : (V + b * 2 ^ n) / 2 ^ (8 * m) = V / 2 ^ (8 * m) + b * 2 ^ (n - 8 * m) := by
  have e : b * 2 ^ n = (b * 2 ^ (n - 8 * m)) * 2 ^ (8 * m) := by
    rw [Nat.mul_assoc, ← Nat.pow_add]
    congr 2
    omega
  rw [e, Nat.add_mul_div_right _ _ (Nat.two_pow_pos _)]
theorem byt_app {V x n i : Nat} (h : 8 * i + 8 ≤ n) : byt (V + x * 2 ^ n) i = byt V i := by
  unfold byt
  rw [app_hi (by omega)]
  have e : x * 2 ^ (n - 8 * i) = (x * 2 ^ (n - 8 * i - 8)) * 256 := by
    rw [Nat.mul_assoc, show (256 : Nat) = 2 ^ 8 from rfl, ← Nat.pow_add]
    congr 2
    omega
  rw [e, Nat.add_mul_mod_self_right]
theorem hi_lt {V n m : Nat} (hV : V < 2 ^ n) (h : 8 * m ≤ n) : V / 2 ^ (8 * m) < 2 ^ (n - 8 * m) := by
  apply Nat.div_lt_of_lt_mul
  rw [← Nat.pow_add, show 8 * m + (n - 8 * m) = n by omega]
  exact hV
theorem app_lt {V b n k : Nat} (hV : V < 2 ^ n) (hb : b < 2 ^ k) : V + b * 2 ^ n < 2 ^ (n + k) := by
  have h1 : (b + 1) * 2 ^ n ≤ 2 ^ k * 2 ^ n := Nat.mul_le_mul_right _ hb
  have h2 : 2 ^ k * 2 ^ n = 2 ^ (n + k) := by rw [← Nat.pow_add, Nat.add_comm]
  have h3 : (b + 1) * 2 ^ n = b * 2 ^ n + 2 ^ n := by rw [Nat.add_mul, Nat.one_mul]
  omega
def RefW (bits : Int32) (c : Nat → Int32) (n V : Nat) : Prop := bits = nI n ∧ V < 2 ^ n ∧ ∀ i, i < (n + 7) / 8 → c i = sx (byt V i)
def ClsW (len op oc : Int32) (c : Nat → Int32) (n V : Nat) : Prop := len = nI (min (n / 8) 8256) ∧ op = nI (V / 2 ^ (8 * (n / 8))) ∧ oc = nI (n % 8) ∧ V < 2 ^ n ∧ ∀ i, i < n / 8 → i < 8256 → c i = sx (byt V i)
theorem t_writeBit {F : Nat} {bits x : Int32} {c : Nat → Int32} {n V b : Nat} (h : RefW bits c n V) (hn : n < 528000) (hb : b < 2) (hx : x = nI b) : Tt (M_writeBit F bits c x) (fun u => RefW u.2.1 u.2.2 (n + 1) (V + b * 2 ^ n)) := by
  obtain ⟨rfl, hV, hc⟩ := h
  subst hx
  have q1 : V + b * 2 ^ n < 2 ^ (n + 1) := app_lt hV (by omega)
  unfold M_writeBit M_writeBit_43
  simp (disch := omega) only [Tt_L, Tt_S, Tt_C, Tt_Z, Tt_R0, Tt_R1, Tt_R2, Tt_R3, Tt_R4, Tt_R5, q10, eq_self, if_true, if_false, i_0, i_1, i_2, i_3, i_4, i_5, i_6, i_7, i_8, i_9, i_10, i_11, i_13, i_14, i_15, i_16, i_17, i_18, i_19, i_24, i_29, i_30, i_31, i_32, i_138, i_143, i_144, i_254, i_255, i_256, i_257, i_258, i_261, i_264, i_265, i_279, i_280, i_284, i_285, i_286, i_288, i_319, i_320, i_338, i_339, i_575, i_576, i_599, i_600, i_4096, i_8191, i_8192, i_8249, i_8250, i_8256, i_9000, i_16384, i_32767, i_32768, i_65520, i_65521, i_65535, i_65536, i_65999, i_66000, i_1300, i_120, i_156, pk_rem, pk_div, nI_eq, Tt_N, nI_clamp, sx_nar, nI_add]
  split
  · rename_i h0
    refine ⟨by omega, rfl, q1, ?_⟩
    intro i hi
    by_cases e : i = n / 8
    · subst e
      rw [pk_us]
      unfold byt
      have e8 : 8 * (n / 8) = n := by omega
      rw [e8, Nat.add_mul_div_right _ _ (Nat.two_pow_pos _), Nat.div_eq_of_lt hV, Nat.zero_add, Nat.mod_eq_of_lt (by omega)]
    · rw [pk_un e, byt_app (by omega)]
      exact hc i (by omega)
  · rename_i h0
    refine ⟨by omega, by omega, ?_⟩
    have c1 := hc (n / 8) (by omega)
    have l1 := @hi_lt V n (n / 8) hV (by omega)
    have e1 : n - 8 * (n / 8) = n % 8 := by omega
    rw [e1] at l1
    have l2 : 2 ^ (n % 8) ≤ 2 ^ 7 := Nat.pow_le_pow_right (by omega) (by omega)
    have e2 : byt V (n / 8) = V / 2 ^ (8 * (n / 8)) := Nat.mod_eq_of_lt (by omega)
    have l3 : b * 2 ^ (n % 8) ≤ 1 * 2 ^ (n % 8) := Nat.mul_le_mul_right _ (by omega)
    rw [c1, e2, sx_small _ (by omega), n_shl (by omega) (by omega), n_ord l1, sx_nar]
    refine ⟨rfl, q1, ?_⟩
    intro i hi
    by_cases e : i = n / 8
    · subst e
      rw [pk_us]
      unfold byt
      rw [app_hi (by omega), e1, ← sx_mod]
    · rw [pk_un e, byt_app (by omega)]
      exact hc i (by omega)
theorem t_writeNumber {bits x y : Int32} {c : Nat → Int32} {n V v k : Nat} (h : RefW bits c n V) (hn : n + k ≤ 528000) (hk : k < 32) (hv : v < 2 ^ 31) (hx : x = nI v) (hy : y = nI k) : Tt (M_writeNumber 200000 bits c x y) (fun u => RefW u.2.1 u.2.2 (n + k) (V + v % 2 ^ k * 2 ^ n)) := by
  subst hx hy
  unfold M_writeNumber
  refine Tt_W3 (fun m bits c x3 => ∃ j, j ≤ k ∧ x3 = nI j ∧ m = k - j ∧ RefW bits c (n + j) (V + v % 2 ^ j * 2 ^ n)) ?_ 200000 k bits c 0 (by omega) ⟨0, by omega, rfl, rfl, by rw [Nat.pow_zero, Nat.mod_one, Nat.zero_mul]; exact h⟩
  rintro K m bits c x3 ⟨j, hj, rfl, rfl, hR⟩ ih
  unfold M_writeNumber_2
  simp (disch := omega) only [Tt_L, Tt_S, Tt_C, Tt_Z, Tt_R0, Tt_R1, Tt_R2, Tt_R3, Tt_R4, Tt_R5, q10, eq_self, if_true, if_false, i_0, i_1, i_2, i_3, i_4, i_5, i_6, i_7, i_8, i_9, i_10, i_11, i_13, i_14, i_15, i_16, i_17, i_18, i_19, i_24, i_29, i_30, i_31, i_32, i_138, i_143, i_144, i_254, i_255, i_256, i_257, i_258, i_261, i_264, i_265, i_279, i_280, i_284, i_285, i_286, i_288, i_319, i_320, i_338, i_339, i_575, i_576, i_599, i_600, i_4096, i_8191, i_8192, i_8249, i_8250, i_8256, i_9000, i_16384, i_32767, i_32768, i_65520, i_65521, i_65535, i_65536, i_65999, i_66000, i_1300, i_120, i_156, nI_leI, n_shr, n_1, nI_add]
  split
  · rename_i h0
    have : j = k := by omega
    subst this
    exact hR
  · rename_i h0
    refine Tt_m (t_writeBit hR (by omega) (Nat.mod_lt _ (by omega)) rfl) ?_
    rintro ⟨_, b2, c2⟩ hR2
    refine ih (k - (j + 1)) _ _ _ (by omega) ⟨j + 1, by omega, rfl, rfl, ?_⟩
    have e : V + v % 2 ^ (j + 1) * 2 ^ n = V + v % 2 ^ j * 2 ^ n + v / 2 ^ j % 2 * 2 ^ (n + j) := by
      rw [Nat.mod_pow_succ, Nat.add_mul, Nat.pow_add, Nat.mul_comm (2 ^ j) (v / 2 ^ j % 2), Nat.mul_assoc, Nat.mul_comm (2 ^ j) (2 ^ n)]
      omega
    rw [e]
    exact hR2
theorem t_number {len op oc x y : Int32} {c : Nat → Int32} {n V v k : Nat} (h : ClsW len op oc c n V) (hk : k ≤ 16) (hv : v < 2 ^ k) (hx : x = nI v) (hy : y = nI k) : Tt (BitWriter_number 200000 len op oc c x y) (fun u => ClsW u.2.1 u.2.2.1 u.2.2.2.1 u.2.2.2.2 (n + k) (V + v * 2 ^ n)) := by
  obtain ⟨rfl, rfl, rfl, hV, hc⟩ := h
  subst hx hy
  have q1 : V + v * 2 ^ n < 2 ^ (n + k) := app_lt hV hv
  have l1 := @hi_lt V n (n / 8) hV (by omega)
  have e1 : n - 8 * (n / 8) = n % 8 := by omega
  rw [e1] at l1
  have l2 : 2 ^ (n % 8) ≤ 2 ^ 7 := Nat.pow_le_pow_right (by omega) (by omega)
  have l3 : 2 ^ k ≤ 2 ^ 16 := Nat.pow_le_pow_right (by omega) hk
  have l4 : v * 2 ^ (n % 8) < 2 ^ 16 * 2 ^ 7 := Nat.mul_lt_mul_of_lt_of_le (by omega) l2 (by omega)
  have e2 : (V + v * 2 ^ n) / 2 ^ (8 * (n / 8)) = V / 2 ^ (8 * (n / 8)) + v * 2 ^ (n % 8) := by rw [app_hi (by omega), e1]
  unfold BitWriter_number
  simp only [Tt_L]
  simp only [i_0, i_1, i_2, i_3, i_4, i_5, i_6, i_7, i_8, i_9, i_10, i_11, i_13, i_14, i_15, i_16, i_17, i_18, i_19, i_24, i_29, i_30, i_31, i_32, i_138, i_143, i_144, i_254, i_255, i_256, i_257, i_258, i_261, i_264, i_265, i_279, i_280, i_284, i_285, i_286, i_288, i_319, i_320, i_338, i_339, i_575, i_576, i_599, i_600, i_4096, i_8191, i_8192, i_8249, i_8250, i_8256, i_9000, i_16384, i_32767, i_32768, i_65520, i_65521, i_65535, i_65536, i_65999, i_66000, i_1300, i_120, i_156]
  rw [n_shl (by omega) (by omega), n_ord l1, nI_add, ← e2]
  generalize hV' : V + v * 2 ^ n = V' at *
  refine Tt_W4 (fun m len op oc c => ∃ q, n / 8 ≤ q ∧ 8 * q ≤ n + k ∧ len = nI (min q 8256) ∧ op = nI (V' / 2 ^ (8 * q)) ∧ oc = nI (n + k - 8 * q) ∧ (∀ i, i < q → i < 8256 → c i = sx (byt V' i)) ∧ m = n + k - 8 * q) ?_ 200000 (n + k - 8 * (n / 8)) _ _ _ _ (by omega) ⟨n / 8, by omega, by omega, rfl, rfl, ?_, ?_, rfl⟩
  · rintro K m len op oc c ⟨q, h1, h2, rfl, rfl, rfl, h3, rfl⟩ ih
    have b1 := @hi_lt V' (n + k) q q1 h2
    have b2 : 2 ^ (n + k - 8 * q) ≤ 2 ^ 23 := Nat.pow_le_pow_right (by omega) (by omega)
    unfold BitWriter_number_25 BitWriter_number_70
    simp (disch := omega) only [Tt_L, Tt_S, Tt_C, Tt_Z, Tt_R0, Tt_R1, Tt_R2, Tt_R3, Tt_R4, Tt_R5, q10, eq_self, if_true, if_false, i_0, i_1, i_2, i_3, i_4, i_5, i_6, i_7, i_8, i_9, i_10, i_11, i_13, i_14, i_15, i_16, i_17, i_18, i_19, i_24, i_29, i_30, i_31, i_32, i_138, i_143, i_144, i_254, i_255, i_256, i_257, i_258, i_261, i_264, i_265, i_279, i_280, i_284, i_285, i_286, i_288, i_319, i_320, i_338, i_339, i_575, i_576, i_599, i_600, i_4096, i_8191, i_8192, i_8249, i_8250, i_8256, i_9000, i_16384, i_32767, i_32768, i_65520, i_65521, i_65535, i_65536, i_65999, i_66000, i_1300, i_120, i_156, nI_leI, nI_ltI, n_ush, Tt_N, nI_clamp, sx_nar, nI_add, pk_sub]
    split
    · rename_i h0
      have eq : q = (n + k) / 8 := by omega
      subst eq
      exact ⟨rfl, rfl, by rw [show n + k - 8 * ((n + k) / 8) = (n + k) % 8 by omega], q1, h3⟩
    · rename_i h0
      have e3 : V' / 2 ^ (8 * q) / 2 ^ 8 = V' / 2 ^ (8 * (q + 1)) := by rw [Nat.div_div_eq_div_mul, ← Nat.pow_add, show 8 * q + 8 = 8 * (q + 1) by omega]
      rw [e3]
      have e4 : n + k - 8 * q - 8 = n + k - 8 * (q + 1) := by omega
      rw [e4]
      split
      · rename_i h4
        refine ih (n + k - 8 * (q + 1)) _ _ _ _ (by omega) ⟨q + 1, by omega, by omega, ?_, rfl, rfl, ?_, rfl⟩
        · congr 1; omega
        · intro i hi hi2; exact h3 i (by omega) hi2
      · rename_i h4
        have e5 : min q 8256 = q := by omega
        rw [e5]
        refine ⟨by omega, ih (n + k - 8 * (q + 1)) _ _ _ _ (by omega) ⟨q + 1, by omega, by omega, ?_, rfl, rfl, ?_, rfl⟩⟩
        · congr 1; omega
        · intro i hi hi2
          by_cases e : i = q
          · subst e
            rw [pk_us, sx_mod]
            rfl
          · rw [pk_un e]; exact h3 i (by omega) hi2
  · congr 1; omega
  · intro i hi hi2
    rw [hc i hi hi2, ← hV', byt_app (by omega)]
theorem n_left : ∀ a, a < 16 → (-(nI a)) &&& nI 7 = nI ((8 - a % 8) % 8) := by decide +kernel
theorem t_leftBehind {F : Nat} {len op oc x : Int32} {c : Nat → Int32} {n V k : Nat} (h : ClsW len op oc c n V) (hk : k < 8) (hx : x = nI k) : Tt (BitWriter_leftBehind F oc x) (fun u => u.1 = nI ((8 - (n + k) % 8) % 8)) := by
  obtain ⟨_, _, rfl, _, _⟩ := h
  subst hx
  unfold BitWriter_leftBehind
  simp only [Tt_S, i_0, i_1, i_2, i_3, i_4, i_5, i_6, i_7, i_8, i_9, i_10, i_11, i_13, i_14, i_15, i_16, i_17, i_18, i_19, i_24, i_29, i_30, i_31, i_32, i_138, i_143, i_144, i_254, i_255, i_256, i_257, i_258, i_261, i_264, i_265, i_279, i_280, i_284, i_285, i_286, i_288, i_319, i_320, i_338, i_339, i_575, i_576, i_599, i_600, i_4096, i_8191, i_8192, i_8249, i_8250, i_8256, i_9000, i_16384, i_32767, i_32768, i_65520, i_65521, i_65535, i_65536, i_65999, i_66000, i_1300, i_120, i_156, nI_add]
  rw [n_left _ (by omega)]
  congr 1
  omega
theorem t_align {len op oc : Int32} {c : Nat → Int32} {n V : Nat} (h : ClsW len op oc c n V) : Tt (BitWriter_align 200000 len op oc c) (fun u => ClsW u.2.1 u.2.2.1 u.2.2.2.1 u.2.2.2.2 (n + (8 - n % 8) % 8) V) := by
  unfold BitWriter_align
  rw [Tt_R0]
  refine Tt_m (t_leftBehind h (k := 0) (by omega) rfl) ?_
  rintro ⟨r, _⟩ hr
  have hr' : r = nI ((8 - (n + 0) % 8) % 8) := hr
  rw [Tt_R4]
  refine Tt_m (t_number h (v := 0) (k := (8 - n % 8) % 8) (by omega) (Nat.two_pow_pos _) rfl hr') ?_
  intro u hu
  rw [Nat.zero_mul, Nat.add_zero] at hu
  exact hu
theorem t_endByte {bits : Int32} {c : Nat → Int32} {n V : Nat} (h : RefW bits c n V) (hn : n + 8 ≤ 528000) : Tt (M_endByte 200000 bits c) (fun u => RefW u.2.1 u.2.2 (n + (8 - n % 8) % 8) V) := by
  unfold M_endByte
  refine Tt_W2 (fun m bits c => ∃ j, j ≤ (8 - n % 8) % 8 ∧ m = (8 - n % 8) % 8 - j ∧ RefW bits c (n + j) V) ?_ 200000 ((8 - n % 8) % 8) bits c (by omega) ⟨0, by omega, rfl, h⟩
  rintro K m bits c ⟨j, hj, rfl, hR⟩ ih
  have hb := hR.1
  subst hb
  unfold M_endByte_0
  simp (disch := omega) only [Tt_L, Tt_S, Tt_C, Tt_Z, Tt_R0, Tt_R1, Tt_R2, Tt_R3, Tt_R4, Tt_R5, q10, eq_self, if_true, if_false, i_0, i_1, i_2, i_3, i_4, i_5, i_6, i_7, i_8, i_9, i_10, i_11, i_13, i_14, i_15, i_16, i_17, i_18, i_19, i_24, i_29, i_30, i_31, i_32, i_138, i_143, i_144, i_254, i_255, i_256, i_257, i_258, i_261, i_264, i_265, i_279, i_280, i_284, i_285, i_286, i_288, i_319, i_320, i_338, i_339, i_575, i_576, i_599, i_600, i_4096, i_8191, i_8192, i_8249, i_8250, i_8256, i_9000, i_16384, i_32767, i_32768, i_65520, i_65521, i_65535, i_65536, i_65999, i_66000, i_1300, i_120, i_156, pk_rem, nI_eq]
  split
  · rename_i h0
    rw [show n + (8 - n % 8) % 8 = n + j by omega]
    exact hR
  · rename_i h0
    refine Tt_m (t_writeBit hR (b := 0) (by omega) (by omega) rfl) ?_
    rintro ⟨_, b2, c2⟩ hR2
    rw [Nat.zero_mul, Nat.add_zero] at hR2
    exact ih ((8 - n % 8) % 8 - (j + 1)) _ _ (by omega) ⟨j + 1, by omega, rfl, hR2⟩
/-- what is left when program and reference have written the same: the bytes -/
theorem t_same {len op oc bits : Int32} {c d : Nat → Int32} {n V : Nat} (h : ClsW len op oc c n V) (g : RefW bits d n V) : ∀ i, i < n / 8 → i < 8256 → c i = d i := by
  intro i h1 h2
  rw [h.2.2.2.2 i h1 h2, g.2.2 i (by omega)]
/-! codes, turned round -/
def rv (c : Nat) : Nat → Nat
  | 0 => 0
  | i + 1 => 2 * rv c i + c / 2 ^ i % 2
theorem rv_lt (c : Nat) : ∀ i, rv c i < 2 ^ i := by
  intro i
  induction i with
  | zero => exact Nat.one_pos
  | succ i ih =>
    show 2 * rv c i + c / 2 ^ i % 2 < 2 ^ (i + 1)
    rw [Nat.pow_succ]
    omega
/-- the first j bits of a code of l bits, as they are written -/
def rw1 (c l : Nat) : Nat → Nat
  | 0 => 0
  | j + 1 => rw1 c l j + c / 2 ^ (l - 1 - j) % 2 * 2 ^ j
theorem rw1_s (c l : Nat) : ∀ j, j ≤ l → rw1 c (l + 1) (j + 1) = c / 2 ^ l % 2 + 2 * rw1 c l j := by
  intro j
  induction j with
  | zero =>
    intro _
    show 0 + c / 2 ^ (l + 1 - 1 - 0) % 2 * 2 ^ 0 = c / 2 ^ l % 2 + 2 * 0
    rw [show l + 1 - 1 - 0 = l by omega]
    omega
  | succ j ih =>
    intro hj
    show rw1 c (l + 1) (j + 1) + c / 2 ^ (l + 1 - 1 - (j + 1)) % 2 * 2 ^ (j + 1) = c / 2 ^ l % 2 + 2 * (rw1 c l j + c / 2 ^ (l - 1 - j) % 2 * 2 ^ j)
    rw [ih (by omega), show l + 1 - 1 - (j + 1) = l - 1 - j by omega, Nat.pow_succ, Nat.mul_add, ← Nat.mul_assoc, Nat.mul_comm (c / 2 ^ (l - 1 - j) % 2 * 2 ^ j) 2]
    omega
theorem rw1_rv (c : Nat) : ∀ l, rw1 c l l = rv c l := by
  intro l
  induction l with
  | zero => rfl
  | succ l ih =>
    rw [rw1_s c l l (by omega), ih]
    show _ = 2 * rv c l + c / 2 ^ l % 2
    omega
theorem t_turned {x y : Int32} {c l : Nat} (hx : x = nI c) (hy : y = nI l) (hl : l ≤ 15) (hc : c < 2 ^ 31) : Tt (Code_turned 200000 x y) (fun u => u.1 = nI (rv c l)) := by
  subst hx hy
  unfold Code_turned
  refine Tt_W2 (fun m x2 x3 => ∃ j, j ≤ l ∧ x3 = nI j ∧ x2 = nI (rv c j) ∧ m = l - j) ?_ 200000 l 0 0 (by omega) ⟨0, by omega, rfl, rfl, rfl⟩
  rintro K m x2 x3 ⟨j, hj, rfl, rfl, rfl⟩ ih
  have b := rv_lt c j
  have b2 : 2 ^ j ≤ 2 ^ 15 := Nat.pow_le_pow_right (by omega) (by omega)
  unfold Code_turned_4
  simp (disch := omega) only [Tt_L, Tt_S, Tt_C, Tt_Z, Tt_R0, Tt_R1, Tt_R2, Tt_R3, Tt_R4, Tt_R5, q10, eq_self, if_true, if_false, i_0, i_1, i_2, i_3, i_4, i_5, i_6, i_7, i_8, i_9, i_10, i_11, i_13, i_14, i_15, i_16, i_17, i_18, i_19, i_24, i_29, i_30, i_31, i_32, i_138, i_143, i_144, i_254, i_255, i_256, i_257, i_258, i_261, i_264, i_265, i_279, i_280, i_284, i_285, i_286, i_288, i_319, i_320, i_338, i_339, i_575, i_576, i_599, i_600, i_4096, i_8191, i_8192, i_8249, i_8250, i_8256, i_9000, i_16384, i_32767, i_32768, i_65520, i_65521, i_65535, i_65536, i_65999, i_66000, i_1300, i_120, i_156, nI_leI, n_shr, n_shl, n_1, nI_add]
  split
  · rename_i h0
    rw [show l = j by omega]
  · rename_i h0
    have b3 : c / 2 ^ j % 2 < 2 ^ 1 := Nat.mod_lt _ (by omega)
    rw [n_or, Nat.or_comm, ← n_or, n_ord b3]
    refine ih (l - (j + 1)) _ _ (by omega) ⟨j + 1, by omega, rfl, ?_, rfl⟩
    congr 1
    show _ = 2 * rv c j + c / 2 ^ j % 2
    omega
theorem t_writeCode {bits x : Int32} {c of codes : Nat → Int32} {N n V s l cd : Nat} (h : RefW bits c n V) (hn : n + l ≤ 528000) (hl : l ≤ 15) (hx : x = nI s) (hs : s < N) (hN : N ≤ 339) (ho : of s = nI l) (hc : codes s = nI cd) (hcd : cd < 2 ^ 31) : Tt (M_writeCode 200000 N of codes bits c x) (fun u => RefW u.2.1 u.2.2 (n + l) (V + rv cd l * 2 ^ n)) := by
  subst hx
  unfold M_writeCode
  simp (disch := omega) only [Tt_L, Tt_S, Tt_C, Tt_Z, Tt_R0, Tt_R1, Tt_R2, Tt_R3, Tt_R4, Tt_R5, q10, eq_self, if_true, if_false, Tt_N, nI_clamp]
  refine ⟨hs, ?_⟩
  rw [ho]
  refine Tt_W3 (fun m bits c x3 => ∃ j, j ≤ l ∧ x3 = nI (l - j) - 1 ∧ m = l - j ∧ RefW bits c (n + j) (V + rw1 cd l j * 2 ^ n)) ?_ 200000 l bits c _ (by omega) ⟨0, by omega, rfl, rfl, by rw [show rw1 cd l 0 = 0 from rfl, Nat.zero_mul]; exact h⟩
  rintro K m bits c x3 ⟨j, hj, rfl, rfl, hR⟩ ih
  unfold M_writeCode_6
  by_cases e : j = l
  · subst e
    have h0 : nI (j - j) - 1 < 0 := by rw [Nat.sub_self]; decide
    simp only [Tt_C]
    rw [if_pos h0, Tt_S, ← rw1_rv]
    exact hR
  · have e1 : nI (l - j) - 1 = nI (l - j - 1) := pk_sub (by omega)
    rw [e1]
    simp (disch := omega) only [Tt_L, Tt_S, Tt_C, Tt_Z, Tt_R0, Tt_R1, Tt_R2, Tt_R3, Tt_R4, Tt_R5, q10, eq_self, if_true, if_false, i_0, i_1, i_2, i_3, i_4, i_5, i_6, i_7, i_8, i_9, i_10, i_11, i_13, i_14, i_15, i_16, i_17, i_18, i_19, i_24, i_29, i_30, i_31, i_32, i_138, i_143, i_144, i_254, i_255, i_256, i_257, i_258, i_261, i_264, i_265, i_279, i_280, i_284, i_285, i_286, i_288, i_319, i_320, i_338, i_339, i_575, i_576, i_599, i_600, i_4096, i_8191, i_8192, i_8249, i_8250, i_8256, i_9000, i_16384, i_32767, i_32768, i_65520, i_65521, i_65535, i_65536, i_65999, i_66000, i_1300, i_120, i_156, n_neg, if_false, Tt_N, nI_clamp, hc, n_shr, n_1]
    refine ⟨by omega, ?_⟩
    refine Tt_m (t_writeBit hR (by omega) (Nat.mod_lt _ (by omega)) rfl) ?_
    rintro ⟨_, b2, c2⟩ hR2
    refine ih (l - (j + 1)) _ _ _ (by omega) ⟨j + 1, by omega, ?_, rfl, ?_⟩
    · rw [show l - j - 1 = l - (j + 1) by omega]; rfl
    · have e2 : V + rw1 cd l (j + 1) * 2 ^ n = V + rw1 cd l j * 2 ^ n + cd / 2 ^ (l - j - 1) % 2 * 2 ^ (n + j) := by
        show V + (rw1 cd l j + cd / 2 ^ (l - 1 - j) % 2 * 2 ^ j) * 2 ^ n = _
        rw [Nat.add_mul, Nat.mul_assoc, ← Nat.pow_add, Nat.add_comm j n, show l - 1 - j = l - j - 1 by omega]
        omega
      rw [e2]
      exact hR2
theorem t_codeWrite {len op oc x : Int32} {c lens codes : Nat → Int32} {N n V s l v : Nat} (h : ClsW len op oc c n V) (hl : l ≤ 15) (hx : x = nI s) (hs : s < N) (hN : N ≤ 339) (ho : lens s = nI l) (hc : codes s = nI v) (hv : v < 2 ^ l) : Tt (Code_write 200000 N N lens codes len op oc c x) (fun u => ClsW u.2.1 u.2.2.1 u.2.2.2.1 u.2.2.2.2 (n + l) (V + v * 2 ^ n)) := by
  subst hx
  unfold Code_write
  simp (disch := omega) only [Tt_L, Tt_S, Tt_C, Tt_Z, Tt_R0, Tt_R1, Tt_R2, Tt_R3, Tt_R4, Tt_R5, q10, eq_self, if_true, if_false, i_0, i_1, i_2, i_3, i_4, i_5, i_6, i_7, i_8, i_9, i_10, i_11, i_13, i_14, i_15, i_16, i_17, i_18, i_19, i_24, i_29, i_30, i_31, i_32, i_138, i_143, i_144, i_254, i_255, i_256, i_257, i_258, i_261, i_264, i_265, i_279, i_280, i_284, i_285, i_286, i_288, i_319, i_320, i_338, i_339, i_575, i_576, i_599, i_600, i_4096, i_8191, i_8192, i_8249, i_8250, i_8256, i_9000, i_16384, i_32767, i_32768, i_65520, i_65521, i_65535, i_65536, i_65999, i_66000, i_1300, i_120, i_156, n_neg, if_false, nI_leI, Tt_N, nI_clamp, ho, hc]
  rw [if_neg (by omega), if_neg (by omega)]
  refine ⟨hs, hs, ?_⟩
  refine Tt_m (t_number h (by omega) hv rfl rfl) ?_
  intro u hu
  exact hu
