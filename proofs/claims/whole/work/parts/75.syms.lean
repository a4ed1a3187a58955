/-! symbols of lengths and distances, by program and reference -/
def gv (o : Option (Int32 × Unit)) : Nat := match o with
  | none => 0
  | some u => u.1.toNatClampNeg
def lsym (n : Nat) : Nat := gv (M_lengthSymbol 200000 (nI n))
def lex (s : Nat) : Nat := gv (M_lengthBits 200000 (nI s))
def lbase (s : Nat) : Nat := gv (M_lengthBase 200000 (nI s))
def dex (s : Nat) : Nat := gv (M_distanceBits 200000 (nI s))
def dbase (s : Nat) : Nat := gv (M_distanceBase 200000 (nI s))
theorem y_lsymM : ∀ n, n < 259 → M_lengthSymbol 200000 (nI n) = some (nI (lsym n), ()) := by decide +kernel
theorem y_lsymB : ∀ n, n < 259 → 257 ≤ lsym n ∧ lsym n < 286 := by decide +kernel
theorem y_lsymP (n : Nat) (h : n < 259) (h3 : 3 ≤ n) : P_lengthSymbol 200000 (nI n) = some (nI (lsym n), ()) := by rw [t_len n h h3, y_lsymM n h]
theorem y_lex : ∀ s, s < 286 → 257 ≤ s → M_lengthBits 200000 (nI s) = some (nI (lex s), ()) ∧ P_lengthExtra 200000 (nI s) = some (nI (lex s), ()) ∧ lex s ≤ 5 := by decide +kernel
theorem y_lbase : ∀ s, s < 286 → 257 ≤ s → M_lengthBase 200000 (nI s) = some (nI (lbase s), ()) ∧ P_lengthBase 200000 (nI s) = some (nI (lbase s), ()) ∧ 3 ≤ lbase s ∧ lbase s ≤ 258 := by decide +kernel
theorem y_lrest : ∀ n, n < 259 → 3 ≤ n → lbase (lsym n) ≤ n ∧ n - lbase (lsym n) < 2 ^ lex (lsym n) := by decide +kernel
theorem y_dex : ∀ s, s < 30 → M_distanceBits 200000 (nI s) = some (nI (dex s), ()) ∧ P_distanceExtra 200000 (nI s) = some (nI (dex s), ()) ∧ dex s ≤ 13 := by decide +kernel
theorem y_dbase : ∀ s, s < 30 → M_distanceBase 200000 (nI s) = some (nI (dbase s), ()) ∧ P_distanceBase 200000 (nI s) = some (nI (dbase s), ()) ∧ 1 ≤ dbase s ∧ dbase s ≤ 32768 := by decide +kernel
theorem y_dgap : ∀ s, s < 29 → dbase (s + 1) = dbase s + 2 ^ dex s := by decide +kernel
theorem y_dtop : dbase 29 = 24577 ∧ dex 29 = 13 ∧ dbase 0 = 1 := by decide +kernel
theorem y_dmono : ∀ a b, a ≤ b → b < 30 → dbase a ≤ dbase b := by
  apply st_mono
  intro i hi
  rw [y_dgap i (by omega)]
  omega
def dsym (far : Nat) : Nat := sm (fun s => if dbase (s + 1) ≤ far then 1 else 0) 29
theorem sm_pre {f : Nat → Nat} {s : Nat} : ∀ {n : Nat}, s ≤ n → (∀ i, i < s → f i = 1) → (∀ i, s ≤ i → i < n → f i = 0) → sm f n = s := by
  intro n
  induction n with
  | zero => intro h _ _; show 0 = s; omega
  | succ n ih =>
    intro h h1 h2
    show sm f n + f n = s
    by_cases e : s = n + 1
    · have : ∀ k, k ≤ n + 1 → sm f k = k := by
        intro k
        induction k with
        | zero => intro _; rfl
        | succ k ik =>
          intro hk
          show sm f k + f k = k + 1
          rw [ik (by omega), h1 k (by omega)]
      rw [this n (by omega), h1 n (by omega), e]
    · rw [ih (by omega) h1 (fun i a b => h2 i a (by omega)), h2 n (by omega) (by omega)]
theorem dsym_c {far s : Nat} (hs : s ≤ 29) (h1 : s = 0 ∨ dbase s ≤ far) (h2 : s = 29 ∨ far < dbase (s + 1)) : dsym far = s := by
  apply sm_pre hs
  · intro i hi
    apply if_pos
    have := y_dmono (i + 1) s (by omega) (by omega)
    omega
  · intro i h3 h4
    apply if_neg
    have := y_dmono (s + 1) (i + 1) (by omega) (by omega)
    omega
theorem t_dsymM {far : Nat} {x : Int32} (hf : far < 2 ^ 30) (hx : x = nI far) : Tt (M_distanceSymbol 200000 x) (fun u => u.1 = nI (dsym far)) := by
  subst hx
  unfold M_distanceSymbol
  refine Tt_W1 (fun m x1 => ∃ s, s ≤ 29 ∧ x1 = nI s ∧ m = 29 - s ∧ (s = 0 ∨ dbase s ≤ far)) ?_ 200000 29 0 (by omega) ⟨0, by omega, rfl, rfl, Or.inl rfl⟩
  rintro K m x1 ⟨s, hs, rfl, rfl, h1⟩ ih
  unfold M_distanceSymbol_2
  simp (disch := omega) only [Tt_L, Tt_S, Tt_C, Tt_Z, Tt_R0, Tt_R1, Tt_R2, Tt_R3, Tt_R4, Tt_R5, q10, eq_self, if_true, if_false, i_0, i_1, i_2, i_3, i_4, i_5, i_6, i_7, i_8, i_9, i_10, i_11, i_13, i_14, i_15, i_16, i_17, i_18, i_19, i_24, i_29, i_30, i_31, i_32, i_138, i_143, i_144, i_254, i_255, i_256, i_257, i_258, i_261, i_264, i_265, i_279, i_280, i_284, i_285, i_286, i_288, i_319, i_320, i_338, i_339, i_575, i_576, i_599, i_600, i_4096, i_8191, i_8192, i_8249, i_8250, i_8256, i_9000, i_16384, i_32767, i_32768, i_65520, i_65521, i_65535, i_65536, i_65999, i_66000, i_1300, i_120, i_156, nI_leI, nI_add]
  split
  · rename_i h0
    rw [dsym_c hs h1 (Or.inl (by omega))]
  · rename_i h0
    have yb := y_dbase (s + 1) (by omega)
    refine Tt_o yb.1 ?_
    simp (disch := omega) only [nI_ltI]
    split
    · rename_i h2
      rw [dsym_c hs h1 (Or.inr h2)]
    · rename_i h2
      exact ih (29 - (s + 1)) _ (by omega) ⟨s + 1, by omega, rfl, rfl, Or.inr (by omega)⟩
theorem y_dval : dbase 0 = 1 ∧ dbase 1 = 2 ∧ dbase 2 = 3 ∧ dbase 3 = 4 ∧ dbase 4 = 5 ∧ dbase 5 = 7 ∧ dbase 6 = 9 ∧ dbase 7 = 13 ∧ dbase 8 = 17 ∧ dbase 9 = 25 ∧ dbase 10 = 33 ∧ dbase 11 = 49 ∧ dbase 12 = 65 ∧ dbase 13 = 97 ∧ dbase 14 = 129 ∧ dbase 15 = 193 ∧ dbase 16 = 257 ∧ dbase 17 = 385 ∧ dbase 18 = 513 ∧ dbase 19 = 769 ∧ dbase 20 = 1025 ∧ dbase 21 = 1537 ∧ dbase 22 = 2049 ∧ dbase 23 = 3073 ∧ dbase 24 = 4097 ∧ dbase 25 = 6145 ∧ dbase 26 = 8193 ∧ dbase 27 = 12289 ∧ dbase 28 = 16385 ∧ dbase 29 = 24577 := by decide +kernel
theorem dsym_e {rest e : Nat} (he : e ≤ 13) (h1 : e = 0 ∨ 3 < rest / 2 ^ (e - 1)) (h2 : rest / 2 ^ e ≤ 3) : dsym (rest + 1) = 2 * e + rest / 2 ^ e := by
  obtain ⟨v0, v1, v2, v3, v4, v5, v6, v7, v8, v9, v10, v11, v12, v13, v14, v15, v16, v17, v18, v19, v20, v21, v22, v23, v24, v25, v26, v27, v28, v29⟩ := y_dval
  have key : ∀ r, rest / 2 ^ e = r → r ≤ 3 → (e = 0 ∨ 2 ≤ r) → (2 * e + r = 0 ∨ dbase (2 * e + r) ≤ rest + 1) ∧ (2 * e + r = 29 ∨ rest + 1 < dbase (2 * e + r + 1)) := by
    intro r hr hr3 hr2
    have hc : r = 0 ∨ r = 1 ∨ r = 2 ∨ r = 3 := by omega
    have ec : e = 0 ∨ e = 1 ∨ e = 2 ∨ e = 3 ∨ e = 4 ∨ e = 5 ∨ e = 6 ∨ e = 7 ∨ e = 8 ∨ e = 9 ∨ e = 10 ∨ e = 11 ∨ e = 12 ∨ e = 13 := by omega
    rcases ec with rfl | rfl | rfl | rfl | rfl | rfl | rfl | rfl | rfl | rfl | rfl | rfl | rfl | rfl <;> rcases hc with rfl | rfl | rfl | rfl <;> simp only [Nat.reduceMul, Nat.reduceAdd, Nat.reducePow] at hr ⊢ <;> omega
  have h3 : e = 0 ∨ 2 ≤ rest / 2 ^ e := by
    rcases Nat.eq_zero_or_pos e with z | z
    · exact Or.inl z
    · right
      have e1 : 2 ^ e = 2 ^ (e - 1) * 2 := by rw [← Nat.pow_succ, show e - 1 + 1 = e by omega]
      rw [e1, ← Nat.div_div_eq_div_mul]
      omega
  have k := key _ rfl h2 h3
  exact dsym_c (by omega) k.1 k.2
theorem t_dsymP {far : Nat} {x : Int32} (h0 : 1 ≤ far) (hf : far ≤ 32768) (hx : x = nI far) : Tt (P_distanceSymbol 200000 x) (fun u => u.1 = nI (dsym far)) := by
  subst hx
  unfold P_distanceSymbol
  have e0 : nI far - 1 = nI (far - 1) := pk_sub h0
  simp only [Tt_L, e0]
  refine Tt_W2 (fun m x1 x2 => ∃ e, e ≤ 13 ∧ x1 = nI (far - 1) ∧ x2 = nI e ∧ m = 13 - e ∧ (e = 0 ∨ 3 < (far - 1) / 2 ^ (e - 1))) ?_ 200000 13 _ _ (by omega) ⟨0, by omega, rfl, rfl, rfl, Or.inl rfl⟩
  rintro K m x1 x2 ⟨e, he, rfl, rfl, rfl, h1⟩ ih
  have l1 : (far - 1) / 2 ^ e ≤ far - 1 := Nat.div_le_self _ _
  unfold P_distanceSymbol_6 P_distanceSymbol_25
  simp (disch := omega) only [Tt_L, Tt_S, Tt_C, Tt_Z, Tt_R0, Tt_R1, Tt_R2, Tt_R3, Tt_R4, Tt_R5, q10, eq_self, if_true, if_false, i_0, i_1, i_2, i_3, i_4, i_5, i_6, i_7, i_8, i_9, i_10, i_11, i_13, i_14, i_15, i_16, i_17, i_18, i_19, i_24, i_29, i_30, i_31, i_32, i_138, i_143, i_144, i_254, i_255, i_256, i_257, i_258, i_261, i_264, i_265, i_279, i_280, i_284, i_285, i_286, i_288, i_319, i_320, i_338, i_339, i_575, i_576, i_599, i_600, i_4096, i_8191, i_8192, i_8249, i_8250, i_8256, i_9000, i_16384, i_32767, i_32768, i_65520, i_65521, i_65535, i_65536, i_65999, i_66000, i_1300, i_120, i_156, nI_leI, nI_add, n_shr, pk_mul]
  have fin : (far - 1) / 2 ^ e ≤ 3 → nI (2 * e + (far - 1) / 2 ^ e) = nI (dsym far) := by
    intro h
    have := dsym_e he h1 h
    rw [show far - 1 + 1 = far by omega] at this
    rw [this]
  split
  · rename_i h2
    apply fin
    rw [show e = 13 by omega]
    omega
  · split
    · rename_i h3
      exact fin h3
    · rename_i h2 h3
      exact ih (13 - (e + 1)) _ _ (by omega) ⟨e + 1, by omega, rfl, rfl, rfl, Or.inr (by rw [Nat.add_sub_cancel]; omega)⟩
theorem y_drest {far : Nat} (h0 : 1 ≤ far) (hf : far ≤ 32768) : dsym far < 30 ∧ dbase (dsym far) ≤ far ∧ far - dbase (dsym far) < 2 ^ dex (dsym far) := by
  have hx : ∃ s, s ≤ 29 ∧ dbase s ≤ far ∧ (s = 29 ∨ far < dbase (s + 1)) := by
    have : ∀ k, k ≤ 29 → (∃ s, s ≤ 29 ∧ dbase s ≤ far ∧ (s = 29 ∨ far < dbase (s + 1))) ∨ dbase k ≤ far := by
      intro k
      induction k with
      | zero => intro _; right; rw [y_dtop.2.2]; exact h0
      | succ k ih =>
        intro hk
        rcases ih (by omega) with h | h
        · exact Or.inl h
        · by_cases z : dbase (k + 1) ≤ far
          · exact Or.inr z
          · exact Or.inl ⟨k, by omega, h, Or.inr (by omega)⟩
    rcases this 29 (by omega) with h | h
    · exact h
    · exact ⟨29, by omega, h, Or.inl rfl⟩
  obtain ⟨s, hs, h1, h2⟩ := hx
  rw [dsym_c hs (Or.inr h1) h2]
  refine ⟨by omega, h1, ?_⟩
  rcases h2 with rfl | h2
  · rw [y_dtop.2.1]; have := y_dtop.1; omega
  · by_cases z : s = 29
    · subst z; rw [y_dtop.2.1]; have := y_dtop.1; omega
    · rw [y_dgap s (by omega)] at h2; omega
