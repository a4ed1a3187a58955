/-! symbols of lengths: program and reference answer alike (by evaluation) -/
theorem t_len : ∀ n : Nat, n < 259 → 3 ≤ n → P_lengthSymbol 200000 (nI n) = M_lengthSymbol 200000 (nI n) := by decide +kernel
