/-! parts read: symbols followed and bytes copied, program and reference -/
theorem Tt_p {β : Type} {c : Prop} [Decidable c] {a b : Option β} {Q : β → Prop} (h : c) (k : Tt a Q) : Tt (mC c a b) Q := Tt_C.2 (by rw [if_pos h]; exact k)
theorem Tt_n {β : Type} {c : Prop} [Decidable c] {a b : Option β} {Q : β → Prop} (h : ¬ c) (k : Tt b Q) : Tt (mC c a b) Q := Tt_C.2 (by rw [if_neg h]; exact k)
theorem Tt_z {β : Type} {x : Int32} {k : Option β} {Q : β → Prop} (h : x = nI 0 ∨ x = nI 1) (q : Tt k Q) : Tt (mZ x k) Q := Tt_Z.2 ⟨h, q⟩
theorem Tt_l {α β : Type} {x : α} {k : α → Option β} {Q : β → Prop} (q : Tt (k x) Q) : Tt (mL x k) Q := by rw [Tt_L]; exact q
theorem Tt_g {β : Type} {n N : Nat} {k : Option β} {Q : β → Prop} (h : n < N) (hN : N < 2 ^ 31) (q : Tt k Q) : Tt (mG (nI n) N k) Q := (Tt_N (by omega)).2 ⟨h, q⟩
theorem m1_ne {x : Nat} (h : x < 2 ^ 31) : ¬ ((-1 : Int32) = nI x) := by
  intro e
  have q := nI_pos h
  rw [← e] at q
  exact q (by decide)
def Src (c : Nat → Int32) (len : Nat) (bi : Nat → Nat) (a M : Nat) : Prop := Row c 0 len bi ∧ len ≤ 66000 ∧ M ≤ 8 * (len - a) ∧ a ≤ len
def LenOK (fS fD : Nat → Nat) : Prop := (∀ i, i < 288 → fS i ≤ 15) ∧ (∀ i, i < 32 → fD i ≤ 15) ∧ krs fS 288 15 ≤ 32768 ∧ krs fD 32 15 ≤ 32768
def PC (a L0 : Nat) (d0 : Nat → Int32) (R : RdR) (r va vo : Int32) (d : Nat → Int32) : Prop := match R with
  | none => r = nI 0 ∧ ∃ m', m' ≤ 8192 ∧ vo = nI (L0 + m')
  | some (p', m', o') => r = nI 1 ∧ va = nI (8 * a + p') ∧ OutC vo d L0 m' o' d0
def PM (M : Nat) (R : RdR) (vr vw vm : Int32) (t : Nat → Int32) : Prop := match R with
  | none => vw = nI 1 ∧ ∃ p', p' ≤ M ∧ vr = nI p'
  | some (p', m', o') => vw = nI 0 ∧ vr = nI p' ∧ OutM vm t m' o'
def RdB (M : Nat) (R : RdR) : Prop := ∀ p' m' o', R = some (p', m', o') → p' ≤ M ∧ m' ≤ 8192 ∧ ∀ i, o' i < 256
theorem RdB_0 {M : Nat} : RdB M none := fun _ _ _ q => by cases q
theorem RdB_s {M p m : Nat} {o : Nat → Nat} (h1 : p ≤ M) (h2 : m ≤ 8192) (h3 : ∀ i, o i < 256) : RdB M (some (p, m, o)) := by
  intro p' m' o' q
  cases q
  exact ⟨h1, h2, h3⟩
theorem rep_m {fD : Nat → Nat} {nD : Nat} {src : Nat → Nat} {M win p1 m s p' m' : Nat} {o o' : Nat → Nat} (hs1 : 257 ≤ s) (hs2 : s ≤ 285) (h : rep fD nD src M win p1 m o s = some (p', m', o')) : m + 3 ≤ m' := by
  have yb := (y_lbase s (by omega) hs1).2.2.1
  unfold rep at h
  by_cases z : M < p1 + lex s
  · rw [if_pos z] at h; cases h
  · rw [if_neg z] at h
    cases h2 : dcd fD nD src M (p1 + lex s) with
    | none => rw [h2] at h; cases h
    | some q =>
      obtain ⟨d, p2⟩ := q
      rw [h2] at h
      dsimp only at h
      by_cases y : 29 < d ∨ M < p2 + dex d
      · rw [if_pos y] at h; cases h
      · rw [if_neg y] at h
        by_cases w : m < dbase d + num src p2 (dex d) ∨ win < dbase d + num src p2 (dex d) ∨ 8192 < m + (lbase s + num src p1 (lex s))
        · rw [if_pos w] at h; cases h
        · rw [if_neg w] at h
          have e := Option.some.inj h
          have e2 := congrArg (fun z => z.2.1) e
          dsimp only at e2
          omega
theorem flw_b {fS : Nat → Nat} {nS : Nat} {fD : Nat → Nat} {nD : Nat} {src : Nat → Nat} {M win : Nat} : ∀ k p m o, (∀ i, o i < 256) → p ≤ M → m ≤ 8192 → RdB M (flw fS nS fD nD src M win k p m o) := by
  intro k
  induction k with
  | zero => intro p m o _ _ _; exact RdB_0
  | succ k ih =>
    intro p m o ho hp hm
    unfold flw
    cases h : dcd fS nS src M p with
    | none => exact RdB_0
    | some q =>
      obtain ⟨s, p1⟩ := q
      have b1 := dcd_b h
      dsimp only
      by_cases z1 : s = 256
      · rw [if_pos z1]; exact RdB_s b1.2.2.1 hm ho
      · rw [if_neg z1]
        by_cases z2 : 285 < s ∨ 8192 ≤ m
        · rw [if_pos z2]; exact RdB_0
        · rw [if_neg z2]
          by_cases z3 : s < 256
          · rw [if_pos z3]
            exact ih p1 _ _ (push_b ho z3) b1.2.2.1 (by omega)
          · rw [if_neg z3]
            cases h4 : rep fD nD src M win p1 m o s with
            | none => exact RdB_0
            | some q2 =>
              obtain ⟨p', m', o'⟩ := q2
              have b2 := rep_b ho h4
              exact ih p' _ _ b2.2.2.2.2 b2.2.1 b2.2.2.2.1
/-! the program follows symbols -/
theorem t_followC {c cS yS cD yD d d0 : Nat → Int32} {bi fS fD o : Nat → Nat} {len a M p L0 m win : Nat} {R : RdR} {vs vf ve vl va vo : Int32} (hs : Src c len bi a M) (hp : p ≤ M) (hF : LenOK fS fD) (hS : TabOK cS yS fS 288) (hD : TabOK cD yD fD 32) (hO : OutC vo d L0 m o d0) (ho : ∀ i, o i < 256) (hL : L0 + 8192 ≤ 65536) (hm : m ≤ 8192) (hw : win ≤ 32768) (e1 : vs = nI L0) (e2 : vf = nI win) (e3 : ve = nI (8 * a + M)) (e4 : vl = nI len) (e5 : va = nI (8 * a + p)) (hR : flw fS 288 fD 32 (sB bi a) M win 8193 p m o = R) : Tt (Unpacker_followSymbols 200000 66000 288 65536 32 vs vf ve vl c cS yS cD yD va vo d) (fun u => PC a L0 d0 R u.1 u.2.1 u.2.2.1 u.2.2.2) := by
  subst e1 e2 e3 e4 e5
  obtain ⟨h, hlen, hM, ha⟩ := hs
  obtain ⟨f1, f2, f3, f4⟩ := hF
  unfold Unpacker_followSymbols
  refine Tt_W4 (fun mm va vo d x3 => ∃ p m o i k, va = nI (8 * a + p) ∧ p ≤ M ∧ OutC vo d L0 m o d0 ∧ (∀ j, o j < 256) ∧ m ≤ 8192 ∧ x3 = nI i ∧ i ≤ m ∧ 8192 - m < k ∧ mm = 8192 - m ∧ flw fS 288 fD 32 (sB bi a) M win k p m o = R) ?_ 200000 (8192 - m) _ _ _ _ (by omega) ⟨p, m, o, 0, 8193, rfl, hp, hO, ho, hm, rfl, by omega, by omega, rfl, hR⟩
  rintro K mm va vo d x3 ⟨p, m, o, i, k, rfl, hp, hO, ho, hm, rfl, him, hk, rfl, hR⟩ ih
  obtain ⟨j, rfl⟩ : ∃ j, k = j + 1 := ⟨k - 1, by omega⟩
  have hvo := hO.1
  have em : Unpacker_made 200000 (nI L0) vo = some (nI m, ()) := by
    unfold Unpacker_made Bytes_length
    show some (vo - nI L0, ()) = _
    rw [hvo, pk_sub (by omega), show L0 + m - L0 = m by omega]
  unfold Unpacker_followSymbols_2
  refine Tt_n (by first | decide | (simp (disch := omega) only [i_0, i_1, i_2, i_3, i_4, i_5, i_6, i_7, i_8, i_9, i_10, i_11, i_13, i_14, i_15, i_16, i_17, i_18, i_19, i_24, i_29, i_30, i_31, i_32, i_138, i_143, i_144, i_254, i_255, i_256, i_257, i_258, i_261, i_264, i_265, i_279, i_280, i_284, i_285, i_286, i_288, i_319, i_320, i_338, i_339, i_575, i_576, i_599, i_600, i_4096, i_8191, i_8192, i_8249, i_8250, i_8256, i_9000, i_16384, i_32767, i_32768, i_65520, i_65521, i_65535, i_65536, i_65999, i_66000, i_1300, i_120, i_156, nI_leI, nI_ltI, nI_eq, nI_add, n_neg, not_false_eq_true, not_true_eq_false] <;> omega)) (Tt_R1.2 (Tt_m (t_symC h hlen hM ha hp (Nat.le_refl 288) (by omega) f1 hS f3 rfl rfl rfl) ?_))
  rintro ⟨r2, va2⟩ ⟨g1, g2⟩
  dsimp only at g1 g2 ⊢
  unfold flw at hR
  cases hd : dcd fS 288 (sB bi a) M p with
  | none =>
    obtain ⟨p', q1, q2, q3⟩ := g2 hd
    obtain ⟨rfl, rfl⟩ : r2 = -1 ∧ va2 = nI (8 * a + p') := ⟨congrArg Prod.fst q3, congrArg Prod.snd q3⟩
    rw [hd] at hR
    dsimp only at hR
    subst hR
    exact Tt_n (by decide) (Tt_p (by decide) (Tt_Si ⟨rfl, m, hm, hvo⟩))
  | some q =>
    obtain ⟨s, p1⟩ := q
    have q3 := g1 s p1 hd
    obtain ⟨rfl, rfl⟩ : r2 = nI s ∧ va2 = nI (8 * a + p1) := ⟨congrArg Prod.fst q3, congrArg Prod.snd q3⟩
    have db := dcd_b hd
    rw [hd] at hR
    dsimp only at hR
    by_cases z1 : s = 256
    · subst z1
      rw [if_pos rfl] at hR
      subst hR
      exact Tt_p rfl (Tt_Si ⟨rfl, rfl, hO⟩)
    · rw [if_neg z1] at hR
      refine Tt_n (by first | decide | (simp (disch := omega) only [i_0, i_1, i_2, i_3, i_4, i_5, i_6, i_7, i_8, i_9, i_10, i_11, i_13, i_14, i_15, i_16, i_17, i_18, i_19, i_24, i_29, i_30, i_31, i_32, i_138, i_143, i_144, i_254, i_255, i_256, i_257, i_258, i_261, i_264, i_265, i_279, i_280, i_284, i_285, i_286, i_288, i_319, i_320, i_338, i_339, i_575, i_576, i_599, i_600, i_4096, i_8191, i_8192, i_8249, i_8250, i_8256, i_9000, i_16384, i_32767, i_32768, i_65520, i_65521, i_65535, i_65536, i_65999, i_66000, i_1300, i_120, i_156, nI_leI, nI_ltI, nI_eq, nI_add, n_neg, not_false_eq_true, not_true_eq_false] <;> omega)) (Tt_n (by first | decide | (simp (disch := omega) only [i_0, i_1, i_2, i_3, i_4, i_5, i_6, i_7, i_8, i_9, i_10, i_11, i_13, i_14, i_15, i_16, i_17, i_18, i_19, i_24, i_29, i_30, i_31, i_32, i_138, i_143, i_144, i_254, i_255, i_256, i_257, i_258, i_261, i_264, i_265, i_279, i_280, i_284, i_285, i_286, i_288, i_319, i_320, i_338, i_339, i_575, i_576, i_599, i_600, i_4096, i_8191, i_8192, i_8249, i_8250, i_8256, i_9000, i_16384, i_32767, i_32768, i_65520, i_65521, i_65535, i_65536, i_65999, i_66000, i_1300, i_120, i_156, nI_leI, nI_ltI, nI_eq, nI_add, n_neg, not_false_eq_true, not_true_eq_false] <;> omega)) ?_)
      by_cases z2 : 285 < s
      · rw [if_pos (Or.inl z2)] at hR
        subst hR
        exact Tt_p (by first | decide | (simp (disch := omega) only [i_0, i_1, i_2, i_3, i_4, i_5, i_6, i_7, i_8, i_9, i_10, i_11, i_13, i_14, i_15, i_16, i_17, i_18, i_19, i_24, i_29, i_30, i_31, i_32, i_138, i_143, i_144, i_254, i_255, i_256, i_257, i_258, i_261, i_264, i_265, i_279, i_280, i_284, i_285, i_286, i_288, i_319, i_320, i_338, i_339, i_575, i_576, i_599, i_600, i_4096, i_8191, i_8192, i_8249, i_8250, i_8256, i_9000, i_16384, i_32767, i_32768, i_65520, i_65521, i_65535, i_65536, i_65999, i_66000, i_1300, i_120, i_156, nI_leI, nI_ltI, nI_eq, nI_add, n_neg, not_false_eq_true, not_true_eq_false] <;> omega)) (Tt_Si ⟨rfl, m, hm, hvo⟩)
      · refine Tt_n (by first | decide | (simp (disch := omega) only [i_0, i_1, i_2, i_3, i_4, i_5, i_6, i_7, i_8, i_9, i_10, i_11, i_13, i_14, i_15, i_16, i_17, i_18, i_19, i_24, i_29, i_30, i_31, i_32, i_138, i_143, i_144, i_254, i_255, i_256, i_257, i_258, i_261, i_264, i_265, i_279, i_280, i_284, i_285, i_286, i_288, i_319, i_320, i_338, i_339, i_575, i_576, i_599, i_600, i_4096, i_8191, i_8192, i_8249, i_8250, i_8256, i_9000, i_16384, i_32767, i_32768, i_65520, i_65521, i_65535, i_65536, i_65999, i_66000, i_1300, i_120, i_156, nI_leI, nI_ltI, nI_eq, nI_add, n_neg, not_false_eq_true, not_true_eq_false] <;> omega)) (Tt_R0.2 (Tt_o em ?_))
        dsimp only
        by_cases z4 : 8192 ≤ m
        · rw [if_pos (Or.inr z4)] at hR
          subst hR
          exact Tt_n (by first | decide | (simp (disch := omega) only [i_0, i_1, i_2, i_3, i_4, i_5, i_6, i_7, i_8, i_9, i_10, i_11, i_13, i_14, i_15, i_16, i_17, i_18, i_19, i_24, i_29, i_30, i_31, i_32, i_138, i_143, i_144, i_254, i_255, i_256, i_257, i_258, i_261, i_264, i_265, i_279, i_280, i_284, i_285, i_286, i_288, i_319, i_320, i_338, i_339, i_575, i_576, i_599, i_600, i_4096, i_8191, i_8192, i_8249, i_8250, i_8256, i_9000, i_16384, i_32767, i_32768, i_65520, i_65521, i_65535, i_65536, i_65999, i_66000, i_1300, i_120, i_156, nI_leI, nI_ltI, nI_eq, nI_add, n_neg, not_false_eq_true, not_true_eq_false] <;> omega)) (Tt_Si ⟨rfl, m, hm, hvo⟩)
        · rw [if_neg (by omega)] at hR
          refine Tt_p (by first | decide | (simp (disch := omega) only [i_0, i_1, i_2, i_3, i_4, i_5, i_6, i_7, i_8, i_9, i_10, i_11, i_13, i_14, i_15, i_16, i_17, i_18, i_19, i_24, i_29, i_30, i_31, i_32, i_138, i_143, i_144, i_254, i_255, i_256, i_257, i_258, i_261, i_264, i_265, i_279, i_280, i_284, i_285, i_286, i_288, i_319, i_320, i_338, i_339, i_575, i_576, i_599, i_600, i_4096, i_8191, i_8192, i_8249, i_8250, i_8256, i_9000, i_16384, i_32767, i_32768, i_65520, i_65521, i_65535, i_65536, i_65999, i_66000, i_1300, i_120, i_156, nI_leI, nI_ltI, nI_eq, nI_add, n_neg, not_false_eq_true, not_true_eq_false] <;> omega)) ?_
          by_cases z3 : s < 256
          · rw [if_pos z3] at hR
            refine Tt_n (by first | decide | (simp (disch := omega) only [i_0, i_1, i_2, i_3, i_4, i_5, i_6, i_7, i_8, i_9, i_10, i_11, i_13, i_14, i_15, i_16, i_17, i_18, i_19, i_24, i_29, i_30, i_31, i_32, i_138, i_143, i_144, i_254, i_255, i_256, i_257, i_258, i_261, i_264, i_265, i_279, i_280, i_284, i_285, i_286, i_288, i_319, i_320, i_338, i_339, i_575, i_576, i_599, i_600, i_4096, i_8191, i_8192, i_8249, i_8250, i_8256, i_9000, i_16384, i_32767, i_32768, i_65520, i_65521, i_65535, i_65536, i_65999, i_66000, i_1300, i_120, i_156, nI_leI, nI_ltI, nI_eq, nI_add, n_neg, not_false_eq_true, not_true_eq_false] <;> omega)) (Tt_R2.2 (Tt_m (t_addC hO (by omega) z3 rfl) ?_))
            rintro ⟨_, vo2, d2⟩ hO2
            unfold Unpacker_followSymbols_85
            refine Tt_l ?_
            rw [nI_1]
            exact ih (8192 - (m + 1)) _ _ _ _ (by omega) ⟨p1, m + 1, _, i + 1, j, rfl, by omega, hO2, push_b ho z3, by omega, rfl, by omega, by omega, rfl, hR⟩
          · rw [if_neg z3] at hR
            refine Tt_p (by first | decide | (simp (disch := omega) only [i_0, i_1, i_2, i_3, i_4, i_5, i_6, i_7, i_8, i_9, i_10, i_11, i_13, i_14, i_15, i_16, i_17, i_18, i_19, i_24, i_29, i_30, i_31, i_32, i_138, i_143, i_144, i_254, i_255, i_256, i_257, i_258, i_261, i_264, i_265, i_279, i_280, i_284, i_285, i_286, i_288, i_319, i_320, i_338, i_339, i_575, i_576, i_599, i_600, i_4096, i_8191, i_8192, i_8249, i_8250, i_8256, i_9000, i_16384, i_32767, i_32768, i_65520, i_65521, i_65535, i_65536, i_65999, i_66000, i_1300, i_120, i_156, nI_leI, nI_ltI, nI_eq, nI_add, n_neg, not_false_eq_true, not_true_eq_false] <;> omega)) (Tt_R3.2 (Tt_m (t_repeatC h hlen hM ha (p1 := p1) (by omega) (Nat.le_refl 32) (by omega) f2 hD f4 hO ho hL hm hw (by omega) (by omega) rfl rfl rfl rfl rfl rfl) ?_))
            rintro ⟨r8, va5, vo6, d7⟩ ⟨g3, g4⟩
            dsimp only at g3 g4 ⊢
            cases h4 : rep fD 32 (sB bi a) M win p1 m o s with
            | none =>
              obtain ⟨rfl, e2⟩ := g4 h4
              rw [h4] at hR
              dsimp only at hR
              subst hR
              exact Tt_p rfl (Tt_Si ⟨rfl, m, hm, by rw [e2]; exact hvo⟩)
            | some q2 =>
              obtain ⟨p', m', o'⟩ := q2
              obtain ⟨rfl, rfl, hO2⟩ := g3 _ _ _ h4
              rw [h4] at hR
              dsimp only at hR
              have rb := rep_b ho h4
              have rm := rep_m (by omega) (by omega) h4
              refine Tt_n (by decide) ?_
              unfold Unpacker_followSymbols_85
              refine Tt_l ?_
              rw [nI_1]
              exact ih (8192 - m') _ _ _ _ (by omega) ⟨p', m', o', i + 1, j, rfl, rb.2.1, hO2, rb.2.2.2.2, rb.2.2.2.1, rfl, by omega, by omega, rfl, hR⟩
/-! bytes as they are -/
def al8 (p : Nat) : Nat := 8 * ((p + 7) / 8)
theorem al8_b {p M : Nat} (hp : p ≤ M) (h8 : M % 8 = 0) : p ≤ al8 p ∧ al8 p ≤ M := by
  unfold al8
  omega
theorem and_m8 {n : Nat} (h : n < 2 ^ 31) : nI n &&& (-8) = nI (8 * (n / 8)) := by
  have e : (-8 : Int32) = nI (2 ^ 32 - 8) := by decide
  rw [e, n_and]
  refine congrArg nI (Nat.eq_of_testBit_eq fun i => ?_)
  rw [Nat.testBit_and, show (2 ^ 32 - 8 : Nat) = 2 ^ 3 * (2 ^ 29 - 1) from rfl, show 8 * (n / 8) = 2 ^ 3 * (n / 2 ^ 3) from rfl, Nat.testBit_two_pow_mul, Nat.testBit_two_pow_mul, Nat.testBit_two_pow_sub_one, Nat.testBit_div_two_pow]
  by_cases z : 3 ≤ i
  · rw [show i - 3 + 3 = i by omega]
    by_cases y : i < 32
    · simp [z, show i - 3 < 29 by omega]
    · have : n.testBit i = false := Nat.testBit_lt_two_pow (Nat.lt_of_lt_of_le h (Nat.pow_le_pow_right (by omega) (by omega)))
      simp [this]
  · simp [z]
theorem t_alignC {p a : Nat} {va : Int32} (h : 8 * a + p < 2000000) (e : va = nI (8 * a + p)) : BitReader_align 200000 va = some ((), nI (8 * a + al8 p)) := by
  subst e
  unfold BitReader_align al8
  show some ((), (nI (8 * a + p) + nI 7) &&& (-8)) = _
  rw [nI_add, and_m8 (by omega), show 8 * ((8 * a + p + 7) / 8) = 8 * a + 8 * ((p + 7) / 8) by omega]
def stB (o : Nat → Nat) (m : Nat) (src : Nat → Nat) (q : Nat) : Nat → Nat → Nat
  | 0 => o
  | k + 1 => push (stB o m src q k) (m + k) (num src (q + 8 * k) 8)
theorem stB_b {o : Nat → Nat} {m : Nat} {src : Nat → Nat} {q : Nat} (hs : ∀ i, src i < 2) (h : ∀ i, o i < 256) : ∀ k i, stB o m src q k i < 256 := by
  intro k
  induction k with
  | zero => exact h
  | succ k ih => exact push_b ih (num_lt hs _ 8)
def stv (src : Nat → Nat) (M p m : Nat) (o : Nat → Nat) : RdR := if M < al8 p + 32 then none else if ¬ num src (al8 p + 16) 16 = 65535 - num src (al8 p) 16 then none else if 8192 < m + num src (al8 p) 16 ∨ M < al8 p + 32 + 8 * num src (al8 p) 16 then none else some (al8 p + 32 + 8 * num src (al8 p) 16, m + num src (al8 p) 16, stB o m src (al8 p + 32) (num src (al8 p) 16))
theorem stv_b {src : Nat → Nat} {M p m : Nat} {o : Nat → Nat} (hs : ∀ i, src i < 2) (ho : ∀ i, o i < 256) : RdB M (stv src M p m o) := by
  unfold stv
  by_cases z : M < al8 p + 32
  · rw [if_pos z]; exact RdB_0
  · rw [if_neg z]
    by_cases y : ¬ num src (al8 p + 16) 16 = 65535 - num src (al8 p) 16
    · rw [if_pos y]; exact RdB_0
    · rw [if_neg y]
      by_cases w : 8192 < m + num src (al8 p) 16 ∨ M < al8 p + 32 + 8 * num src (al8 p) 16
      · rw [if_pos w]; exact RdB_0
      · rw [if_neg w]
        exact RdB_s (by omega) (by omega) (stB_b hs ho _)
theorem t_copyC {c d d0 : Nat → Int32} {bi o : Nat → Nat} {len a M p L0 m : Nat} {R : RdR} {vs ve vl va vo : Int32} (hs : Src c len bi a M) (hp : p ≤ M) (h8 : M % 8 = 0) (hO : OutC vo d L0 m o d0) (hL : L0 + 8192 ≤ 65536) (hm : m ≤ 8192) (e1 : vs = nI L0) (e3 : ve = nI (8 * a + M)) (e4 : vl = nI len) (e5 : va = nI (8 * a + p)) (hR : stv (sB bi a) M p m o = R) : Tt (Unpacker_copyStored 200000 66000 65536 vs ve vl c va vo d) (fun u => PC a L0 d0 R u.1 u.2.1 u.2.2.1 u.2.2.2) := by
  subst e1 e3 e4 e5
  obtain ⟨h, hlen, hM, ha⟩ := hs
  have hq := al8_b hp h8
  have hvo := hO.1
  have em : Unpacker_made 200000 (nI L0) vo = some (nI m, ()) := by
    unfold Unpacker_made Bytes_length
    show some (vo - nI L0, ()) = _
    rw [hvo, pk_sub (by omega), show L0 + m - L0 = m by omega]
  unfold Unpacker_copyStored
  refine Tt_R1.2 (Tt_o (t_alignC (by omega) rfl) ?_)
  dsimp only
  unfold stv at hR
  generalize al8 p = q at *
  refine Tt_R1.2 (Tt_m (t_numC h hlen hM ha hq.2 (k := 16) (by omega) rfl rfl rfl rfl) ?_)
  rintro ⟨r4, va3⟩ hu
  dsimp only at hu ⊢
  have n1 := num_lt (sB_lt bi a) q 16
  by_cases z : q + 16 ≤ M
  · rw [if_pos z] at hu
    obtain ⟨rfl, rfl⟩ := hu
    refine Tt_R1.2 (Tt_m (t_numC h hlen hM ha z (k := 16) (by omega) rfl rfl rfl rfl) ?_)
    rintro ⟨r6, va5⟩ hu
    dsimp only at hu ⊢
    have n2 := num_lt (sB_lt bi a) (q + 16) 16
    refine Tt_n (nI_pos (by omega)) ?_
    have e65 : (65535 : Int32) - nI (num (sB bi a) q 16) = nI (65535 - num (sB bi a) q 16) := pk_sub (a := 65535) (by omega)
    rw [e65]
    by_cases y : q + 16 + 16 ≤ M
    · rw [if_pos y] at hu
      obtain ⟨rfl, rfl⟩ := hu
      rw [if_neg (by omega)] at hR
      by_cases w : num (sB bi a) (q + 16) 16 = 65535 - num (sB bi a) q 16
      · rw [if_neg (fun g => g w)] at hR
        rw [w]
        refine Tt_p rfl (Tt_R0.2 (Tt_o em ?_))
        dsimp only
        generalize num (sB bi a) q 16 = n at *
        have e81 : (8192 : Int32) - nI m = nI (8192 - m) := pk_sub (a := 8192) (by omega)
        rw [e81]
        by_cases v : 8192 < m + n
        · rw [if_pos (Or.inl v)] at hR
          subst hR
          exact Tt_p (by first | decide | (simp (disch := omega) only [i_0, i_1, i_2, i_3, i_4, i_5, i_6, i_7, i_8, i_9, i_10, i_11, i_13, i_14, i_15, i_16, i_17, i_18, i_19, i_24, i_29, i_30, i_31, i_32, i_138, i_143, i_144, i_254, i_255, i_256, i_257, i_258, i_261, i_264, i_265, i_279, i_280, i_284, i_285, i_286, i_288, i_319, i_320, i_338, i_339, i_575, i_576, i_599, i_600, i_4096, i_8191, i_8192, i_8249, i_8250, i_8256, i_9000, i_16384, i_32767, i_32768, i_65520, i_65521, i_65535, i_65536, i_65999, i_66000, i_1300, i_120, i_156, nI_leI, nI_ltI, nI_eq, nI_add, n_neg, not_false_eq_true, not_true_eq_false] <;> omega)) (Tt_Si ⟨rfl, m, hm, hvo⟩)
        · refine Tt_n (by first | decide | (simp (disch := omega) only [i_0, i_1, i_2, i_3, i_4, i_5, i_6, i_7, i_8, i_9, i_10, i_11, i_13, i_14, i_15, i_16, i_17, i_18, i_19, i_24, i_29, i_30, i_31, i_32, i_138, i_143, i_144, i_254, i_255, i_256, i_257, i_258, i_261, i_264, i_265, i_279, i_280, i_284, i_285, i_286, i_288, i_319, i_320, i_338, i_339, i_575, i_576, i_599, i_600, i_4096, i_8191, i_8192, i_8249, i_8250, i_8256, i_9000, i_16384, i_32767, i_32768, i_65520, i_65521, i_65535, i_65536, i_65999, i_66000, i_1300, i_120, i_156, nI_leI, nI_ltI, nI_eq, nI_add, n_neg, not_false_eq_true, not_true_eq_false] <;> omega)) (Tt_R0.2 ?_)
          have eb : BitReader_bitsLeft 200000 (nI (8 * a + (q + 16 + 16))) (nI (8 * a + M)) = some (nI (M - (q + 32)), ()) := by
            unfold BitReader_bitsLeft
            rw [pk_sub (by omega)]
            exact congrArg (fun z => some (nI z, ())) (by omega)
          refine Tt_o eb ?_
          dsimp only
          have e8 : (8 : Int32) * nI n = nI (8 * n) := pk_mul 8 n
          rw [e8]
          by_cases x : M < q + 32 + 8 * n
          · rw [if_pos (Or.inr x)] at hR
            subst hR
            exact Tt_n (by first | decide | (simp (disch := omega) only [i_0, i_1, i_2, i_3, i_4, i_5, i_6, i_7, i_8, i_9, i_10, i_11, i_13, i_14, i_15, i_16, i_17, i_18, i_19, i_24, i_29, i_30, i_31, i_32, i_138, i_143, i_144, i_254, i_255, i_256, i_257, i_258, i_261, i_264, i_265, i_279, i_280, i_284, i_285, i_286, i_288, i_319, i_320, i_338, i_339, i_575, i_576, i_599, i_600, i_4096, i_8191, i_8192, i_8249, i_8250, i_8256, i_9000, i_16384, i_32767, i_32768, i_65520, i_65521, i_65535, i_65536, i_65999, i_66000, i_1300, i_120, i_156, nI_leI, nI_ltI, nI_eq, nI_add, n_neg, not_false_eq_true, not_true_eq_false] <;> omega)) (Tt_Si ⟨rfl, m, hm, hvo⟩)
          · refine Tt_p (by first | decide | (simp (disch := omega) only [i_0, i_1, i_2, i_3, i_4, i_5, i_6, i_7, i_8, i_9, i_10, i_11, i_13, i_14, i_15, i_16, i_17, i_18, i_19, i_24, i_29, i_30, i_31, i_32, i_138, i_143, i_144, i_254, i_255, i_256, i_257, i_258, i_261, i_264, i_265, i_279, i_280, i_284, i_285, i_286, i_288, i_319, i_320, i_338, i_339, i_575, i_576, i_599, i_600, i_4096, i_8191, i_8192, i_8249, i_8250, i_8256, i_9000, i_16384, i_32767, i_32768, i_65520, i_65521, i_65535, i_65536, i_65999, i_66000, i_1300, i_120, i_156, nI_leI, nI_ltI, nI_eq, nI_add, n_neg, not_false_eq_true, not_true_eq_false] <;> omega)) ?_
            rw [if_neg (by omega)] at hR
            subst hR
            refine Tt_W5 (fun mm va vo d x1 x3 => x1 = nI n ∧ ∃ k, va = nI (8 * a + (q + 32 + 8 * k)) ∧ k ≤ n ∧ mm = n - k ∧ x3 = nI k ∧ OutC vo d L0 (m + k) (stB o m (sB bi a) (q + 32) k) d0) ?_ 200000 n _ _ _ _ _ (by omega) ⟨rfl, 0, rfl, by omega, rfl, rfl, hO⟩
            rintro K mm va vo d x1 x3 ⟨rfl, k, rfl, hk, rfl, rfl, hO2⟩ ih
            unfold Unpacker_copyStored_69
            by_cases u : n ≤ k
            · have ek : k = n := by omega
              subst ek
              exact Tt_p (by first | decide | (simp (disch := omega) only [i_0, i_1, i_2, i_3, i_4, i_5, i_6, i_7, i_8, i_9, i_10, i_11, i_13, i_14, i_15, i_16, i_17, i_18, i_19, i_24, i_29, i_30, i_31, i_32, i_138, i_143, i_144, i_254, i_255, i_256, i_257, i_258, i_261, i_264, i_265, i_279, i_280, i_284, i_285, i_286, i_288, i_319, i_320, i_338, i_339, i_575, i_576, i_599, i_600, i_4096, i_8191, i_8192, i_8249, i_8250, i_8256, i_9000, i_16384, i_32767, i_32768, i_65520, i_65521, i_65535, i_65536, i_65999, i_66000, i_1300, i_120, i_156, nI_leI, nI_ltI, nI_eq, nI_add, n_neg, not_false_eq_true, not_true_eq_false] <;> omega)) (Tt_Si ⟨rfl, rfl, hO2⟩)
            · refine Tt_n (by first | decide | (simp (disch := omega) only [i_0, i_1, i_2, i_3, i_4, i_5, i_6, i_7, i_8, i_9, i_10, i_11, i_13, i_14, i_15, i_16, i_17, i_18, i_19, i_24, i_29, i_30, i_31, i_32, i_138, i_143, i_144, i_254, i_255, i_256, i_257, i_258, i_261, i_264, i_265, i_279, i_280, i_284, i_285, i_286, i_288, i_319, i_320, i_338, i_339, i_575, i_576, i_599, i_600, i_4096, i_8191, i_8192, i_8249, i_8250, i_8256, i_9000, i_16384, i_32767, i_32768, i_65520, i_65521, i_65535, i_65536, i_65999, i_66000, i_1300, i_120, i_156, nI_leI, nI_ltI, nI_eq, nI_add, n_neg, not_false_eq_true, not_true_eq_false] <;> omega)) (Tt_R1.2 (Tt_m (t_numC h hlen hM ha (p := q + 32 + 8 * k) (by omega) (k := 8) (by omega) rfl rfl rfl rfl) ?_))
              rintro ⟨r10, va9⟩ hu
              dsimp only at hu ⊢
              rw [if_pos (by omega)] at hu
              obtain ⟨rfl, rfl⟩ := hu
              refine Tt_R2.2 (Tt_m (t_addC hO2 (by omega) (num_lt (sB_lt bi a) _ 8) rfl) ?_)
              rintro ⟨_, vo3, d3⟩ hO3
              refine Tt_l ?_
              rw [nI_1]
              exact ih (n - (k + 1)) _ _ _ _ _ (by omega) ⟨rfl, k + 1, congrArg nI (by omega), by omega, rfl, rfl, hO3⟩
      · rw [if_pos w] at hR
        subst hR
        exact Tt_n (by rw [nI_eq (by omega) (by omega)]; exact w) (Tt_Si ⟨rfl, m, hm, hvo⟩)
    · rw [if_neg y] at hu
      obtain ⟨rfl, rfl⟩ := hu
      rw [if_pos (by omega)] at hR
      subst hR
      exact Tt_n (m1_ne (by omega)) (Tt_Si ⟨rfl, m, hm, hvo⟩)
  · rw [if_neg z] at hu
    obtain ⟨rfl, rfl⟩ := hu
    rw [if_pos (by omega)] at hR
    subst hR
    refine Tt_R1.2 (Tt_m (t_numC h hlen hM ha hq.2 (k := 16) (by omega) rfl rfl rfl rfl) ?_)
    rintro ⟨r6, va5⟩ _
    exact Tt_p (by decide) (Tt_Si ⟨rfl, m, hm, hvo⟩)
/-! the reference -/
theorem w_symM {c next : Nat → Int32} {vf vb vr : Int32} {N : Nat} : Tt (M_readSymbol 200000 N vf vb c next vr (nI 1)) (fun u => u = (nI 0, vr, nI 1)) := by
  unfold M_readSymbol
  refine Tt_W3 (fun mm a b x => a = vr ∧ b = nI 1) ?_ 200000 0 _ _ _ (by omega) ⟨rfl, rfl⟩
  rintro K mm a b x ⟨rfl, rfl⟩ _
  unfold M_readSymbol_2
  exact Tt_n (by decide) (Tt_Si rfl)
theorem w_makeByte {vr vm x : Int32} {t : Nat → Int32} : M_makeByte 200000 8192 vr (nI 1) vm t x = some ((), nI 1, vm, t) := rfl
theorem w_209 {c next t : Nat → Int32} {vf vb vr vm : Int32} {k9 : Int32 → Int32 → Int32 → (Nat → Int32) → Int32 → Option (Unit × Int32 × Int32 × Int32 × (Nat → Int32))} {Q : Unit × Int32 × Int32 × Int32 × (Nat → Int32) → Prop} (h : Tt (k9 vr (nI 1) vm t (nI 0)) Q) : Tt (M_readSymbols_209 200000 66000 vf vb c next k9 vr (nI 1) vm t) Q := by
  unfold M_readSymbols_209
  refine Tt_R2.2 (Tt_m w_symM ?_)
  rintro _ rfl
  exact h
/-! the reference: symbols followed and bytes copied -/
abbrev RA := Unit × Int32 × Int32 × Int32 × (Nat → Int32)
abbrev K9 := Int32 → Int32 → Int32 → (Nat → Int32) → Int32 → Option RA
theorem w_168 {c next t : Nat → Int32} {vf vb vr vm vo x3 x5 : Int32} {k9 : K9} {Q : RA → Prop} (h : Tt (k9 vr (nI 1) vm t (nI 0)) Q) : Tt (M_readSymbols_168 200000 66000 8192 vf vb vo c next k9 vr (nI 1) vm t x3 x5 (nI 1)) Q := by
  unfold M_readSymbols_168
  refine Tt_z (Or.inr rfl) ?_
  refine Tt_W7 (fun mm a b m' t' x y z => a = vr ∧ b = nI 1 ∧ m' = vm ∧ t' = t) ?_ 200000 0 _ _ _ _ _ _ _ (by omega) ⟨rfl, rfl, rfl, rfl⟩
  rintro K mm a b m' t' x y z ⟨rfl, rfl, rfl, rfl⟩ _
  unfold M_readSymbols_174
  by_cases g : x ≤ z
  · exact Tt_p g (w_209 h)
  · exact Tt_n g (Tt_n (by decide) (w_209 h))
theorem w_168' {c next t : Nat → Int32} {vf vb vr vm vw vo x3 x5 : Int32} {k9 : K9} {Q : RA → Prop} (h : Tt (k9 vr (nI 1) vm t (nI 0)) Q) : Tt (M_readSymbols_168 200000 66000 8192 vf vb vo c next k9 vr vw vm t x3 x5 (nI 1)) Q := by
  have e : M_readSymbols_168 200000 66000 8192 vf vb vo c next k9 vr vw vm t x3 x5 (nI 1) = M_readSymbols_168 200000 66000 8192 vf vb vo c next k9 vr (nI 1) vm t x3 x5 (nI 1) := by
    unfold M_readSymbols_168
    rfl
  rw [e]
  exact w_168 h
theorem w_163 {c next t : Nat → Int32} {vf vb vr vw vm vo x3 x5 : Int32} {k9 : K9} {Q : RA → Prop} (h : Tt (k9 vr (nI 1) vm t (nI 0)) Q) : Tt (M_readSymbols_163 200000 66000 8192 vf vb vo c next k9 vr vw vm t x3 x5) Q := by
  unfold M_readSymbols_163
  exact w_168' h
theorem w_138 {c next t : Nat → Int32} {vf vb vr vm vo x1 x3 s0 : Int32} {k9 : K9} {Q : RA → Prop} (h : Tt (k9 vr (nI 1) vm t (nI 0)) Q) : Tt (M_readSymbols_138 200000 66000 8192 vf vb vo c next x1 k9 vr (nI 1) vm t x3 s0) Q := by
  unfold M_readSymbols_138
  exact Tt_n (by decide) (w_163 h)
theorem w_104 {c next t : Nat → Int32} {vf vb vr vw vm vo x1 x3 x4 : Int32} {k9 : K9} {Q : RA → Prop} (h : Tt (k9 vr (nI 1) vm t (nI 0)) Q) : Tt (M_readSymbols_104 200000 66000 8192 vf vb vo c next x1 k9 vr vw vm t x3 x4) Q := by
  unfold M_readSymbols_104 M_readSymbols_109
  refine Tt_z (Or.inr rfl) (Tt_n (by decide) ?_)
  exact w_138 h
theorem w_78 {c next nextD t : Nat → Int32} {vf vb vr vm vo x1 s0 : Int32} {k9 : K9} {Q : RA → Prop} (h : Tt (k9 vr (nI 1) vm t (nI 0)) Q) : Tt (M_readSymbols_78 200000 66000 8192 vf vb vo c next nextD x1 k9 vr (nI 1) vm t s0) Q := by
  unfold M_readSymbols_78
  refine Tt_R2.2 (Tt_m w_symM ?_)
  rintro _ rfl
  dsimp only
  exact Tt_n (by decide) (w_104 h)
/-- what stands at the head of the reference's loop -/
def HeadM (fS fD : Nat → Nat) (src : Nat → Nat) (M win : Nat) (R : RdR) (mm : Nat) (vr vw vm : Int32) (t : Nat → Int32) (x2 : Int32) : Prop := (mm = 0 ∧ R = none ∧ vw = nI 1 ∧ x2 = nI 0 ∧ ∃ p', p' ≤ M ∧ vr = nI p') ∨ (∃ p m o k s p1, dcd fS 288 src M p = some (s, p1) ∧ vr = nI p1 ∧ vw = nI 0 ∧ x2 = nI s ∧ OutM vm t m o ∧ (∀ j, o j < 256) ∧ m ≤ 8192 ∧ 8192 - m < k ∧ mm = 8193 - m ∧ flw fS 288 fD 32 src M win k p m o = R)
theorem t_209 {c next t : Nat → Int32} {bi fS fD o : Nat → Nat} {len a M p m k win mm : Nat} {R : RdR} {vm vr : Int32} {k9 : K9} {Q : RA → Prop} (hs : Src c len bi a M) (hp : p ≤ M) (f1 : ∀ i, i < 288 → fS i ≤ 15) (hT : TreeOK next fS 288) (hO : OutM vm t m o) (ho : ∀ j, o j < 256) (hm : m ≤ 8192) (hk : 8192 - m < k) (hR : flw fS 288 fD 32 (sB bi a) M win k p m o = R) (hmm : 8193 - m < mm) (e : vr = nI p) (ih : ∀ m' b1 b2 b3 b4 b5, m' < mm → HeadM fS fD (sB bi a) M win R m' b1 b2 b3 b4 b5 → Tt (k9 b1 b2 b3 b4 b5) Q) : Tt (M_readSymbols_209 200000 66000 (nI a) (nI M) c next k9 vr (nI 0) vm t) Q := by
  subst e
  obtain ⟨h, hlen, hM, ha⟩ := hs
  unfold M_readSymbols_209
  refine Tt_R2.2 (Tt_m (t_symM h hlen hM ha hp (by omega) f1 hT rfl rfl rfl rfl) ?_)
  rintro ⟨r, vr2, vw2⟩ ⟨g1, g2⟩
  dsimp only at g1 g2 ⊢
  cases hd : dcd fS 288 (sB bi a) M p with
  | none =>
    obtain ⟨p', q1, q2, q3⟩ := g2 hd
    obtain ⟨rfl, rfl, rfl⟩ : r = nI 0 ∧ vr2 = nI p' ∧ vw2 = nI 1 := ⟨congrArg Prod.fst q3, congrArg (fun z => z.2.1) q3, congrArg (fun z => z.2.2) q3⟩
    obtain ⟨j, rfl⟩ : ∃ j, k = j + 1 := ⟨k - 1, by omega⟩
    unfold flw at hR
    rw [hd] at hR
    exact ih 0 _ _ _ _ _ (by omega) (Or.inl ⟨rfl, hR.symm, rfl, rfl, p', q2, rfl⟩)
  | some q =>
    obtain ⟨s, p1⟩ := q
    have q3 := g1 s p1 hd
    obtain ⟨rfl, rfl, rfl⟩ : r = nI s ∧ vr2 = nI p1 ∧ vw2 = nI 0 := ⟨congrArg Prod.fst q3, congrArg (fun z => z.2.1) q3, congrArg (fun z => z.2.2) q3⟩
    exact ih (8193 - m) _ _ _ _ _ hmm (Or.inr ⟨p, m, o, k, s, p1, hd, rfl, rfl, rfl, hO, ho, hm, hk, rfl, hR⟩)
theorem t_followM {c nS nD t : Nat → Int32} {bi fS fD o : Nat → Nat} {len a M p m win wr : Nat} {R : RdR} {vf vb vo vr vw vm x1 : Int32} (hs : Src c len bi a M) (hp : p ≤ M) (hF : wr = 0 → LenOK fS fD ∧ TreeOK nS fS 288 ∧ TreeOK nD fD 32 ∧ OutM vm t m o ∧ (∀ j, o j < 256) ∧ m ≤ 8192) (hwr : wr ≤ 1) (hw : win ≤ 32768) (e1 : vf = nI a) (e2 : vb = nI M) (e3 : vo = nI 8192) (e4 : vr = nI p) (e5 : vw = nI wr) (e6 : x1 = nI win) (hR : (if wr = 0 then flw fS 288 fD 32 (sB bi a) M win 8193 p m o else none) = R) : Tt (M_readSymbols 200000 66000 8192 vf vb vo c nS nD vr vw vm t x1) (fun u => PM M R u.2.1 u.2.2.1 u.2.2.2.1 u.2.2.2.2) := by
  subst e1 e2 e3 e4 e5 e6
  have hs' := hs
  obtain ⟨h, hlen, hM, ha⟩ := hs'
  have loop : ∀ mm vr vw vm t x2, mm < 200000 → HeadM fS fD (sB bi a) M win R mm vr vw vm t x2 → (wr = 0) → Tt ((mW5 (M_readSymbols_9 200000 66000 8192 (nI a) (nI M) (nI 8192) c nS nD (nI win)) 200000) vr vw vm t x2) (fun u => PM M R u.2.1 u.2.2.1 u.2.2.2.1 u.2.2.2.2) := by
    intro mm vr vw vm t x2 hmm hH w0
    obtain ⟨⟨f1, f2, f3, f4⟩, tS, tD, _⟩ := hF w0
    refine Tt_W5 (HeadM fS fD (sB bi a) M win R) ?_ 200000 mm _ _ _ _ _ hmm hH
    rintro K mm vr vw vm t x2 (⟨rfl, rfl, rfl, rfl, p', hp', rfl⟩ | ⟨p, m, o, k, s, p1, hd, rfl, rfl, rfl, hO, ho, hm, hk, rfl, hR⟩) ih
    · unfold M_readSymbols_9
      exact Tt_n (by decide) (Tt_n (by decide) (Tt_Si ⟨rfl, p', hp', rfl⟩))
    · have db := dcd_b hd
      obtain ⟨j, rfl⟩ : ∃ j, k = j + 1 := ⟨k - 1, by omega⟩
      unfold flw at hR
      rw [hd] at hR
      dsimp only at hR
      unfold M_readSymbols_9
      by_cases z1 : s = 256
      · subst z1
        rw [if_pos rfl] at hR
        subst hR
        exact Tt_p rfl (Tt_Si ⟨rfl, rfl, hO⟩)
      · rw [if_neg z1] at hR
        refine Tt_n (by first | decide | (simp (disch := omega) only [i_0, i_1, i_2, i_3, i_4, i_5, i_6, i_7, i_8, i_9, i_10, i_11, i_13, i_14, i_15, i_16, i_17, i_18, i_19, i_24, i_29, i_30, i_31, i_32, i_138, i_143, i_144, i_254, i_255, i_256, i_257, i_258, i_261, i_264, i_265, i_279, i_280, i_284, i_285, i_286, i_288, i_319, i_320, i_338, i_339, i_575, i_576, i_599, i_600, i_4096, i_8191, i_8192, i_8249, i_8250, i_8256, i_9000, i_16384, i_32767, i_32768, i_65520, i_65521, i_65535, i_65536, i_65999, i_66000, i_1300, i_120, i_156, nI_leI, nI_ltI, nI_eq, nI_add, n_neg, not_false_eq_true, not_true_eq_false] <;> omega)) (Tt_p rfl ?_)
        have wrong : R = none → ∀ p' vm t, p' ≤ M → Tt (K (nI p') (nI 1) vm t (nI 0)) (fun u => PM M R u.2.1 u.2.2.1 u.2.2.2.1 u.2.2.2.2) := fun g p' vm t hp' => ih 0 _ _ _ _ _ (by omega) (Or.inl ⟨rfl, g, rfl, rfl, p', hp', rfl⟩)
        by_cases z3 : s < 256
        · refine Tt_n (by first | decide | (simp (disch := omega) only [i_0, i_1, i_2, i_3, i_4, i_5, i_6, i_7, i_8, i_9, i_10, i_11, i_13, i_14, i_15, i_16, i_17, i_18, i_19, i_24, i_29, i_30, i_31, i_32, i_138, i_143, i_144, i_254, i_255, i_256, i_257, i_258, i_261, i_264, i_265, i_279, i_280, i_284, i_285, i_286, i_288, i_319, i_320, i_338, i_339, i_575, i_576, i_599, i_600, i_4096, i_8191, i_8192, i_8249, i_8250, i_8256, i_9000, i_16384, i_32767, i_32768, i_65520, i_65521, i_65535, i_65536, i_65999, i_66000, i_1300, i_120, i_156, nI_leI, nI_ltI, nI_eq, nI_add, n_neg, not_false_eq_true, not_true_eq_false] <;> omega)) (Tt_R3.2 (Tt_m (t_makeByte hO hm rfl rfl (Or.inl rfl) z3) ?_))
          rintro ⟨_, vw2, vm2, t2⟩ ⟨g1, g2⟩
          dsimp only at g1 g2 ⊢
          by_cases z4 : 8192 ≤ m
          · rw [if_pos (Or.inr z4)] at hR
            obtain ⟨rfl, _⟩ := g2 z4
            exact w_209 (wrong hR.symm _ _ _ db.2.2.1)
          · rw [if_neg (by omega), if_pos z3] at hR
            obtain ⟨rfl, hO2⟩ := g1 (by omega)
            exact t_209 hs db.2.2.1 f1 tS hO2 (push_b ho z3) (by omega) (by omega) hR (by omega) rfl ih
        · refine Tt_p (by first | decide | (simp (disch := omega) only [i_0, i_1, i_2, i_3, i_4, i_5, i_6, i_7, i_8, i_9, i_10, i_11, i_13, i_14, i_15, i_16, i_17, i_18, i_19, i_24, i_29, i_30, i_31, i_32, i_138, i_143, i_144, i_254, i_255, i_256, i_257, i_258, i_261, i_264, i_265, i_279, i_280, i_284, i_285, i_286, i_288, i_319, i_320, i_338, i_339, i_575, i_576, i_599, i_600, i_4096, i_8191, i_8192, i_8249, i_8250, i_8256, i_9000, i_16384, i_32767, i_32768, i_65520, i_65521, i_65535, i_65536, i_65999, i_66000, i_1300, i_120, i_156, nI_leI, nI_ltI, nI_eq, nI_add, n_neg, not_false_eq_true, not_true_eq_false] <;> omega)) ?_
          by_cases z2 : 285 < s
          · rw [if_pos (Or.inl z2)] at hR
            refine Tt_n (by first | decide | (simp (disch := omega) only [i_0, i_1, i_2, i_3, i_4, i_5, i_6, i_7, i_8, i_9, i_10, i_11, i_13, i_14, i_15, i_16, i_17, i_18, i_19, i_24, i_29, i_30, i_31, i_32, i_138, i_143, i_144, i_254, i_255, i_256, i_257, i_258, i_261, i_264, i_265, i_279, i_280, i_284, i_285, i_286, i_288, i_319, i_320, i_338, i_339, i_575, i_576, i_599, i_600, i_4096, i_8191, i_8192, i_8249, i_8250, i_8256, i_9000, i_16384, i_32767, i_32768, i_65520, i_65521, i_65535, i_65536, i_65999, i_66000, i_1300, i_120, i_156, nI_leI, nI_ltI, nI_eq, nI_add, n_neg, not_false_eq_true, not_true_eq_false] <;> omega)) ?_
            unfold M_readSymbols_51
            exact Tt_z (Or.inr rfl) (Tt_n (by decide) (w_78 (wrong hR.symm _ _ _ db.2.2.1)))
          · have yx := y_lex s (by omega) (by omega)
            have yb := y_lbase s (by omega) (by omega)
            have hR2 : (match rep fD 32 (sB bi a) M win p1 m o s with | none => none | some (p', m', o') => flw fS 288 fD 32 (sB bi a) M win j p' m' o') = R := by
              by_cases z4 : 8192 ≤ m
              · rw [if_pos (Or.inr z4)] at hR
                cases h4 : rep fD 32 (sB bi a) M win p1 m o s with
                | none => exact hR
                | some q2 =>
                  obtain ⟨p', m', o'⟩ := q2
                  have rb := rep_b ho h4
                  have rm := rep_m (by omega) (by omega) h4
                  omega
              · rw [if_neg (by omega), if_neg z3] at hR
                exact hR
            clear hR
            refine Tt_p (by first | decide | (simp (disch := omega) only [i_0, i_1, i_2, i_3, i_4, i_5, i_6, i_7, i_8, i_9, i_10, i_11, i_13, i_14, i_15, i_16, i_17, i_18, i_19, i_24, i_29, i_30, i_31, i_32, i_138, i_143, i_144, i_254, i_255, i_256, i_257, i_258, i_261, i_264, i_265, i_279, i_280, i_284, i_285, i_286, i_288, i_319, i_320, i_338, i_339, i_575, i_576, i_599, i_600, i_4096, i_8191, i_8192, i_8249, i_8250, i_8256, i_9000, i_16384, i_32767, i_32768, i_65520, i_65521, i_65535, i_65536, i_65999, i_66000, i_1300, i_120, i_156, nI_leI, nI_ltI, nI_eq, nI_add, n_neg, not_false_eq_true, not_true_eq_false] <;> omega)) ?_
            unfold M_readSymbols_51
            refine Tt_z (Or.inl rfl) (Tt_p rfl (Tt_R0.2 (Tt_o yb.1 (Tt_R0.2 (Tt_o yx.1 (Tt_R2.2 (Tt_m (t_numM h hlen hM ha db.2.2.1 (k := lex s) (wr := 0) (by omega) (by omega) rfl rfl rfl rfl rfl) ?_)))))))
            rintro _ ⟨v, p', wr', rfl, hv, hp1, hp2, hw1, g1, g2⟩
            dsimp only
            unfold rep at hR2
            by_cases y : p1 + lex s ≤ M
            · obtain ⟨rfl, rfl, rfl⟩ := g1 rfl y
              rw [if_neg (by omega)] at hR2
              unfold M_readSymbols_78
              refine Tt_R2.2 (Tt_m (t_symM h hlen hM ha y (by omega) f2 tD rfl rfl rfl rfl) ?_)
              rintro ⟨r, vr2, vw2⟩ ⟨g3, g4⟩
              dsimp only at g3 g4 ⊢
              cases hd2 : dcd fD 32 (sB bi a) M (p1 + lex s) with
              | none =>
                obtain ⟨p'', q1, q2, q3⟩ := g4 hd2
                obtain ⟨rfl, rfl, rfl⟩ : r = nI 0 ∧ vr2 = nI p'' ∧ vw2 = nI 1 := ⟨congrArg Prod.fst q3, congrArg (fun z => z.2.1) q3, congrArg (fun z => z.2.2) q3⟩
                rw [hd2] at hR2
                exact Tt_n (by decide) (w_104 (wrong hR2.symm _ _ _ q2))
              | some q =>
                obtain ⟨d', p2⟩ := q
                have q3 := g3 d' p2 hd2
                obtain ⟨rfl, rfl, rfl⟩ : r = nI d' ∧ vr2 = nI p2 ∧ vw2 = nI 0 := ⟨congrArg Prod.fst q3, congrArg (fun z => z.2.1) q3, congrArg (fun z => z.2.2) q3⟩
                have db2 := dcd_b hd2
                rw [hd2] at hR2
                dsimp only at hR2
                refine Tt_p rfl ?_
                by_cases x : 29 < d'
                · rw [if_pos (Or.inl x)] at hR2
                  exact Tt_n (by first | decide | (simp (disch := omega) only [i_0, i_1, i_2, i_3, i_4, i_5, i_6, i_7, i_8, i_9, i_10, i_11, i_13, i_14, i_15, i_16, i_17, i_18, i_19, i_24, i_29, i_30, i_31, i_32, i_138, i_143, i_144, i_254, i_255, i_256, i_257, i_258, i_261, i_264, i_265, i_279, i_280, i_284, i_285, i_286, i_288, i_319, i_320, i_338, i_339, i_575, i_576, i_599, i_600, i_4096, i_8191, i_8192, i_8249, i_8250, i_8256, i_9000, i_16384, i_32767, i_32768, i_65520, i_65521, i_65535, i_65536, i_65999, i_66000, i_1300, i_120, i_156, nI_leI, nI_ltI, nI_eq, nI_add, n_neg, not_false_eq_true, not_true_eq_false] <;> omega)) (w_104 (wrong hR2.symm _ _ _ db2.2.2.1))
                · have ye := y_dex d' (by omega)
                  have ydb := y_dbase d' (by omega)
                  refine Tt_p (by first | decide | (simp (disch := omega) only [i_0, i_1, i_2, i_3, i_4, i_5, i_6, i_7, i_8, i_9, i_10, i_11, i_13, i_14, i_15, i_16, i_17, i_18, i_19, i_24, i_29, i_30, i_31, i_32, i_138, i_143, i_144, i_254, i_255, i_256, i_257, i_258, i_261, i_264, i_265, i_279, i_280, i_284, i_285, i_286, i_288, i_319, i_320, i_338, i_339, i_575, i_576, i_599, i_600, i_4096, i_8191, i_8192, i_8249, i_8250, i_8256, i_9000, i_16384, i_32767, i_32768, i_65520, i_65521, i_65535, i_65536, i_65999, i_66000, i_1300, i_120, i_156, nI_leI, nI_ltI, nI_eq, nI_add, n_neg, not_false_eq_true, not_true_eq_false] <;> omega)) ?_
                  unfold M_readSymbols_109
                  refine Tt_z (Or.inl rfl) (Tt_p rfl (Tt_R0.2 (Tt_o ydb.1 (Tt_R0.2 (Tt_o ye.1 (Tt_R2.2 (Tt_m (t_numM h hlen hM ha db2.2.2.1 (k := dex d') (wr := 0) (by omega) (by omega) rfl rfl rfl rfl rfl) ?_)))))))
                  rintro _ ⟨v2, p3, wr2, rfl, hv2, hp3, hp4, hw2, g5, g6⟩
                  dsimp only
                  by_cases w : p2 + dex d' ≤ M
                  · obtain ⟨rfl, rfl, rfl⟩ := g5 rfl w
                    rw [if_neg (show ¬ (29 < d' ∨ M < p2 + dex d') by omega)] at hR2
                    have nb2 : 2 ^ lex s ≤ 2 ^ 5 := Nat.pow_le_pow_right (by omega) yx.2.2
                    have nc2 : 2 ^ dex d' ≤ 2 ^ 13 := Nat.pow_le_pow_right (by omega) ye.2.2
                    have ydb1 := ydb.2.2.1
                    have ydb2 := ydb.2.2.2
                    have yb1 := yb.2.2.1
                    have yb2 := yb.2.2.2
                    rw [nI_add, nI_add]
                    have f0 : 1 ≤ dbase d' + num (sB bi a) p2 (dex d') := by omega
                    have fb : dbase d' + num (sB bi a) p2 (dex d') ≤ 50000 := by omega
                    have n0 : 3 ≤ lbase s + num (sB bi a) p1 (lex s) := by omega
                    have n9 : lbase s + num (sB bi a) p1 (lex s) ≤ 300 := by omega
                    clear g5 g6 g1 g2 hv hv2 yx yb ye ydb
                    generalize dbase d' + num (sB bi a) p2 (dex d') = far at *
                    generalize lbase s + num (sB bi a) p1 (lex s) = nn at *
                    unfold M_readSymbols_138
                    refine Tt_p rfl ?_
                    have hvm := hO.1
                    by_cases q1 : m < far
                    · rw [if_pos (Or.inl q1)] at hR2
                      exact Tt_p (by rw [hvm, nI_ltI (by omega) (by omega)]; exact q1) (w_163 (wrong hR2.symm _ _ _ w))
                    · refine Tt_n (by rw [hvm, nI_ltI (by omega) (by omega)]; exact q1) ?_
                      by_cases q2 : win < far
                      · rw [if_pos (Or.inr (Or.inl q2))] at hR2
                        exact Tt_n (by first | decide | (simp (disch := omega) only [i_0, i_1, i_2, i_3, i_4, i_5, i_6, i_7, i_8, i_9, i_10, i_11, i_13, i_14, i_15, i_16, i_17, i_18, i_19, i_24, i_29, i_30, i_31, i_32, i_138, i_143, i_144, i_254, i_255, i_256, i_257, i_258, i_261, i_264, i_265, i_279, i_280, i_284, i_285, i_286, i_288, i_319, i_320, i_338, i_339, i_575, i_576, i_599, i_600, i_4096, i_8191, i_8192, i_8249, i_8250, i_8256, i_9000, i_16384, i_32767, i_32768, i_65520, i_65521, i_65535, i_65536, i_65999, i_66000, i_1300, i_120, i_156, nI_leI, nI_ltI, nI_eq, nI_add, n_neg, not_false_eq_true, not_true_eq_false] <;> omega)) (w_163 (wrong hR2.symm _ _ _ w))
                      · refine Tt_p (by first | decide | (simp (disch := omega) only [i_0, i_1, i_2, i_3, i_4, i_5, i_6, i_7, i_8, i_9, i_10, i_11, i_13, i_14, i_15, i_16, i_17, i_18, i_19, i_24, i_29, i_30, i_31, i_32, i_138, i_143, i_144, i_254, i_255, i_256, i_257, i_258, i_261, i_264, i_265, i_279, i_280, i_284, i_285, i_286, i_288, i_319, i_320, i_338, i_339, i_575, i_576, i_599, i_600, i_4096, i_8191, i_8192, i_8249, i_8250, i_8256, i_9000, i_16384, i_32767, i_32768, i_65520, i_65521, i_65535, i_65536, i_65999, i_66000, i_1300, i_120, i_156, nI_leI, nI_ltI, nI_eq, nI_add, n_neg, not_false_eq_true, not_true_eq_false] <;> omega)) ?_
                        unfold M_readSymbols_168
                        refine Tt_z (Or.inl rfl) ?_
                        refine Tt_W7 (fun q vr vw vm t x3 x5 x6 => x3 = nI nn ∧ x5 = nI far ∧ vr = nI (p2 + dex d') ∧ ((q = 0 ∧ vw = nI 1 ∧ 8192 < m + nn) ∨ (∃ k, x6 = nI k ∧ k ≤ nn ∧ q = nn - k + 1 ∧ vw = nI 0 ∧ m + k ≤ 8192 ∧ OutM vm t (m + k) (rpB o m far k)))) ?_ 200000 (nn + 1) _ _ _ _ _ _ _ (by omega) ⟨rfl, rfl, rfl, Or.inr ⟨0, rfl, by omega, by omega, rfl, hm, hO⟩⟩
                        rintro K2 q vr vw vm t x3 x5 x6 ⟨rfl, rfl, rfl, (⟨rfl, rfl, big⟩ | ⟨k, rfl, hkn, rfl, rfl, hmk, hO2⟩)⟩ ih2
                        · rw [if_pos (Or.inr (Or.inr big))] at hR2
                          unfold M_readSymbols_174
                          by_cases g : nI nn ≤ x6
                          · exact Tt_p g (w_209 (wrong hR2.symm _ _ _ w))
                          · exact Tt_n g (Tt_n (by decide) (w_209 (wrong hR2.symm _ _ _ w)))
                        · unfold M_readSymbols_174
                          by_cases g : nn ≤ k
                          · have ek : k = nn := by omega
                            subst ek
                            rw [if_neg (by omega)] at hR2
                            dsimp only at hR2
                            exact Tt_p (by first | decide | (simp (disch := omega) only [i_0, i_1, i_2, i_3, i_4, i_5, i_6, i_7, i_8, i_9, i_10, i_11, i_13, i_14, i_15, i_16, i_17, i_18, i_19, i_24, i_29, i_30, i_31, i_32, i_138, i_143, i_144, i_254, i_255, i_256, i_257, i_258, i_261, i_264, i_265, i_279, i_280, i_284, i_285, i_286, i_288, i_319, i_320, i_338, i_339, i_575, i_576, i_599, i_600, i_4096, i_8191, i_8192, i_8249, i_8250, i_8256, i_9000, i_16384, i_32767, i_32768, i_65520, i_65521, i_65535, i_65536, i_65999, i_66000, i_1300, i_120, i_156, nI_leI, nI_ltI, nI_eq, nI_add, n_neg, not_false_eq_true, not_true_eq_false] <;> omega)) (t_209 hs w f1 tS hO2 (rpB_b ho _) hmk (by omega) hR2 (by omega) rfl ih)
                          · have hvm2 := hO2.1
                            have rb0 := @rpB_b o m far ho k
                            have hO3 := hO2
                            rw [hvm2] at hO3
                            have ei : vm - nI far = nI (m + k - far) := by rw [hvm2]; exact pk_sub (by omega)
                            refine Tt_n (by first | decide | (simp (disch := omega) only [i_0, i_1, i_2, i_3, i_4, i_5, i_6, i_7, i_8, i_9, i_10, i_11, i_13, i_14, i_15, i_16, i_17, i_18, i_19, i_24, i_29, i_30, i_31, i_32, i_138, i_143, i_144, i_254, i_255, i_256, i_257, i_258, i_261, i_264, i_265, i_279, i_280, i_284, i_285, i_286, i_288, i_319, i_320, i_338, i_339, i_575, i_576, i_599, i_600, i_4096, i_8191, i_8192, i_8249, i_8250, i_8256, i_9000, i_16384, i_32767, i_32768, i_65520, i_65521, i_65535, i_65536, i_65999, i_66000, i_1300, i_120, i_156, nI_leI, nI_ltI, nI_eq, nI_add, n_neg, not_false_eq_true, not_true_eq_false] <;> omega)) (Tt_p rfl (Tt_l ?_))
                            rw [ei]
                            refine Tt_g (by omega) (by omega) (Tt_l ?_)
                            rw [nI_clamp (by omega), hO2.2 (m + k - far) (by omega)]
                            refine Tt_R3.2 (Tt_m (t_makeByte hO2 hmk rfl rfl (Or.inr rfl) (rb0 _)) ?_)
                            rintro ⟨_, vw4, vm4, t4⟩ ⟨g7, g8⟩
                            dsimp only at g7 g8 ⊢
                            refine Tt_l ?_
                            rw [nI_1]
                            by_cases z4 : m + k < 8192
                            · obtain ⟨rfl, hO4⟩ := g7 z4
                              exact ih2 (nn - (k + 1) + 1) _ _ _ _ _ _ _ (by omega) ⟨rfl, rfl, rfl, Or.inr ⟨k + 1, rfl, by omega, rfl, rfl, by omega, hO4⟩⟩
                            · obtain ⟨rfl, _⟩ := g8 (by omega)
                              exact ih2 0 _ _ _ _ _ _ _ (by omega) ⟨rfl, rfl, rfl, Or.inl ⟨rfl, rfl, by omega⟩⟩
                  · rw [if_pos (Or.inr (by omega))] at hR2
                    have e1 : wr2 = 1 := by rcases g6 (Or.inr (by omega)) with q | q <;> omega
                    subst e1
                    exact w_138 (wrong hR2.symm _ _ _ hp4)
            · rw [if_pos (by omega)] at hR2
              have e1 : wr' = 1 := by rcases g2 (Or.inr (by omega)) with q | q <;> omega
              subst e1
              exact w_78 (wrong hR2.symm _ _ _ hp2)
  unfold M_readSymbols
  have hw2 : wr = 0 ∨ wr = 1 := by omega
  rcases hw2 with rfl | rfl
  · obtain ⟨hL, tS, tD, hO, ho, hm⟩ := hF rfl
    rw [if_pos rfl] at hR
    refine Tt_R2.2 (Tt_m (t_symM h hlen hM ha hp (by omega) hL.1 tS rfl rfl rfl rfl) ?_)
    rintro ⟨r, vr2, vw2⟩ ⟨g1, g2⟩
    dsimp only at g1 g2 ⊢
    cases hd : dcd fS 288 (sB bi a) M p with
    | none =>
      obtain ⟨p', q1, q2, q3⟩ := g2 hd
      obtain ⟨rfl, rfl, rfl⟩ : r = nI 0 ∧ vr2 = nI p' ∧ vw2 = nI 1 := ⟨congrArg Prod.fst q3, congrArg (fun z => z.2.1) q3, congrArg (fun z => z.2.2) q3⟩
      unfold flw at hR
      rw [hd] at hR
      exact loop 0 _ _ _ _ _ (by omega) (Or.inl ⟨rfl, hR.symm, rfl, rfl, p', q2, rfl⟩) rfl
    | some q =>
      obtain ⟨s, p1⟩ := q
      have q3 := g1 s p1 hd
      obtain ⟨rfl, rfl, rfl⟩ : r = nI s ∧ vr2 = nI p1 ∧ vw2 = nI 0 := ⟨congrArg Prod.fst q3, congrArg (fun z => z.2.1) q3, congrArg (fun z => z.2.2) q3⟩
      exact loop (8193 - m) _ _ _ _ _ (by omega) (Or.inr ⟨p, m, o, 8193, s, p1, hd, rfl, rfl, rfl, hO, ho, hm, by omega, rfl, hR⟩) rfl
  · rw [if_neg (by omega)] at hR
    subst hR
    refine Tt_R2.2 (Tt_m w_symM ?_)
    rintro _ rfl
    dsimp only
    refine Tt_W5 (fun mm a b m' t' x => a = nI p ∧ b = nI 1 ∧ x = nI 0) ?_ 200000 0 _ _ _ _ _ (by omega) ⟨rfl, rfl, rfl⟩
    rintro K mm a b m' t' x ⟨rfl, rfl, rfl⟩ _
    unfold M_readSymbols_9
    exact Tt_n (by decide) (Tt_n (by decide) (Tt_Si ⟨rfl, p, hp, rfl⟩))
/-! the reference: bytes as they are -/
theorem t_toByte {p : Nat} {vr : Int32} (h : p < 1000000) (e : vr = nI p) : Tt (M_toByte 200000 vr) (fun u => u.2 = nI (al8 p)) := by
  subst e
  unfold M_toByte
  refine Tt_W1 (fun mm a => ∃ x, a = nI x ∧ p ≤ x ∧ x ≤ al8 p ∧ mm = al8 p - x) ?_ 200000 (al8 p - p) _ (by unfold al8; omega) ⟨p, rfl, by omega, by unfold al8; omega, rfl⟩
  rintro K mm a ⟨x, rfl, h1, h2, rfl⟩ ih
  unfold M_toByte_0
  have e : nI x - nI x / 8 * 8 = nI (x % 8) := by
    have hx : x < 2 ^ 31 := by unfold al8 at *; omega
    have e8 : nI x / 8 = nI (x / 8) := pk_div (d := 8) hx (by decide) (by decide)
    rw [e8]
    exact n_rem x 8
  rw [e]
  by_cases z : x % 8 = 0
  · refine Tt_p (by rw [z]; rfl) (Tt_Si ?_)
    dsimp only
    have : x = al8 p := by unfold al8 at *; omega
    rw [this]
  · refine Tt_n (by first | decide | (simp (disch := omega) only [i_0, i_1, i_2, i_3, i_4, i_5, i_6, i_7, i_8, i_9, i_10, i_11, i_13, i_14, i_15, i_16, i_17, i_18, i_19, i_24, i_29, i_30, i_31, i_32, i_138, i_143, i_144, i_254, i_255, i_256, i_257, i_258, i_261, i_264, i_265, i_279, i_280, i_284, i_285, i_286, i_288, i_319, i_320, i_338, i_339, i_575, i_576, i_599, i_600, i_4096, i_8191, i_8192, i_8249, i_8250, i_8256, i_9000, i_16384, i_32767, i_32768, i_65520, i_65521, i_65535, i_65536, i_65999, i_66000, i_1300, i_120, i_156, nI_leI, nI_ltI, nI_eq, nI_add, n_neg, not_false_eq_true, not_true_eq_false] <;> omega)) (Tt_l ?_)
    rw [nI_1]
    exact ih (al8 p - (x + 1)) _ (by unfold al8 at *; omega) ⟨x + 1, rfl, by omega, by unfold al8 at *; omega, rfl⟩
theorem t_copyM {c t : Nat → Int32} {bi o : Nat → Nat} {len a M p m wr : Nat} {R : RdR} {vf vb vo vr vw vm : Int32} (hs : Src c len bi a M) (hp : p ≤ M) (h8 : M % 8 = 0) (hF : wr = 0 → OutM vm t m o ∧ m ≤ 8192) (hwr : wr ≤ 1) (e1 : vf = nI a) (e2 : vb = nI M) (e3 : vo = nI 8192) (e4 : vr = nI p) (e5 : vw = nI wr) (hR : (if wr = 0 then stv (sB bi a) M p m o else none) = R) : Tt (M_readStored 200000 66000 8192 vf vb vo c vr vw vm t) (fun u => PM M R u.2.1 u.2.2.1 u.2.2.2.1 u.2.2.2.2) := by
  subst e1 e2 e3 e4 e5
  obtain ⟨h, hlen, hM, ha⟩ := hs
  have hq := al8_b hp h8
  have bad : ∀ p' n vm t, p' ≤ M → R = none → Tt (M_readStored_37 200000 66000 8192 (nI a) (nI M) (nI 8192) c (nI p') (nI 1) vm t n (nI 1)) (fun u => PM M R u.2.1 u.2.2.1 u.2.2.2.1 u.2.2.2.2) := by
    intro p' n vm t hp' g
    subst g
    unfold M_readStored_37
    refine Tt_z (Or.inr rfl) ?_
    refine Tt_W6 (fun mm a b m' t' x y => a = nI p' ∧ b = nI 1) ?_ 200000 0 _ _ _ _ _ _ (by omega) ⟨rfl, rfl⟩
    rintro K mm a b m' t' x y ⟨rfl, rfl⟩ _
    unfold M_readStored_42
    by_cases g : x ≤ y
    · exact Tt_p g (Tt_Si ⟨rfl, p', hp', rfl⟩)
    · exact Tt_n g (Tt_n (by decide) (Tt_Si ⟨rfl, p', hp', rfl⟩))
  have bad2 : ∀ p' n vw vm t, p' ≤ M → R = none → Tt (M_readStored_32 200000 66000 8192 (nI a) (nI M) (nI 8192) c (nI p') vw vm t n) (fun u => PM M R u.2.1 u.2.2.1 u.2.2.2.1 u.2.2.2.2) := by
    intro p' n vw vm t hp' g
    have e : M_readStored_32 200000 66000 8192 (nI a) (nI M) (nI 8192) c (nI p') vw vm t n = M_readStored_37 200000 66000 8192 (nI a) (nI M) (nI 8192) c (nI p') (nI 1) vm t n (nI 1) := by
      unfold M_readStored_32 M_readStored_37
      rfl
    rw [e]
    exact bad p' n vm t hp' g
  unfold M_readStored
  refine Tt_R1.2 (Tt_m (t_toByte (by omega) rfl) ?_)
  rintro ⟨_, vr9⟩ g0
  dsimp only at g0 ⊢
  subst g0
  unfold stv at hR
  generalize al8 p = q at *
  refine Tt_R2.2 (Tt_m (t_numM h hlen hM ha hq.2 (k := 16) (wr := wr) (by omega) (by omega) rfl rfl rfl rfl rfl) ?_)
  rintro _ ⟨v1, p1, w1, rfl, hv1, hp1, hp1', hw1, g1, g2⟩
  dsimp only
  refine Tt_R2.2 (Tt_m (t_numM h hlen hM ha hp1' (k := 16) (wr := w1) (by omega) (by omega) rfl rfl rfl rfl rfl) ?_)
  rintro _ ⟨v2, p2, w2, rfl, hv2, hp2, hp2', hw2, g3, g4⟩
  dsimp only
  have e65 : (65535 : Int32) - nI v1 = nI (65535 - v1) := pk_sub (a := 65535) (by omega)
  rw [e65]
  by_cases ok : wr = 0 ∧ q + 32 ≤ M
  · obtain ⟨rfl, z⟩ := ok
    obtain ⟨rfl, rfl, rfl⟩ := g1 rfl (by omega)
    obtain ⟨rfl, rfl, rfl⟩ := g3 rfl (by omega)
    obtain ⟨hO, hm⟩ := hF rfl
    rw [if_pos rfl, if_neg (by omega)] at hR
    by_cases w : num (sB bi a) (q + 16) 16 = 65535 - num (sB bi a) q 16
    · rw [if_neg (fun g => g w)] at hR
      rw [w]
      refine Tt_p rfl (Tt_p rfl ?_)
      clear g1 g2 g3 g4 w hv2
      generalize num (sB bi a) q 16 = n at *
      unfold M_readStored_37
      refine Tt_z (Or.inl rfl) ?_
      refine Tt_W6 (fun mm vr vw vm t x1 x2 => x1 = nI n ∧ ((mm = 0 ∧ vw = nI 1 ∧ (8192 < m + n ∨ M < q + 32 + 8 * n) ∧ ∃ p', p' ≤ M ∧ vr = nI p') ∨ (∃ k, x2 = nI k ∧ k ≤ n ∧ mm = n - k + 1 ∧ vr = nI (q + 32 + 8 * k) ∧ q + 32 + 8 * k ≤ M ∧ vw = nI 0 ∧ m + k ≤ 8192 ∧ OutM vm t (m + k) (stB o m (sB bi a) (q + 32) k)))) ?_ 200000 (n + 1) _ _ _ _ _ _ (by omega) ⟨rfl, Or.inr ⟨0, rfl, by omega, by omega, rfl, by omega, rfl, hm, hO⟩⟩
      rintro K mm vr vw vm t x1 x2 ⟨rfl, (⟨rfl, rfl, big, p', hp', rfl⟩ | ⟨k, rfl, hkn, rfl, rfl, hpk, rfl, hmk, hO2⟩)⟩ ih
      · rw [if_pos big] at hR
        subst hR
        unfold M_readStored_42
        by_cases g : nI n ≤ x2
        · exact Tt_p g (Tt_Si ⟨rfl, p', hp', rfl⟩)
        · exact Tt_n g (Tt_n (by decide) (Tt_Si ⟨rfl, p', hp', rfl⟩))
      · unfold M_readStored_42
        by_cases g : n ≤ k
        · have ek : k = n := by omega
          subst ek
          rw [if_neg (by omega)] at hR
          subst hR
          exact Tt_p (by first | decide | (simp (disch := omega) only [i_0, i_1, i_2, i_3, i_4, i_5, i_6, i_7, i_8, i_9, i_10, i_11, i_13, i_14, i_15, i_16, i_17, i_18, i_19, i_24, i_29, i_30, i_31, i_32, i_138, i_143, i_144, i_254, i_255, i_256, i_257, i_258, i_261, i_264, i_265, i_279, i_280, i_284, i_285, i_286, i_288, i_319, i_320, i_338, i_339, i_575, i_576, i_599, i_600, i_4096, i_8191, i_8192, i_8249, i_8250, i_8256, i_9000, i_16384, i_32767, i_32768, i_65520, i_65521, i_65535, i_65536, i_65999, i_66000, i_1300, i_120, i_156, nI_leI, nI_ltI, nI_eq, nI_add, n_neg, not_false_eq_true, not_true_eq_false] <;> omega)) (Tt_Si ⟨rfl, rfl, hO2⟩)
        · refine Tt_n (by first | decide | (simp (disch := omega) only [i_0, i_1, i_2, i_3, i_4, i_5, i_6, i_7, i_8, i_9, i_10, i_11, i_13, i_14, i_15, i_16, i_17, i_18, i_19, i_24, i_29, i_30, i_31, i_32, i_138, i_143, i_144, i_254, i_255, i_256, i_257, i_258, i_261, i_264, i_265, i_279, i_280, i_284, i_285, i_286, i_288, i_319, i_320, i_338, i_339, i_575, i_576, i_599, i_600, i_4096, i_8191, i_8192, i_8249, i_8250, i_8256, i_9000, i_16384, i_32767, i_32768, i_65520, i_65521, i_65535, i_65536, i_65999, i_66000, i_1300, i_120, i_156, nI_leI, nI_ltI, nI_eq, nI_add, n_neg, not_false_eq_true, not_true_eq_false] <;> omega)) (Tt_p rfl (Tt_R2.2 (Tt_m (t_numM h hlen hM ha hpk (k := 8) (wr := 0) (by omega) (by omega) rfl rfl rfl rfl rfl) ?_)))
          rintro _ ⟨v3, p3, w3, rfl, hv3, hp3, hp3', hw3, g5, g6⟩
          dsimp only
          by_cases y : q + 32 + 8 * k + 8 ≤ M
          · obtain ⟨rfl, rfl, rfl⟩ := g5 rfl y
            refine Tt_R3.2 (Tt_m (t_makeByte hO2 hmk rfl rfl (Or.inl rfl) hv3) ?_)
            rintro ⟨_, vw4, vm4, t4⟩ ⟨g7, g8⟩
            dsimp only at g7 g8 ⊢
            refine Tt_l ?_
            rw [nI_1]
            by_cases z4 : m + k < 8192
            · obtain ⟨rfl, hO4⟩ := g7 z4
              exact ih (n - (k + 1) + 1) _ _ _ _ _ _ (by omega) ⟨rfl, Or.inr ⟨k + 1, rfl, by omega, rfl, congrArg nI (by omega), by omega, rfl, by omega, hO4⟩⟩
            · obtain ⟨rfl, _⟩ := g8 (by omega)
              exact ih 0 _ _ _ _ _ _ (by omega) ⟨rfl, Or.inl ⟨rfl, rfl, Or.inl (by omega), _, hp3', rfl⟩⟩
          · have e1 : w3 = 1 := by rcases g6 (Or.inr (by omega)) with q | q <;> omega
            subst e1
            refine Tt_R3.2 (Tt_o w_makeByte (Tt_l ?_))
            rw [nI_1]
            exact ih 0 _ _ _ _ _ _ (by omega) ⟨rfl, Or.inl ⟨rfl, rfl, Or.inr (by omega), p3, hp3', rfl⟩⟩
    · rw [if_pos w] at hR
      exact Tt_n (by rw [nI_eq (by omega) (by omega)]; exact w) (bad2 _ _ _ _ _ hp2' hR.symm)
  · have hN : R = none := by
      rw [← hR]
      by_cases w0 : wr = 0
      · rw [if_pos w0, if_pos (by omega)]
      · rw [if_neg w0]
    have e2 : w2 = 1 := by
      by_cases w0 : wr = 1 ∨ M < q + 16
      · have : w1 = 1 := by rcases g2 w0 with q | q <;> omega
        rcases g4 (Or.inl this) with q | q <;> omega
      · have := g1 (by omega) (by omega)
        rcases g4 (Or.inr (by omega)) with q | q <;> omega
    subst e2
    by_cases w : nI v2 = nI (65535 - v1)
    · exact Tt_p w (Tt_n (by decide) (bad2 _ _ _ _ _ hp2' hN))
    · exact Tt_n w (bad2 _ _ _ _ _ hp2' hN)
