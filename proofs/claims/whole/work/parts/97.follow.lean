/-! symbols followed: program and reference read the same bytes -/
def push (o : Nat → Nat) (m v : Nat) : Nat → Nat := fun i => if i = m then v else o i
def rpB (o : Nat → Nat) (m far : Nat) : Nat → Nat → Nat
  | 0 => o
  | k + 1 => push (rpB o m far k) (m + k) (rpB o m far k (m + k - far))
theorem push_b {o : Nat → Nat} {m v : Nat} (h : ∀ i, o i < 256) (hv : v < 256) : ∀ i, push o m v i < 256 := by
  intro i
  unfold push
  split
  · exact hv
  · exact h i
theorem rpB_b {o : Nat → Nat} {m far : Nat} (h : ∀ i, o i < 256) : ∀ k i, rpB o m far k i < 256 := by
  intro k
  induction k with
  | zero => exact h
  | succ k ih => exact push_b ih (ih _)
abbrev RdR := Option (Nat × Nat × (Nat → Nat))
/-- a stretch that is told again: bits from p1 on, m bytes made before -/
def rep (fD : Nat → Nat) (nD : Nat) (src : Nat → Nat) (M win p1 m : Nat) (o : Nat → Nat) (s : Nat) : RdR := if M < p1 + lex s then none else match dcd fD nD src M (p1 + lex s) with
  | none => none
  | some (d, p2) => if 29 < d ∨ M < p2 + dex d then none else if m < dbase d + num src p2 (dex d) ∨ win < dbase d + num src p2 (dex d) ∨ 8192 < m + (lbase s + num src p1 (lex s)) then none else some (p2 + dex d, m + (lbase s + num src p1 (lex s)), rpB o m (dbase d + num src p2 (dex d)) (lbase s + num src p1 (lex s)))
def flw (fS : Nat → Nat) (nS : Nat) (fD : Nat → Nat) (nD : Nat) (src : Nat → Nat) (M win : Nat) : Nat → Nat → Nat → (Nat → Nat) → RdR
  | 0, _, _, _ => none
  | k + 1, p, m, o => match dcd fS nS src M p with
    | none => none
    | some (s, p1) => if s = 256 then some (p1, m, o) else if 285 < s ∨ 8192 ≤ m then none else if s < 256 then flw fS nS fD nD src M win k p1 (m + 1) (push o m s) else match rep fD nD src M win p1 m o s with
      | none => none
      | some (p', m', o') => flw fS nS fD nD src M win k p' m' o'
theorem dcd_b {f : Nat → Nat} {n : Nat} {src : Nat → Nat} {M p s p' : Nat} (h : dcd f n src M p = some (s, p')) : s < n ∧ p < p' ∧ p' ≤ M ∧ 0 < f s := dgo_b 15 0 0 p s p' (Nat.le_refl 0) h
theorem rep_b {fD : Nat → Nat} {nD : Nat} {src : Nat → Nat} {M win p1 m s p' m' : Nat} {o o' : Nat → Nat} (ho : ∀ i, o i < 256) (h : rep fD nD src M win p1 m o s = some (p', m', o')) : p1 < p' ∧ p' ≤ M ∧ m ≤ m' ∧ m' ≤ 8192 ∧ ∀ i, o' i < 256 := by
  unfold rep at h
  by_cases z : M < p1 + lex s
  · rw [if_pos z] at h; cases h
  · rw [if_neg z] at h
    cases h2 : dcd fD nD src M (p1 + lex s) with
    | none => rw [h2] at h; cases h
    | some q =>
      obtain ⟨d, p2⟩ := q
      rw [h2] at h
      dsimp only at h
      have b := dcd_b h2
      by_cases y : 29 < d ∨ M < p2 + dex d
      · rw [if_pos y] at h; cases h
      · rw [if_neg y] at h
        by_cases w : m < dbase d + num src p2 (dex d) ∨ win < dbase d + num src p2 (dex d) ∨ 8192 < m + (lbase s + num src p1 (lex s))
        · rw [if_pos w] at h; cases h
        · rw [if_neg w] at h
          have e := Option.some.inj h
          have e1 := congrArg Prod.fst e
          have e2 := congrArg (fun z => z.2.1) e
          have e3 := congrArg (fun z => z.2.2) e
          dsimp only at e1 e2 e3
          rw [← e3]
          refine ⟨by omega, by omega, by omega, by omega, rpB_b ho _⟩
theorem flw_k {fS : Nat → Nat} {nS : Nat} {fD : Nat → Nat} {nD : Nat} {src : Nat → Nat} {M win : Nat} : ∀ N k1 k2 p m o, (∀ i, o i < 256) → M - p ≤ N → M - p < k1 → M - p < k2 → flw fS nS fD nD src M win k1 p m o = flw fS nS fD nD src M win k2 p m o := by
  intro N
  induction N with
  | zero =>
    intro k1 k2 p m o _ h1 h2 h3
    obtain ⟨j1, rfl⟩ : ∃ j, k1 = j + 1 := ⟨k1 - 1, by omega⟩
    obtain ⟨j2, rfl⟩ : ∃ j, k2 = j + 1 := ⟨k2 - 1, by omega⟩
    have e : dcd fS nS src M p = none := by
      cases h : dcd fS nS src M p with
      | none => rfl
      | some q =>
        have := dcd_b (s := q.1) (p' := q.2) h
        omega
    unfold flw
    rw [e]
  | succ N ih =>
    intro k1 k2 p m o ho h1 h2 h3
    obtain ⟨j1, rfl⟩ : ∃ j, k1 = j + 1 := ⟨k1 - 1, by omega⟩
    obtain ⟨j2, rfl⟩ : ∃ j, k2 = j + 1 := ⟨k2 - 1, by omega⟩
    unfold flw
    cases h : dcd fS nS src M p with
    | none => rfl
    | some q =>
      obtain ⟨s, p1⟩ := q
      have b1 := dcd_b h
      dsimp only
      by_cases z1 : s = 256
      · rw [if_pos z1, if_pos z1]
      · rw [if_neg z1, if_neg z1]
        by_cases z2 : 285 < s ∨ 8192 ≤ m
        · rw [if_pos z2, if_pos z2]
        · rw [if_neg z2, if_neg z2]
          by_cases z3 : s < 256
          · rw [if_pos z3, if_pos z3]
            exact ih j1 j2 p1 _ _ (push_b ho z3) (by omega) (by omega) (by omega)
          · rw [if_neg z3, if_neg z3]
            cases h4 : rep fD nD src M win p1 m o s with
            | none => rfl
            | some q2 =>
              obtain ⟨p', m', o'⟩ := q2
              have b2 := rep_b ho h4
              dsimp only
              exact ih j1 j2 p' _ _ b2.2.2.2.2 (by omega) (by omega) (by omega)
/-- the program's bytes behind a place; the reference's bytes -/
def OutC (vl : Int32) (d : Nat → Int32) (L0 m : Nat) (o : Nat → Nat) (d0 : Nat → Int32) : Prop := vl = nI (L0 + m) ∧ (∀ i, i < L0 → d i = d0 i) ∧ ∀ i, i < m → d (L0 + i) = sx (o i)
def OutM (vm : Int32) (t : Nat → Int32) (m : Nat) (o : Nat → Nat) : Prop := vm = nI m ∧ ∀ i, i < m → t i = sx (o i)
theorem t_addC {vl x : Int32} {d d0 : Nat → Int32} {L0 m v : Nat} {o : Nat → Nat} (h : OutC vl d L0 m o d0) (hL : L0 + m < 65536) (hv : v < 256) (hx : x = nI v) : Tt (Bytes_add 200000 65536 vl d x) (fun u => OutC u.2.1 u.2.2 L0 (m + 1) (push o m v) d0) := by
  obtain ⟨rfl, h1, h2⟩ := h
  subst hx
  unfold Bytes_add
  simp (disch := omega) only [Tt_L, Tt_S, Tt_C, Tt_Z, Tt_R0, Tt_R1, Tt_R2, Tt_R3, Tt_R4, Tt_R5, q10, eq_self, Nat.not_lt_zero, if_true, if_false, i_0, i_1, i_2, i_3, i_4, i_5, i_6, i_7, i_8, i_9, i_10, i_11, i_13, i_14, i_15, i_16, i_17, i_18, i_19, i_24, i_29, i_30, i_31, i_32, i_138, i_143, i_144, i_254, i_255, i_256, i_257, i_258, i_261, i_264, i_265, i_279, i_280, i_284, i_285, i_286, i_288, i_319, i_320, i_338, i_339, i_575, i_576, i_599, i_600, i_4096, i_8191, i_8192, i_8249, i_8250, i_8256, i_9000, i_16384, i_32767, i_32768, i_65520, i_65521, i_65535, i_65536, i_65999, i_66000, i_1300, i_120, i_156, nI_leI, Tt_N, nI_clamp, sx_nar, nI_add]
  rw [if_neg (by omega)]
  refine ⟨by omega, rfl, fun i hi => ?_, fun i hi => ?_⟩
  · rw [pk_un (by omega)]; exact h1 i hi
  · unfold push
    by_cases e : i = m
    · rw [e, pk_us, if_pos rfl]
    · rw [pk_un (by omega), if_neg e]; exact h2 i (by omega)
theorem t_makeByte {vr vw vm x : Int32} {t : Nat → Int32} {m v : Nat} {o : Nat → Nat} (h : OutM vm t m o) (hm : m ≤ 8192) (hr : vr = nI 8192) (hw : vw = nI 0) (hx : x = nI v ∨ x = sx v) (hv : v < 256) : Tt (M_makeByte 200000 8192 vr vw vm t x) (fun u => (m < 8192 → u.2.1 = nI 0 ∧ OutM u.2.2.1 u.2.2.2 (m + 1) (push o m v)) ∧ (8192 ≤ m → u.2.1 = nI 1 ∧ OutM u.2.2.1 u.2.2.2 m o)) := by
  obtain ⟨rfl, h1⟩ := h
  subst hr hw
  have ex : vp_nar .byte x.toInt8.toInt32 = sx v := by
    rcases hx with rfl | rfl
    · exact sx_nar v
    · have s8 : ∀ v, v < 256 → (sx v).toInt8.toInt32 = sx v := by decide +kernel
      rw [s8 v hv]
      unfold sx
      exact pk_vb (nI v)
  unfold M_makeByte M_makeByte_19 M_makeByte_24
  by_cases z : m = 8192
  · subst z
    simp (disch := omega) only [Tt_L, Tt_S, Tt_C, Tt_Z, Tt_R0, Tt_R1, Tt_R2, Tt_R3, Tt_R4, Tt_R5, q10, eq_self, Nat.not_lt_zero, if_true, if_false, i_0, i_1, i_2, i_3, i_4, i_5, i_6, i_7, i_8, i_9, i_10, i_11, i_13, i_14, i_15, i_16, i_17, i_18, i_19, i_24, i_29, i_30, i_31, i_32, i_138, i_143, i_144, i_254, i_255, i_256, i_257, i_258, i_261, i_264, i_265, i_279, i_280, i_284, i_285, i_286, i_288, i_319, i_320, i_338, i_339, i_575, i_576, i_599, i_600, i_4096, i_8191, i_8192, i_8249, i_8250, i_8256, i_9000, i_16384, i_32767, i_32768, i_65520, i_65521, i_65535, i_65536, i_65999, i_66000, i_1300, i_120, i_156, nI_eq]
    exact ⟨Or.inr trivial, fun q => by omega, fun _ => ⟨trivial, rfl, h1⟩⟩
  · simp (disch := omega) only [Tt_L, Tt_S, Tt_C, Tt_Z, Tt_R0, Tt_R1, Tt_R2, Tt_R3, Tt_R4, Tt_R5, q10, eq_self, Nat.not_lt_zero, if_true, if_false, i_0, i_1, i_2, i_3, i_4, i_5, i_6, i_7, i_8, i_9, i_10, i_11, i_13, i_14, i_15, i_16, i_17, i_18, i_19, i_24, i_29, i_30, i_31, i_32, i_138, i_143, i_144, i_254, i_255, i_256, i_257, i_258, i_261, i_264, i_265, i_279, i_280, i_284, i_285, i_286, i_288, i_319, i_320, i_338, i_339, i_575, i_576, i_599, i_600, i_4096, i_8191, i_8192, i_8249, i_8250, i_8256, i_9000, i_16384, i_32767, i_32768, i_65520, i_65521, i_65535, i_65536, i_65999, i_66000, i_1300, i_120, i_156, nI_eq, Tt_N, nI_clamp, nI_add, ex]
    rw [if_neg z]
    refine ⟨Or.inl trivial, by omega, fun _ => ⟨trivial, rfl, fun i hi => ?_⟩, fun q => by omega⟩
    unfold push
    by_cases e : i = m
    · rw [e, pk_us, if_pos rfl]
    · rw [pk_un e, if_neg e]; exact h1 i (by omega)
/-! the program -/
theorem t_repeatC {c counts syms d d0 : Nat → Int32} {bi fD o : Nat → Nat} {len a M p1 nD ND L0 m win s : Nat} {vs vf ve vl va vo x1 : Int32} (h : Row c 0 len bi) (hlen : len ≤ 66000) (hM : M ≤ 8 * (len - a)) (ha : a ≤ len) (hp : p1 ≤ M) (hnD : nD ≤ ND) (hND : ND ≤ 288) (hfD : ∀ i, i < nD → fD i ≤ 15) (hT : TabOK counts syms fD nD) (hK : krs fD nD 15 ≤ 32768) (hO : OutC vo d L0 m o d0) (ho : ∀ i, o i < 256) (hL : L0 + 8192 ≤ 65536) (hm : m ≤ 8192) (hw : win ≤ 32768) (hs1 : 257 ≤ s) (hs2 : s ≤ 285) (e1 : vs = nI L0) (e2 : vf = nI win) (e3 : ve = nI (8 * a + M)) (e4 : vl = nI len) (e5 : va = nI (8 * a + p1)) (e6 : x1 = nI s) : Tt (Unpacker_repeatBytes 200000 66000 ND 65536 vs vf ve vl c counts syms va vo d x1) (fun u => (∀ p' m' o', rep fD nD (sB bi a) M win p1 m o s = some (p', m', o') → u.1 = nI 1 ∧ u.2.1 = nI (8 * a + p') ∧ OutC u.2.2.1 u.2.2.2 L0 m' o' d0) ∧ (rep fD nD (sB bi a) M win p1 m o s = none → u.1 = nI 0 ∧ u.2.2.1 = vo)) := by
  subst e1 e2 e3 e4 e5 e6
  have yx := y_lex s (by omega) hs1
  have yb := y_lbase s (by omega) hs1
  have nb := num_lt (sB_lt bi a) p1 (lex s)
  have nb2 : 2 ^ lex s ≤ 2 ^ 5 := Nat.pow_le_pow_right (by omega) yx.2.2
  unfold Unpacker_repeatBytes
  simp only [Tt_R0, Tt_R1, Tt_S, yx.2.1]
  refine Tt_m (t_numC h hlen hM ha hp (k := lex s) (by omega) rfl rfl rfl rfl) ?_
  rintro ⟨r3, va2⟩ hu
  dsimp only at hu ⊢
  unfold rep
  by_cases z : p1 + lex s ≤ M
  · rw [if_pos z] at hu
    obtain ⟨rfl, rfl⟩ := hu
    rw [if_neg (by omega)]
    refine Tt_m (t_symC h hlen hM ha z hnD hND hfD hT hK rfl rfl rfl) ?_
    rintro ⟨r5, va3⟩ ⟨g1, g2⟩
    dsimp only at g1 g2 ⊢
    cases hd : dcd fD nD (sB bi a) M (p1 + lex s) with
    | none =>
      obtain ⟨p', q1, q2, q3⟩ := g2 hd
      obtain ⟨rfl, rfl⟩ : r5 = -1 ∧ va3 = nI (8 * a + p') := ⟨congrArg Prod.fst q3, congrArg Prod.snd q3⟩
      simp (disch := omega) only [Tt_C, Tt_S, i_0, n_neg, Nat.not_lt_zero, if_false]
      rw [if_pos (by decide)]
      exact ⟨(fun p' m' o' q => by cases q), (fun _ => ⟨trivial, trivial⟩)⟩
    | some q =>
      obtain ⟨d', p2⟩ := q
      have q3 := g1 d' p2 hd
      obtain ⟨rfl, rfl⟩ : r5 = nI d' ∧ va3 = nI (8 * a + p2) := ⟨congrArg Prod.fst q3, congrArg Prod.snd q3⟩
      have db := dcd_b hd
      dsimp only
      simp (disch := omega) only [Tt_C, Tt_S, i_0, i_1, i_2, i_3, i_4, i_5, i_6, i_7, i_8, i_9, i_10, i_11, i_13, i_14, i_15, i_16, i_17, i_18, i_19, i_24, i_29, i_30, i_31, i_32, i_138, i_143, i_144, i_254, i_255, i_256, i_257, i_258, i_261, i_264, i_265, i_279, i_280, i_284, i_285, i_286, i_288, i_319, i_320, i_338, i_339, i_575, i_576, i_599, i_600, i_4096, i_8191, i_8192, i_8249, i_8250, i_8256, i_9000, i_16384, i_32767, i_32768, i_65520, i_65521, i_65535, i_65536, i_65999, i_66000, i_1300, i_120, i_156, n_neg, Nat.not_lt_zero, if_false, nI_leI]
      by_cases y : d' ≤ 29
      · have ye := y_dex d' (by omega)
        have ydb := y_dbase d' (by omega)
        have nc := num_lt (sB_lt bi a) p2 (dex d')
        have nc2 : 2 ^ dex d' ≤ 2 ^ 13 := Nat.pow_le_pow_right (by omega) ye.2.2
        rw [if_pos y]
        have hvo := hO.1
        have fail : ∀ (va x6 x7 : Int32), Tt (Unpacker_repeatBytes_99 200000 65536 (nI L0) va vo d x6 x7) (fun u => u.1 = nI 0 ∧ u.2.2.1 = vo) := by
          intro va x6 x7
          unfold Unpacker_repeatBytes_99 Unpacker_repeatBytes_100
          rw [Tt_C, if_pos rfl, Tt_S]
          exact ⟨rfl, rfl⟩
        have em : Unpacker_made 200000 (nI L0) vo = some (nI m, ()) := by
          unfold Unpacker_made Bytes_length
          show some (vo - nI L0, ()) = _
          rw [hvo, pk_sub (by omega), show L0 + m - L0 = m by omega]
        simp only [Tt_R0, Tt_R1, Tt_S, Tt_L, ye.2.1, yb.2.1, ydb.2.1, em]
        refine Tt_m (t_numC h hlen hM ha db.2.2.1 (k := dex d') (by omega) rfl rfl rfl rfl) ?_
        rintro ⟨r16, va4⟩ hu2
        dsimp only at hu2 ⊢
        by_cases w : p2 + dex d' ≤ M
        · rw [if_pos w] at hu2
          obtain ⟨rfl, rfl⟩ := hu2
          rw [if_neg (show ¬ (29 < d' ∨ M < p2 + dex d') by omega)]
          rw [nI_add, nI_add, Tt_C, if_neg (show ¬ (nI (num (sB bi a) p2 (dex d')) < nI 0) from nI_pos (by omega)), Tt_R0, Tt_S, Tt_C]
          by_cases q1 : m < dbase d' + num (sB bi a) p2 (dex d')
          · rw [if_pos (by rw [nI_ltI (by omega) (by omega)]; exact q1)]
            refine Tt_m (fail _ _ _) ?_
            intro u hu3
            rw [if_pos (show m < dbase d' + num (sB bi a) p2 (dex d') ∨ win < dbase d' + num (sB bi a) p2 (dex d') ∨ 8192 < m + (lbase s + num (sB bi a) p1 (lex s)) from Or.inl q1)]
            exact ⟨(fun p' m' o' q => by cases q), (fun _ => hu3)⟩
          · rw [if_neg (by rw [nI_ltI (by omega) (by omega)]; exact q1), Tt_C]
            by_cases q2 : win < dbase d' + num (sB bi a) p2 (dex d')
            · rw [if_pos (by rw [nI_ltI (by omega) (by omega)]; exact q2)]
              refine Tt_m (fail _ _ _) ?_
              intro u hu3
              rw [if_pos (show m < dbase d' + num (sB bi a) p2 (dex d') ∨ win < dbase d' + num (sB bi a) p2 (dex d') ∨ 8192 < m + (lbase s + num (sB bi a) p1 (lex s)) from Or.inr (Or.inl q2))]
              exact ⟨(fun p' m' o' q => by cases q), (fun _ => hu3)⟩
            · rw [if_neg (by rw [nI_ltI (by omega) (by omega)]; exact q2)]
              unfold Unpacker_repeatBytes_100
              rw [Tt_C, if_neg (show ¬ (nI 1 = 0) by decide), em, Tt_R0, Tt_S, i_8192, pk_sub (by omega), Tt_C]
              by_cases q3 : 8192 < m + (lbase s + num (sB bi a) p1 (lex s))
              · rw [if_neg (by rw [nI_leI (by omega) (by omega)]; omega), Tt_S, if_pos (show m < dbase d' + num (sB bi a) p2 (dex d') ∨ win < dbase d' + num (sB bi a) p2 (dex d') ∨ 8192 < m + (lbase s + num (sB bi a) p1 (lex s)) from Or.inr (Or.inr q3))]
                exact ⟨(fun p' m' o' q => by cases q), (fun _ => ⟨rfl, rfl⟩)⟩
              · rw [if_pos (by rw [nI_leI (by omega) (by omega)]; omega), if_neg (show ¬ (m < dbase d' + num (sB bi a) p2 (dex d') ∨ win < dbase d' + num (sB bi a) p2 (dex d') ∨ 8192 < m + (lbase s + num (sB bi a) p1 (lex s))) by omega)]
                have f1 : 1 ≤ dbase d' + num (sB bi a) p2 (dex d') := by have := ydb.2.2.1; omega
                generalize dbase d' + num (sB bi a) p2 (dex d') = far at *
                generalize lbase s + num (sB bi a) p1 (lex s) = nn at *
                refine Tt_m (P := fun u => u.1 = nI 1 ∧ u.2.1 = nI (8 * a + (p2 + dex d')) ∧ OutC u.2.2.1 u.2.2.2 L0 (m + nn) (rpB o m far nn) d0) ?_ ?_
                · refine Tt_W6 (fun mm va vo d x6 x7 x9 => va = nI (8 * a + (p2 + dex d')) ∧ x6 = nI nn ∧ x7 = nI far ∧ ∃ k, x9 = nI k ∧ k ≤ nn ∧ mm = nn - k ∧ OutC vo d L0 (m + k) (rpB o m far k) d0) ?_ 200000 nn _ _ _ _ _ _ (by omega) ⟨rfl, rfl, rfl, 0, rfl, by omega, rfl, hO⟩
                  rintro K mm va vo d x6 x7 x9 ⟨rfl, rfl, rfl, k, rfl, hk, rfl, hO2⟩ ih
                  unfold Unpacker_repeatBytes_125 Bytes_length
                  by_cases v : nn ≤ k
                  · simp (disch := omega) only [Tt_C, Tt_S, nI_leI]
                    have ek : k = nn := by omega
                    subst ek
                    rw [if_pos v]
                    exact ⟨rfl, trivial, hO2⟩
                  · obtain ⟨hv1, hv2, hv3⟩ := hO2
                    subst hv1
                    have rb0 := @rpB_b o m far ho k
                    have et : nI (L0 + (m + k)) - nI far = nI (L0 + (m + k - far)) := by
                      rw [pk_sub (by omega)]
                      exact congrArg nI (by omega)
                    have g0 : Bytes_at 200000 65536 (nI (L0 + (m + k))) d (nI (L0 + (m + k - far))) = some (nI (rpB o m far k (m + k - far)), ()) := by
                      unfold Bytes_at mC mG
                      rw [if_neg (nI_pos (by omega)), if_neg (by rw [nI_leI (by omega) (by omega)]; omega), if_neg (nI_in (by omega) (by omega)), nI_clamp (by omega), hv3 (m + k - far) (by omega)]
                      show some (sx _ &&& nI 255, ()) = _
                      rw [sx_k _ (rb0 _)]
                    simp (disch := omega) only [Tt_C, Tt_R0, Tt_R2, Tt_S, Tt_L, nI_leI, et, g0]
                    rw [if_neg v]
                    refine Tt_m (t_addC (m := m + k) ⟨rfl, hv2, hv3⟩ (by omega) (rb0 (m + k - far)) rfl) ?_
                    rintro ⟨_, vo2, d2⟩ hO3
                    simp only [nI_1]
                    exact ih (nn - (k + 1)) _ _ _ _ _ _ (by omega) ⟨rfl, rfl, rfl, k + 1, rfl, by omega, rfl, hO3⟩
                · rintro ⟨r, va9, vo9, d9⟩ ⟨k1, k2, k3⟩
                  refine ⟨fun p' m' o' q => ?_, (fun q => by cases q)⟩
                  have e := Option.some.inj q
                  have e1 := congrArg Prod.fst e
                  have e2 := congrArg (fun z => z.2.1) e
                  have e3 := congrArg (fun z => z.2.2) e
                  dsimp only at e1 e2 e3
                  rw [← e1, ← e2, ← e3]
                  exact ⟨k1, k2, k3⟩
        · rw [if_neg w] at hu2
          obtain ⟨rfl, rfl⟩ := hu2
          rw [if_pos (show 29 < d' ∨ M < p2 + dex d' from Or.inr (by omega)), Tt_C, if_pos (by decide)]
          refine Tt_m (fail _ _ _) ?_
          intro u hu3
          exact ⟨(fun p' m' o' q => by cases q), (fun _ => hu3)⟩
      · rw [if_neg y, if_pos (Or.inl (by omega))]
        exact ⟨(fun p' m' o' q => by cases q), (fun _ => ⟨trivial, trivial⟩)⟩
  · rw [if_neg z] at hu
    obtain ⟨rfl, rfl⟩ := hu
    rw [if_pos (by omega)]
    refine Tt_m (t_symC h hlen hM ha hp hnD hND hfD hT hK rfl rfl rfl) ?_
    rintro ⟨r5, va3⟩ _
    simp only [Tt_C, Tt_S]
    rw [if_pos (by decide)]
    exact ⟨(fun p' m' o' q => by cases q), (fun _ => ⟨rfl, trivial⟩)⟩
