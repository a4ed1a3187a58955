/-! codes that are told: lengths read -/
instance (f : Nat → Nat) (n mb : Nat) : Decidable (gd f n mb) := by
  unfold gd
  infer_instance
def zx (g : Nat → Nat) (a n i : Nat) : Nat := if i < n then g (a + i) else 0
theorem zx_i {g : Nat → Nat} {a n i : Nat} (h : i < n) : zx g a n i = g (a + i) := if_pos h
theorem zx_0 {g : Nat → Nat} {a n i : Nat} (h : n ≤ i) : zx g a n i = 0 := if_neg (by omega)
theorem zx_b {g : Nat → Nat} {a n : Nat} (h : ∀ j, g j ≤ 15) (i : Nat) : zx g a n i ≤ 15 := by
  unfold zx
  split
  · exact h _
  · omega
theorem cn_z {f : Nat → Nat} {n N l : Nat} (h : n ≤ N) (hz : ∀ i, n ≤ i → f i = 0) (hl : 0 < l) : cn f l N = cn f l n := cn_ext h (fun _ _ => rfl) (fun i h1 _ => by rw [hz i h1]; omega)
theorem lv_z {f : Nat → Nat} {n N : Nat} (h : n ≤ N) (hz : ∀ i, n ≤ i → f i = 0) : ∀ l, lv f N l = lv f n l := by
  intro l
  induction l with
  | zero => rfl
  | succ l ih =>
    show lv f N l + (if l = 0 then 0 else cn f l N) = lv f n l + (if l = 0 then 0 else cn f l n)
    rw [ih]
    by_cases e : l = 0
    · rw [if_pos e, if_pos e]
    · rw [if_neg e, if_neg e, cn_z h hz (by omega)]
theorem krs_z {f : Nat → Nat} {n N : Nat} (h : n ≤ N) (hz : ∀ i, n ≤ i → f i = 0) : ∀ l, krs f N l = krs f n l := by
  intro l
  induction l with
  | zero => rfl
  | succ l ih =>
    show krs f N l + cn f (l + 1) N * 2 ^ (14 - l) = krs f n l + cn f (l + 1) n * 2 ^ (14 - l)
    rw [ih, cn_z h hz (by omega)]
theorem gd_z {f : Nat → Nat} {n N mb : Nat} (h : n ≤ N) (hz : ∀ i, n ≤ i → f i = 0) (hf : ∀ i, f i ≤ 15) : gd f N mb ↔ gd f n mb := by
  have e1 := cn_all N (fun i _ => hf i)
  have e2 := cn_all n (fun i _ => hf i)
  have e3 := lv_z h hz 16
  have e4 : N - cn f 0 N = n - cn f 0 n := by omega
  unfold gd
  rw [krs_z h hz 15, e4, cn_z h hz (l := 1) (by omega)]
theorem TabOK_z {c y : Nat → Int32} {f : Nat → Nat} {n N : Nat} (h : n ≤ N) (hz : ∀ i, n ≤ i → f i = 0) (hT : TabOK c y f n) : TabOK c y f N := by
  refine ⟨fun l h1 h2 => ?_, fun s hs h0 => ?_⟩
  · rw [cn_z h hz (by omega)]
    exact hT.1 l h1 h2
  · rw [lv_z h hz]
    refine hT.2 s ?_ h0
    by_cases e : n ≤ s
    · have := hz s e
      omega
    · omega
theorem ord_inj : ∀ i, i < 19 → ∀ j, j < 19 → ord i = ord j → i = j := by decide +kernel
theorem ord_on : ∀ s, s < 19 → ∃ j : Fin 19, ord j.1 = s := by decide +kernel
def fcl (src : Nat → Nat) (q : Nat) : Nat → Nat → Nat
  | 0, _ => 0
  | k + 1, s => if s = ord k then num src (q + 3 * k) 3 else fcl src q k s
theorem fcl_b {src : Nat → Nat} (hs : ∀ i, src i < 2) (q : Nat) : ∀ k s, fcl src q k s ≤ 15 := by
  intro k
  induction k with
  | zero => intro s; exact Nat.zero_le _
  | succ k ih =>
    intro s
    show (if s = ord k then num src (q + 3 * k) 3 else fcl src q k s) ≤ 15
    have h := num_lt hs (q + 3 * k) 3
    split
    · omega
    · exact ih s
theorem fcl_o {src : Nat → Nat} {q j : Nat} (hj : j < 19) : ∀ k, k ≤ 19 → fcl src q k (ord j) = if j < k then num src (q + 3 * j) 3 else 0 := by
  intro k
  induction k with
  | zero => intro _; rfl
  | succ k ih =>
    intro hk
    show (if ord j = ord k then num src (q + 3 * k) 3 else fcl src q k (ord j)) = _
    by_cases e : ord j = ord k
    · have := ord_inj j hj k (by omega) e
      subst this
      rw [if_pos rfl, if_pos (by omega)]
    · have : j ≠ k := fun g => e (by rw [g])
      rw [if_neg e, ih (by omega)]
      by_cases w : j < k
      · rw [if_pos w, if_pos (by omega)]
      · rw [if_neg w, if_neg (by omega)]
def rpL (g : Nat → Nat) (i v r j : Nat) : Nat := if i ≤ j ∧ j < i + r then v else g j
def rvl (g : Nat → Nat) (i s : Nat) : Nat := if s < 16 then s else if s = 16 then g (i - 1) else 0
theorem rpL_b {g : Nat → Nat} {i v r : Nat} (hg : ∀ j, g j ≤ 15) (hv : v ≤ 15) (j : Nat) : rpL g i v r j ≤ 15 := by
  unfold rpL
  split
  · exact hv
  · exact hg j
theorem rvl_b {g : Nat → Nat} {i s : Nat} (hg : ∀ j, g j ≤ 15) : rvl g i s ≤ 15 := by
  unfold rvl
  split
  · omega
  · split
    · exact hg _
    · omega
theorem rb_b (s : Nat) : 1 ≤ rb s ∧ rb s ≤ 11 := by
  unfold rb
  split
  · omega
  · split <;> omega
abbrev LnR := Option (Nat × (Nat → Nat))
def rdl (f : Nat → Nat) (src : Nat → Nat) (M T : Nat) : Nat → Nat → Nat → (Nat → Nat) → LnR
  | 0, _, _, _ => none
  | k + 1, p, i, g => if T ≤ i then some (p, g) else match dcd f 19 src M p with
    | none => none
    | some (s, p1) => if M < p1 + rex s ∨ (s = 16 ∧ i = 0) ∨ T < i + (rb s + num src p1 (rex s)) then none else rdl f src M T k (p1 + rex s) (i + (rb s + num src p1 (rex s))) (rpL g i (rvl g i s) (rb s + num src p1 (rex s)))
theorem rdl_b {f : Nat → Nat} {src : Nat → Nat} {M T : Nat} : ∀ k p i g p' g', p ≤ M → (∀ j, g j ≤ 15) → rdl f src M T k p i g = some (p', g') → p ≤ p' ∧ p' ≤ M ∧ ∀ j, g' j ≤ 15 := by
  intro k
  induction k with
  | zero => intro p i g p' g' _ _ h; cases h
  | succ k ih =>
    intro p i g p' g' hp hg h
    unfold rdl at h
    by_cases z : T ≤ i
    · rw [if_pos z] at h
      cases h
      exact ⟨Nat.le_refl _, hp, hg⟩
    · rw [if_neg z] at h
      cases hd : dcd f 19 src M p with
      | none => rw [hd] at h; cases h
      | some q =>
        obtain ⟨s, p1⟩ := q
        rw [hd] at h
        dsimp only at h
        have db := dcd_b hd
        by_cases y : M < p1 + rex s ∨ (s = 16 ∧ i = 0) ∨ T < i + (rb s + num src p1 (rex s))
        · rw [if_pos y] at h; cases h
        · rw [if_neg y] at h
          have g := ih _ _ _ _ _ (by omega) (rpL_b hg (rvl_b hg)) h
          exact ⟨by omega, g.2⟩
abbrev MkR := Option (Nat × (Nat → Nat) × (Nat → Nat))
def mkc2 (hl hd : Nat) (r : LnR) : MkR := match r with
  | none => none
  | some (p, g) => if g 256 = 0 ∨ ¬ gd (zx g 0 hl) 288 0 ∨ ¬ gd (zx g hl hd) 32 1 then none else some (p, zx g 0 hl, zx g hl hd)
def mkc (src : Nat → Nat) (M p : Nat) : MkR := if M < p + 14 ∨ 29 < num src p 5 ∨ 29 < num src (p + 5) 5 then none else if M < p + 14 + 3 * (num src (p + 10) 4 + 4) ∨ ¬ gd (fcl src (p + 14) (num src (p + 10) 4 + 4)) 19 0 then none else mkc2 (num src p 5 + 257) (num src (p + 5) 5 + 1) (rdl (fcl src (p + 14) (num src (p + 10) 4 + 4)) src M (num src p 5 + 257 + (num src (p + 5) 5 + 1)) 400 (p + 14 + 3 * (num src (p + 10) 4 + 4)) 0 (fun _ => 0))
theorem mkc_b {src : Nat → Nat} {M p p' : Nat} {fS fD : Nat → Nat} (h : mkc src M p = some (p', fS, fD)) : p ≤ p' ∧ p' ≤ M ∧ LenOK fS fD := by
  unfold mkc at h
  by_cases z1 : M < p + 14 ∨ 29 < num src p 5 ∨ 29 < num src (p + 5) 5
  · rw [if_pos z1] at h; cases h
  · rw [if_neg z1] at h
    by_cases z2 : M < p + 14 + 3 * (num src (p + 10) 4 + 4) ∨ ¬ gd (fcl src (p + 14) (num src (p + 10) 4 + 4)) 19 0
    · rw [if_pos z2] at h; cases h
    · rw [if_neg z2] at h
      cases hr : rdl (fcl src (p + 14) (num src (p + 10) 4 + 4)) src M (num src p 5 + 257 + (num src (p + 5) 5 + 1)) 400 (p + 14 + 3 * (num src (p + 10) 4 + 4)) 0 (fun _ => 0) with
      | none => rw [hr] at h; cases h
      | some q =>
        obtain ⟨q1, g⟩ := q
        rw [hr] at h
        unfold mkc2 at h
        dsimp only at h
        have b := rdl_b _ _ _ _ _ _ (by omega) (fun _ => Nat.zero_le _) hr
        by_cases z3 : g 256 = 0 ∨ ¬ gd (zx g 0 (num src p 5 + 257)) 288 0 ∨ ¬ gd (zx g (num src p 5 + 257) (num src (p + 5) 5 + 1)) 32 1
        · rw [if_pos z3] at h; cases h
        · rw [if_neg z3] at h
          have e := Option.some.inj h
          obtain ⟨rfl, rfl, rfl⟩ : q1 = p' ∧ zx g 0 (num src p 5 + 257) = fS ∧ zx g (num src p 5 + 257) (num src (p + 5) 5 + 1) = fD := ⟨congrArg Prod.fst e, congrArg (fun z => z.2.1) e, congrArg (fun z => z.2.2) e⟩
          have w1 : gd (zx g 0 (num src p 5 + 257)) 288 0 := Decidable.byContradiction (fun k => z3 (Or.inr (Or.inl k)))
          have w2 : gd (zx g (num src p 5 + 257) (num src (p + 5) 5 + 1)) 32 1 := Decidable.byContradiction (fun k => z3 (Or.inr (Or.inr k)))
          exact ⟨by omega, b.2.1, fun i _ => zx_b b.2.2 i, fun i _ => zx_b b.2.2 i, gd_k (fun i _ => zx_b b.2.2 i) w1, gd_k (fun i _ => zx_b b.2.2 i) w2⟩
/-! the program reads codes -/
theorem t_set {K : (Nat → Int32) → Int32 → Int32 → Option (Int32 × (Nat → Int32) × Int32)} {cl : Nat → Int32} {va x6 : Int32} {i r : Nat} {Q : Int32 × (Nat → Int32) × Int32 → Prop} (h : i + r ≤ 320) (hK : ∀ cl', (∀ j, cl' j = if i ≤ j ∧ j < i + r then x6 else cl j) → Tt (K cl' va (nI (i + r))) Q) : Tt (mW5 (Unpacker_readLengths_117 200000 (Unpacker_readLengths_137 200000 K)) 200000 cl va (nI i) x6 (nI (i + r))) Q := by
  refine Tt_W5 (fun mm c' va' x2 y6 x7 => va' = va ∧ y6 = x6 ∧ x7 = nI (i + r) ∧ ∃ d, d ≤ r ∧ x2 = nI (i + d) ∧ mm = r - d ∧ ∀ j, c' j = if i ≤ j ∧ j < i + d then x6 else cl j) ?_ 200000 r _ _ _ _ _ (by omega) ⟨rfl, rfl, rfl, 0, by omega, rfl, rfl, fun j => by rw [if_neg (by omega)]⟩
  rintro KK mm c' va' x2 y6 x7 ⟨rfl, rfl, rfl, d, hd, rfl, rfl, hc⟩ ih
  unfold Unpacker_readLengths_117
  by_cases z : r ≤ d
  · have e : d = r := by omega
    subst e
    refine Tt_p (by first | decide | (simp (disch := omega) only [i_0, i_1, i_2, i_3, i_4, i_5, i_6, i_7, i_8, i_9, i_10, i_11, i_13, i_14, i_15, i_16, i_17, i_18, i_19, i_24, i_29, i_30, i_31, i_32, i_138, i_143, i_144, i_254, i_255, i_256, i_257, i_258, i_261, i_264, i_265, i_279, i_280, i_284, i_285, i_286, i_288, i_319, i_320, i_338, i_339, i_575, i_576, i_599, i_600, i_4096, i_8191, i_8192, i_8249, i_8250, i_8256, i_9000, i_16384, i_32767, i_32768, i_65520, i_65521, i_65535, i_65536, i_65999, i_66000, i_1300, i_120, i_156, nI_leI, nI_ltI, nI_eq, nI_add, n_neg, not_false_eq_true, not_true_eq_false] <;> omega)) ?_
    unfold Unpacker_readLengths_137
    exact hK _ hc
  · refine Tt_n (by first | decide | (simp (disch := omega) only [i_0, i_1, i_2, i_3, i_4, i_5, i_6, i_7, i_8, i_9, i_10, i_11, i_13, i_14, i_15, i_16, i_17, i_18, i_19, i_24, i_29, i_30, i_31, i_32, i_138, i_143, i_144, i_254, i_255, i_256, i_257, i_258, i_261, i_264, i_265, i_279, i_280, i_284, i_285, i_286, i_288, i_319, i_320, i_338, i_339, i_575, i_576, i_599, i_600, i_4096, i_8191, i_8192, i_8249, i_8250, i_8256, i_9000, i_16384, i_32767, i_32768, i_65520, i_65521, i_65535, i_65536, i_65999, i_66000, i_1300, i_120, i_156, nI_leI, nI_ltI, nI_eq, nI_add, n_neg, not_false_eq_true, not_true_eq_false] <;> omega)) (Tt_g (by omega) (by omega) (Tt_l (Tt_l ?_)))
    rw [nI_1, nI_clamp (by omega)]
    refine ih (r - (d + 1)) _ _ _ _ _ (by omega) ⟨rfl, rfl, rfl, d + 1, by omega, rfl, rfl, fun j => ?_⟩
    by_cases e : j = i + d
    · rw [e, pk_us, if_pos (by omega)]
    · rw [pk_un e, hc j]
      by_cases y : i ≤ j ∧ j < i + d
      · rw [if_pos y, if_pos (by omega)]
      · rw [if_neg y, if_neg (by omega)]
def PL (a T : Nat) (R : LnR) (r va : Int32) (cl : Nat → Int32) : Prop := match R with
  | none => r = nI 0
  | some (p', g') => r = nI 1 ∧ va = nI (8 * a + p') ∧ ∀ j, j < T → cl j = nI (g' j)
theorem y_rexm : P_repeatExtra 200000 (-1) = some (nI 0, ()) := by decide +kernel
theorem t_readLen {c cS yS cl : Nat → Int32} {bi f g : Nat → Nat} {len a M p T N1 : Nat} {R : LnR} {ve vl va x1 : Int32} (hs : Src c len bi a M) (hp : p ≤ M) (hf : ∀ i, i < 19 → f i ≤ 15) (hK : krs f 19 15 ≤ 32768) (hT : TabOK cS yS f 19) (hN : 19 ≤ N1) (hN' : N1 ≤ 288) (hT0 : T ≤ 320) (hg : ∀ j, g j ≤ 15) (e1 : ve = nI (8 * a + M)) (e2 : vl = nI len) (e3 : va = nI (8 * a + p)) (e4 : x1 = nI T) (hR : rdl f (sB bi a) M T 400 p 0 g = R) : Tt (Unpacker_readLengths 200000 66000 N1 ve vl c cS yS cl va x1) (fun u => PL a T R u.1 u.2.2 u.2.1) := by
  subst e1 e2 e3 e4
  obtain ⟨h, hlen, hM, ha⟩ := hs
  unfold Unpacker_readLengths
  refine Tt_W3 (fun mm cl va x2 => ∃ p i g k, va = nI (8 * a + p) ∧ p ≤ M ∧ x2 = nI i ∧ i ≤ T ∧ (∀ j, g j ≤ 15) ∧ (∀ j, j < i → cl j = nI (g j)) ∧ T - i < k ∧ mm = T - i ∧ rdl f (sB bi a) M T k p i g = R) ?_ 200000 T _ _ _ (by omega) ⟨p, 0, g, 400, rfl, hp, rfl, by omega, hg, (fun j hj => absurd hj (by omega)), by omega, by omega, hR⟩
  rintro K mm cl va x2 ⟨p, i, g, k, rfl, hp, rfl, hi, hg, hc, hk, rfl, hR⟩ ih
  obtain ⟨k', rfl⟩ : ∃ k', k = k' + 1 := ⟨k - 1, by omega⟩
  unfold rdl at hR
  unfold Unpacker_readLengths_2
  by_cases z : T ≤ i
  · have e : i = T := by omega
    subst e
    rw [if_pos (Nat.le_refl _)] at hR
    subst hR
    exact Tt_p (by first | decide | (simp (disch := omega) only [i_0, i_1, i_2, i_3, i_4, i_5, i_6, i_7, i_8, i_9, i_10, i_11, i_13, i_14, i_15, i_16, i_17, i_18, i_19, i_24, i_29, i_30, i_31, i_32, i_138, i_143, i_144, i_254, i_255, i_256, i_257, i_258, i_261, i_264, i_265, i_279, i_280, i_284, i_285, i_286, i_288, i_319, i_320, i_338, i_339, i_575, i_576, i_599, i_600, i_4096, i_8191, i_8192, i_8249, i_8250, i_8256, i_9000, i_16384, i_32767, i_32768, i_65520, i_65521, i_65535, i_65536, i_65999, i_66000, i_1300, i_120, i_156, nI_leI, nI_ltI, nI_eq, nI_add, n_neg, not_false_eq_true, not_true_eq_false] <;> omega)) (Tt_Si ⟨rfl, rfl, hc⟩)
  · rw [if_neg z] at hR
    refine Tt_n (by first | decide | (simp (disch := omega) only [i_0, i_1, i_2, i_3, i_4, i_5, i_6, i_7, i_8, i_9, i_10, i_11, i_13, i_14, i_15, i_16, i_17, i_18, i_19, i_24, i_29, i_30, i_31, i_32, i_138, i_143, i_144, i_254, i_255, i_256, i_257, i_258, i_261, i_264, i_265, i_279, i_280, i_284, i_285, i_286, i_288, i_319, i_320, i_338, i_339, i_575, i_576, i_599, i_600, i_4096, i_8191, i_8192, i_8249, i_8250, i_8256, i_9000, i_16384, i_32767, i_32768, i_65520, i_65521, i_65535, i_65536, i_65999, i_66000, i_1300, i_120, i_156, nI_leI, nI_ltI, nI_eq, nI_add, n_neg, not_false_eq_true, not_true_eq_false] <;> omega)) (Tt_n (by first | decide | (simp (disch := omega) only [i_0, i_1, i_2, i_3, i_4, i_5, i_6, i_7, i_8, i_9, i_10, i_11, i_13, i_14, i_15, i_16, i_17, i_18, i_19, i_24, i_29, i_30, i_31, i_32, i_138, i_143, i_144, i_254, i_255, i_256, i_257, i_258, i_261, i_264, i_265, i_279, i_280, i_284, i_285, i_286, i_288, i_319, i_320, i_338, i_339, i_575, i_576, i_599, i_600, i_4096, i_8191, i_8192, i_8249, i_8250, i_8256, i_9000, i_16384, i_32767, i_32768, i_65520, i_65521, i_65535, i_65536, i_65999, i_66000, i_1300, i_120, i_156, nI_leI, nI_ltI, nI_eq, nI_add, n_neg, not_false_eq_true, not_true_eq_false] <;> omega)) (Tt_R1.2 (Tt_m (t_symC h hlen hM ha hp hN hN' hf hT hK rfl rfl rfl) ?_)))
    rintro ⟨r2, va2⟩ ⟨g1, g2⟩
    dsimp only at g1 g2 ⊢
    cases hd : dcd f 19 (sB bi a) M p with
    | none =>
      obtain ⟨p', q1, q2, q3⟩ := g2 hd
      obtain ⟨rfl, rfl⟩ : r2 = -1 ∧ va2 = nI (8 * a + p') := ⟨congrArg Prod.fst q3, congrArg Prod.snd q3⟩
      rw [hd] at hR
      dsimp only at hR
      subst hR
      refine Tt_R0.2 (Tt_o y_rexm ?_)
      dsimp only
      refine Tt_R1.2 (Tt_m (t_numC h hlen hM ha q2 (k := 0) (by omega) rfl rfl rfl rfl) ?_)
      rintro ⟨r5, va4⟩ _
      dsimp only
      exact Tt_p (by decide) (Tt_Si rfl)
    | some q =>
      obtain ⟨s, p1⟩ := q
      have q3 := g1 s p1 hd
      obtain ⟨rfl, rfl⟩ : r2 = nI s ∧ va2 = nI (8 * a + p1) := ⟨congrArg Prod.fst q3, congrArg Prod.snd q3⟩
      have db := dcd_b hd
      rw [hd] at hR
      dsimp only at hR
      have yr := y_rex s db.1
      refine Tt_R0.2 (Tt_o yr.1 ?_)
      dsimp only
      refine Tt_R1.2 (Tt_m (t_numC h hlen hM ha (p := p1) (k := rex s) (by omega) (by omega) rfl rfl rfl rfl) ?_)
      rintro ⟨r5, va4⟩ hu
      dsimp only at hu ⊢
      refine Tt_n (by first | decide | (simp (disch := omega) only [i_0, i_1, i_2, i_3, i_4, i_5, i_6, i_7, i_8, i_9, i_10, i_11, i_13, i_14, i_15, i_16, i_17, i_18, i_19, i_24, i_29, i_30, i_31, i_32, i_138, i_143, i_144, i_254, i_255, i_256, i_257, i_258, i_261, i_264, i_265, i_279, i_280, i_284, i_285, i_286, i_288, i_319, i_320, i_338, i_339, i_575, i_576, i_599, i_600, i_4096, i_8191, i_8192, i_8249, i_8250, i_8256, i_9000, i_16384, i_32767, i_32768, i_65520, i_65521, i_65535, i_65536, i_65999, i_66000, i_1300, i_120, i_156, nI_leI, nI_ltI, nI_eq, nI_add, n_neg, not_false_eq_true, not_true_eq_false] <;> omega)) ?_
      by_cases y : p1 + rex s ≤ M
      · rw [if_pos y] at hu
        obtain ⟨rfl, rfl⟩ := hu
        have nl := num_lt (sB_lt bi a) p1 (rex s)
        have n7 : 2 ^ rex s ≤ 2 ^ 7 := Nat.pow_le_pow_right (by omega) yr.2.2
        generalize num (sB bi a) p1 (rex s) = v at *
        refine Tt_n (by first | decide | (simp (disch := omega) only [i_0, i_1, i_2, i_3, i_4, i_5, i_6, i_7, i_8, i_9, i_10, i_11, i_13, i_14, i_15, i_16, i_17, i_18, i_19, i_24, i_29, i_30, i_31, i_32, i_138, i_143, i_144, i_254, i_255, i_256, i_257, i_258, i_261, i_264, i_265, i_279, i_280, i_284, i_285, i_286, i_288, i_319, i_320, i_338, i_339, i_575, i_576, i_599, i_600, i_4096, i_8191, i_8192, i_8249, i_8250, i_8256, i_9000, i_16384, i_32767, i_32768, i_65520, i_65521, i_65535, i_65536, i_65999, i_66000, i_1300, i_120, i_156, nI_leI, nI_ltI, nI_eq, nI_add, n_neg, not_false_eq_true, not_true_eq_false] <;> omega)) ?_
        have rest : ¬ (s = 16 ∧ i = 0) → Tt (Unpacker_readLengths_62 200000 (nI T) K cl (nI (8 * a + (p1 + rex s))) (nI i) (nI s) (nI v)) (fun u => PL a T R u.1 u.2.2 u.2.1) := by
          intro w
          unfold Unpacker_readLengths_62
          refine Tt_R0.2 (Tt_o (y_rb s db.1) ?_)
          dsimp only
          refine Tt_l ?_
          rw [nI_add, pk_sub hi]
          have hrb := rb_b s
          by_cases x : rb s + v ≤ T - i
          · rw [if_neg (by omega)] at hR
            have fin : ∀ v0, v0 = nI (rvl g i s) → Tt (Unpacker_readLengths_109 200000 K cl (nI (8 * a + (p1 + rex s))) (nI i) (nI (rb s + v)) v0) (fun u => PL a T R u.1 u.2.2 u.2.1) := by
              rintro _ rfl
              unfold Unpacker_readLengths_109
              refine Tt_l ?_
              rw [nI_add]
              refine t_set (by omega) ?_
              intro cl' hc'
              refine ih (T - (i + (rb s + v))) _ _ _ (by omega) ⟨p1 + rex s, i + (rb s + v), rpL g i (rvl g i s) (rb s + v), k', rfl, y, rfl, by omega, rpL_b hg (rvl_b hg), fun j hj => ?_, by omega, rfl, hR⟩
              rw [hc' j]
              unfold rpL
              by_cases e : i ≤ j ∧ j < i + (rb s + v)
              · rw [if_pos e, if_pos e]
              · rw [if_neg e, if_neg e]
                exact hc j (by omega)
            refine Tt_p (by first | decide | (simp (disch := omega) only [i_0, i_1, i_2, i_3, i_4, i_5, i_6, i_7, i_8, i_9, i_10, i_11, i_13, i_14, i_15, i_16, i_17, i_18, i_19, i_24, i_29, i_30, i_31, i_32, i_138, i_143, i_144, i_254, i_255, i_256, i_257, i_258, i_261, i_264, i_265, i_279, i_280, i_284, i_285, i_286, i_288, i_319, i_320, i_338, i_339, i_575, i_576, i_599, i_600, i_4096, i_8191, i_8192, i_8249, i_8250, i_8256, i_9000, i_16384, i_32767, i_32768, i_65520, i_65521, i_65535, i_65536, i_65999, i_66000, i_1300, i_120, i_156, nI_leI, nI_ltI, nI_eq, nI_add, n_neg, not_false_eq_true, not_true_eq_false] <;> omega)) ?_
            by_cases s1 : s < 16
            · refine Tt_n (by first | decide | (simp (disch := omega) only [i_0, i_1, i_2, i_3, i_4, i_5, i_6, i_7, i_8, i_9, i_10, i_11, i_13, i_14, i_15, i_16, i_17, i_18, i_19, i_24, i_29, i_30, i_31, i_32, i_138, i_143, i_144, i_254, i_255, i_256, i_257, i_258, i_261, i_264, i_265, i_279, i_280, i_284, i_285, i_286, i_288, i_319, i_320, i_338, i_339, i_575, i_576, i_599, i_600, i_4096, i_8191, i_8192, i_8249, i_8250, i_8256, i_9000, i_16384, i_32767, i_32768, i_65520, i_65521, i_65535, i_65536, i_65999, i_66000, i_1300, i_120, i_156, nI_leI, nI_ltI, nI_eq, nI_add, n_neg, not_false_eq_true, not_true_eq_false] <;> omega)) (fin _ ?_)
              unfold rvl
              rw [if_pos s1]
            · refine Tt_p (by first | decide | (simp (disch := omega) only [i_0, i_1, i_2, i_3, i_4, i_5, i_6, i_7, i_8, i_9, i_10, i_11, i_13, i_14, i_15, i_16, i_17, i_18, i_19, i_24, i_29, i_30, i_31, i_32, i_138, i_143, i_144, i_254, i_255, i_256, i_257, i_258, i_261, i_264, i_265, i_279, i_280, i_284, i_285, i_286, i_288, i_319, i_320, i_338, i_339, i_575, i_576, i_599, i_600, i_4096, i_8191, i_8192, i_8249, i_8250, i_8256, i_9000, i_16384, i_32767, i_32768, i_65520, i_65521, i_65535, i_65536, i_65999, i_66000, i_1300, i_120, i_156, nI_leI, nI_ltI, nI_eq, nI_add, n_neg, not_false_eq_true, not_true_eq_false] <;> omega)) ?_
              by_cases s2 : s = 16
              · have e1 : nI i - 1 = nI (i - 1) := n_pred (by omega)
                refine Tt_p (by first | decide | (simp (disch := omega) only [i_0, i_1, i_2, i_3, i_4, i_5, i_6, i_7, i_8, i_9, i_10, i_11, i_13, i_14, i_15, i_16, i_17, i_18, i_19, i_24, i_29, i_30, i_31, i_32, i_138, i_143, i_144, i_254, i_255, i_256, i_257, i_258, i_261, i_264, i_265, i_279, i_280, i_284, i_285, i_286, i_288, i_319, i_320, i_338, i_339, i_575, i_576, i_599, i_600, i_4096, i_8191, i_8192, i_8249, i_8250, i_8256, i_9000, i_16384, i_32767, i_32768, i_65520, i_65521, i_65535, i_65536, i_65999, i_66000, i_1300, i_120, i_156, nI_leI, nI_ltI, nI_eq, nI_add, n_neg, not_false_eq_true, not_true_eq_false] <;> omega)) (Tt_l ?_)
                rw [e1]
                refine Tt_g (by omega) (by omega) ?_
                rw [nI_clamp (by omega)]
                refine fin _ ?_
                rw [hc (i - 1) (by omega)]
                unfold rvl
                rw [if_neg s1, if_pos s2]
              · refine Tt_n (by first | decide | (simp (disch := omega) only [i_0, i_1, i_2, i_3, i_4, i_5, i_6, i_7, i_8, i_9, i_10, i_11, i_13, i_14, i_15, i_16, i_17, i_18, i_19, i_24, i_29, i_30, i_31, i_32, i_138, i_143, i_144, i_254, i_255, i_256, i_257, i_258, i_261, i_264, i_265, i_279, i_280, i_284, i_285, i_286, i_288, i_319, i_320, i_338, i_339, i_575, i_576, i_599, i_600, i_4096, i_8191, i_8192, i_8249, i_8250, i_8256, i_9000, i_16384, i_32767, i_32768, i_65520, i_65521, i_65535, i_65536, i_65999, i_66000, i_1300, i_120, i_156, nI_leI, nI_ltI, nI_eq, nI_add, n_neg, not_false_eq_true, not_true_eq_false] <;> omega)) (fin _ ?_)
                unfold rvl
                rw [if_neg s1, if_neg s2]
                rfl
          · rw [if_pos (by omega)] at hR
            subst hR
            exact Tt_n (by first | decide | (simp (disch := omega) only [i_0, i_1, i_2, i_3, i_4, i_5, i_6, i_7, i_8, i_9, i_10, i_11, i_13, i_14, i_15, i_16, i_17, i_18, i_19, i_24, i_29, i_30, i_31, i_32, i_138, i_143, i_144, i_254, i_255, i_256, i_257, i_258, i_261, i_264, i_265, i_279, i_280, i_284, i_285, i_286, i_288, i_319, i_320, i_338, i_339, i_575, i_576, i_599, i_600, i_4096, i_8191, i_8192, i_8249, i_8250, i_8256, i_9000, i_16384, i_32767, i_32768, i_65520, i_65521, i_65535, i_65536, i_65999, i_66000, i_1300, i_120, i_156, nI_leI, nI_ltI, nI_eq, nI_add, n_neg, not_false_eq_true, not_true_eq_false] <;> omega)) (Tt_Si rfl)
        by_cases s2 : s = 16
        · refine Tt_p (by first | decide | (simp (disch := omega) only [i_0, i_1, i_2, i_3, i_4, i_5, i_6, i_7, i_8, i_9, i_10, i_11, i_13, i_14, i_15, i_16, i_17, i_18, i_19, i_24, i_29, i_30, i_31, i_32, i_138, i_143, i_144, i_254, i_255, i_256, i_257, i_258, i_261, i_264, i_265, i_279, i_280, i_284, i_285, i_286, i_288, i_319, i_320, i_338, i_339, i_575, i_576, i_599, i_600, i_4096, i_8191, i_8192, i_8249, i_8250, i_8256, i_9000, i_16384, i_32767, i_32768, i_65520, i_65521, i_65535, i_65536, i_65999, i_66000, i_1300, i_120, i_156, nI_leI, nI_ltI, nI_eq, nI_add, n_neg, not_false_eq_true, not_true_eq_false] <;> omega)) ?_
          by_cases i0 : i = 0
          · rw [if_pos (Or.inr (Or.inl ⟨s2, i0⟩))] at hR
            subst hR
            exact Tt_p (by first | decide | (simp (disch := omega) only [i_0, i_1, i_2, i_3, i_4, i_5, i_6, i_7, i_8, i_9, i_10, i_11, i_13, i_14, i_15, i_16, i_17, i_18, i_19, i_24, i_29, i_30, i_31, i_32, i_138, i_143, i_144, i_254, i_255, i_256, i_257, i_258, i_261, i_264, i_265, i_279, i_280, i_284, i_285, i_286, i_288, i_319, i_320, i_338, i_339, i_575, i_576, i_599, i_600, i_4096, i_8191, i_8192, i_8249, i_8250, i_8256, i_9000, i_16384, i_32767, i_32768, i_65520, i_65521, i_65535, i_65536, i_65999, i_66000, i_1300, i_120, i_156, nI_leI, nI_ltI, nI_eq, nI_add, n_neg, not_false_eq_true, not_true_eq_false] <;> omega)) (Tt_Si rfl)
          · exact Tt_n (by first | decide | (simp (disch := omega) only [i_0, i_1, i_2, i_3, i_4, i_5, i_6, i_7, i_8, i_9, i_10, i_11, i_13, i_14, i_15, i_16, i_17, i_18, i_19, i_24, i_29, i_30, i_31, i_32, i_138, i_143, i_144, i_254, i_255, i_256, i_257, i_258, i_261, i_264, i_265, i_279, i_280, i_284, i_285, i_286, i_288, i_319, i_320, i_338, i_339, i_575, i_576, i_599, i_600, i_4096, i_8191, i_8192, i_8249, i_8250, i_8256, i_9000, i_16384, i_32767, i_32768, i_65520, i_65521, i_65535, i_65536, i_65999, i_66000, i_1300, i_120, i_156, nI_leI, nI_ltI, nI_eq, nI_add, n_neg, not_false_eq_true, not_true_eq_false] <;> omega)) (rest (fun q => i0 q.2))
        · exact Tt_n (by first | decide | (simp (disch := omega) only [i_0, i_1, i_2, i_3, i_4, i_5, i_6, i_7, i_8, i_9, i_10, i_11, i_13, i_14, i_15, i_16, i_17, i_18, i_19, i_24, i_29, i_30, i_31, i_32, i_138, i_143, i_144, i_254, i_255, i_256, i_257, i_258, i_261, i_264, i_265, i_279, i_280, i_284, i_285, i_286, i_288, i_319, i_320, i_338, i_339, i_575, i_576, i_599, i_600, i_4096, i_8191, i_8192, i_8249, i_8250, i_8256, i_9000, i_16384, i_32767, i_32768, i_65520, i_65521, i_65535, i_65536, i_65999, i_66000, i_1300, i_120, i_156, nI_leI, nI_ltI, nI_eq, nI_add, n_neg, not_false_eq_true, not_true_eq_false] <;> omega)) (rest (fun q => s2 q.1))
      · rw [if_neg y] at hu
        obtain ⟨rfl, rfl⟩ := hu
        rw [if_pos (Or.inl (by omega))] at hR
        subst hR
        exact Tt_p (by decide) (Tt_Si rfl)
def PK (a : Nat) (R : MkR) (r va : Int32) (cS yS cD yD : Nat → Int32) : Prop := match R with
  | none => r = nI 0
  | some (p', fS, fD) => r = nI 1 ∧ va = nI (8 * a + p') ∧ TabOK cS yS fS 288 ∧ TabOK cD yD fD 32
theorem t_mkC2 {c cl y1 c1 o1 y2 c2 o2 y3 c3 o3 : Nat → Int32} {bi f : Nat → Nat} {len a M q nl nd N1 : Nat} {R : MkR} {ve vl va x1 x2 : Int32} (hs : Src c len bi a M) (hq : q ≤ M) (hcl : ∀ i, i < 19 → cl i = nI (f i)) (hf : ∀ i, f i ≤ 15) (hN : 19 ≤ N1) (hN' : N1 ≤ 288) (hnl : nl ≤ 29) (hnd : nd ≤ 29) (e1 : ve = nI (8 * a + M)) (e2 : vl = nI len) (e3 : va = nI (8 * a + q)) (e4 : x1 = nI nl) (e5 : x2 = nI nd) (hR : gd f 19 0 → mkc2 (nl + 257) (nd + 1) (rdl f (sB bi a) M (nl + 257 + (nd + 1)) 400 q 0 (fun _ => 0)) = R) (hR0 : ¬ gd f 19 0 → R = none) : Tt (Unpacker_makeCodes_117 200000 66000 N1 288 32 ve vl c va cl y1 c1 o1 y2 c2 o2 y3 c3 o3 x1 x2) (fun u => PK a R u.1 u.2.1 u.2.2.2.2.2.2.2.1 u.2.2.2.2.2.2.1 u.2.2.2.2.2.2.2.2.2.2.1 u.2.2.2.2.2.2.2.2.2.1) := by
  subst e1 e2 e3 e4 e5
  unfold Unpacker_makeCodes_117
  refine Tt_l (Tt_l ?_)
  have e4 : nI nl + 257 = nI (nl + 257) := nI_add nl 257
  have e5 : nI nd + 1 = nI (nd + 1) := nI_1 nd
  rw [e4, e5]
  refine Tt_R3.2 (Tt_m (t_makeC (a := 0) (n := 19) (mb := 0) (f := f) rfl rfl rfl (by omega) (by omega) (by omega) hN hN' (fun i hi => by rw [Nat.zero_add]; exact hcl i hi) (fun i _ => hf i)) ?_)
  rintro ⟨r12, y9, c10, o11⟩ ⟨g1, g2⟩
  dsimp only at g1 g2 ⊢
  by_cases G : gd f 19 0
  · obtain ⟨rfl, hT⟩ := g1 G
    have hR := hR G
    refine Tt_n (by decide) (Tt_l ?_)
    rw [nI_add]
    refine Tt_R2.2 (Tt_m (t_readLen hs hq (fun i _ => hf i) (gd_k (fun i _ => hf i) G) hT hN hN' (by omega) (g := fun _ => 0) (fun _ => Nat.zero_le _) rfl rfl rfl rfl rfl) ?_)
    rintro ⟨r16, cl14, va15⟩ hu
    dsimp only at hu ⊢
    cases hr : rdl f (sB bi a) M (nl + 257 + (nd + 1)) 400 q 0 (fun _ => 0) with
    | none =>
      rw [hr] at hu hR
      have hu : r16 = nI 0 := hu
      subst hu hR
      exact Tt_p rfl (Tt_Si rfl)
    | some q' =>
      obtain ⟨p', g⟩ := q'
      rw [hr] at hu hR
      obtain ⟨hu1, hu2, hc2⟩ := hu
      subst hu1 hu2
      have bb := rdl_b _ _ _ _ _ _ hq (fun _ => Nat.zero_le _) hr
      unfold mkc2 at hR
      dsimp only at hR
      have e256 : (256 : Int32).toNatClampNeg = 256 := rfl
      refine Tt_n (by decide) (Tt_g (n := 256) (by omega) (by omega) ?_)
      rw [e256, hc2 256 (by omega)]
      have b256 := bb.2.2 256
      by_cases z : g 256 = 0
      · rw [if_pos (Or.inl z)] at hR
        subst hR
        exact Tt_p (by rw [z]; decide) (Tt_Si rfl)
      · refine Tt_n (by first | decide | (simp (disch := omega) only [i_0, i_1, i_2, i_3, i_4, i_5, i_6, i_7, i_8, i_9, i_10, i_11, i_13, i_14, i_15, i_16, i_17, i_18, i_19, i_24, i_29, i_30, i_31, i_32, i_138, i_143, i_144, i_254, i_255, i_256, i_257, i_258, i_261, i_264, i_265, i_279, i_280, i_284, i_285, i_286, i_288, i_319, i_320, i_338, i_339, i_575, i_576, i_599, i_600, i_4096, i_8191, i_8192, i_8249, i_8250, i_8256, i_9000, i_16384, i_32767, i_32768, i_65520, i_65521, i_65535, i_65536, i_65999, i_66000, i_1300, i_120, i_156, nI_leI, nI_ltI, nI_eq, nI_add, n_neg, not_false_eq_true, not_true_eq_false] <;> omega)) (Tt_R3.2 (Tt_m (t_makeC (a := 0) (n := nl + 257) (mb := 0) (f := zx g 0 (nl + 257)) rfl rfl rfl (by omega) (by omega) (by omega) (by omega) (by omega) (fun i hi => by rw [hc2 _ (by omega), zx_i hi]) (fun i _ => zx_b bb.2.2 i)) ?_))
        rintro ⟨r20, y17, c18, o19⟩ ⟨g3, g4⟩
        dsimp only at g3 g4 ⊢
        have gz := @gd_z (zx g 0 (nl + 257)) (nl + 257) 288 0 (by omega) (fun i hi => zx_0 hi) (zx_b bb.2.2)
        by_cases G1 : gd (zx g 0 (nl + 257)) 288 0
        · obtain ⟨rfl, hT1⟩ := g3 (gz.1 G1)
          have hT1 := TabOK_z (N := 288) (by omega) (fun i hi => zx_0 hi) hT1
          refine Tt_n (by decide) (Tt_R3.2 (Tt_m (t_makeC (a := nl + 257) (n := nd + 1) (mb := 1) (f := zx g (nl + 257) (nd + 1)) rfl rfl rfl (by omega) (by omega) (by omega) (by omega) (by omega) (fun i hi => by rw [hc2 _ (by omega), zx_i hi]) (fun i _ => zx_b bb.2.2 i)) ?_))
          rintro ⟨r24, y21, c22, o23⟩ ⟨g5, g6⟩
          dsimp only at g5 g6 ⊢
          have gz2 := @gd_z (zx g (nl + 257) (nd + 1)) (nd + 1) 32 1 (by omega) (fun i hi => zx_0 hi) (zx_b bb.2.2)
          by_cases G2 : gd (zx g (nl + 257) (nd + 1)) 32 1
          · obtain ⟨rfl, hT2⟩ := g5 (gz2.1 G2)
            have hT2 := TabOK_z (N := 32) (by omega) (fun i hi => zx_0 hi) hT2
            rw [if_neg (fun k => k.elim z (fun k => k.elim (fun k => k G1) (fun k => k G2)))] at hR
            subst hR
            exact Tt_n (by decide) (Tt_Si ⟨rfl, rfl, hT1, hT2⟩)
          · have := g6 (fun k => G2 (gz2.2 k))
            subst this
            rw [if_pos (Or.inr (Or.inr G2))] at hR
            subst hR
            exact Tt_p rfl (Tt_Si rfl)
        · have := g4 (fun k => G1 (gz.2 k))
          subst this
          rw [if_pos (Or.inr (Or.inl G1))] at hR
          subst hR
          exact Tt_p rfl (Tt_Si rfl)
  · have e := g2 G
    have hN := hR0 G
    subst e hN
    exact Tt_p rfl (Tt_Si rfl)
theorem t_numE {c : Nat → Int32} {b : Nat → Nat} {len a M p k : Nat} {ve vl va x1 : Int32} (hs : Src c len b a M) (hp : p ≤ M) (hk : k ≤ 16) (h1 : ve = nI (8 * a + M)) (h2 : vl = nI len) (h3 : va = nI (8 * a + p)) (h4 : x1 = nI k) : Tt (BitReader_number 200000 66000 ve vl c va x1) (fun u => ∃ r p', u = (r, nI (8 * a + p')) ∧ p ≤ p' ∧ p' ≤ M ∧ (p + k ≤ M → p' = p + k ∧ r = nI (num (sB b a) p k)) ∧ (M < p + k → r = -1)) := by
  obtain ⟨h, hlen, hM, ha⟩ := hs
  refine Tt_m (t_numC h hlen hM ha hp hk h1 h2 h3 h4) ?_
  rintro ⟨r, v⟩ hu
  dsimp only at hu
  by_cases z : p + k ≤ M
  · rw [if_pos z] at hu
    obtain ⟨rfl, rfl⟩ := hu
    exact ⟨_, p + k, rfl, by omega, z, fun _ => ⟨rfl, rfl⟩, fun q => absurd q (by omega)⟩
  · rw [if_neg z] at hu
    obtain ⟨rfl, rfl⟩ := hu
    exact ⟨_, p, rfl, by omega, hp, fun q => absurd q z, fun _ => rfl⟩
theorem t_five {β : Type} {r2 r4 r6 : Int32} {X Y : Option β} {Q : β → Prop} (hX : (r2 < 0 ∨ 29 < r2 ∨ r4 < 0 ∨ 29 < r4 ∨ ¬ 0 ≤ r6) → Tt X Q) (hY : ¬ r2 < 0 → ¬ 29 < r2 → ¬ r4 < 0 → ¬ 29 < r4 → 0 ≤ r6 → Tt Y Q) : Tt (mC (r2 < 0) X (mC (29 < r2) X (mC (r4 < 0) X (mC (29 < r4) X (mC (0 ≤ r6) Y X))))) Q := by
  by_cases h1 : r2 < 0
  · exact Tt_p h1 (hX (Or.inl h1))
  by_cases h2 : 29 < r2
  · exact Tt_n h1 (Tt_p h2 (hX (Or.inr (Or.inl h2))))
  by_cases h3 : r4 < 0
  · exact Tt_n h1 (Tt_n h2 (Tt_p h3 (hX (Or.inr (Or.inr (Or.inl h3))))))
  by_cases h4 : 29 < r4
  · exact Tt_n h1 (Tt_n h2 (Tt_n h3 (Tt_p h4 (hX (Or.inr (Or.inr (Or.inr (Or.inl h4))))))))
  by_cases h5 : 0 ≤ r6
  · exact Tt_n h1 (Tt_n h2 (Tt_n h3 (Tt_n h4 (Tt_p h5 (hY h1 h2 h3 h4 h5)))))
  · exact Tt_n h1 (Tt_n h2 (Tt_n h3 (Tt_n h4 (Tt_n h5 (hX (Or.inr (Or.inr (Or.inr (Or.inr h5)))))))))
theorem t_codesC {c cl y1 c1 o1 y2 c2 o2 y3 c3 o3 : Nat → Int32} {bi : Nat → Nat} {len a M p N1 : Nat} {R : MkR} {ve vl va : Int32} (hs : Src c len bi a M) (hp : p ≤ M) (hN : 19 ≤ N1) (hN' : N1 ≤ 288) (e1 : ve = nI (8 * a + M)) (e2 : vl = nI len) (e3 : va = nI (8 * a + p)) (hR : mkc (sB bi a) M p = R) : Tt (Unpacker_makeCodes 200000 66000 N1 288 32 ve vl c va cl y1 c1 o1 y2 c2 o2 y3 c3 o3) (fun u => PK a R u.1 u.2.1 u.2.2.2.2.2.2.2.1 u.2.2.2.2.2.2.1 u.2.2.2.2.2.2.2.2.2.2.1 u.2.2.2.2.2.2.2.2.2.1) := by
  subst e1 e2 e3
  unfold Unpacker_makeCodes
  refine Tt_R1.2 (Tt_m (t_numE hs hp (k := 5) (by omega) rfl rfl rfl rfl) ?_)
  rintro _ ⟨r2, q1, rfl, h1a, h1b, h1c, h1d⟩
  dsimp only
  refine Tt_R1.2 (Tt_m (t_numE hs h1b (k := 5) (by omega) rfl rfl rfl rfl) ?_)
  rintro _ ⟨r4, q2, rfl, h2a, h2b, h2c, h2d⟩
  dsimp only
  refine Tt_R1.2 (Tt_m (t_numE hs h2b (k := 4) (by omega) rfl rfl rfl rfl) ?_)
  rintro _ ⟨r6, q3, rfl, h3a, h3b, h3c, h3d⟩
  dsimp only
  unfold mkc at hR
  by_cases z : p + 14 ≤ M
  · obtain ⟨rfl, rfl⟩ := h1c (by omega)
    obtain ⟨rfl, rfl⟩ := h2c (by omega)
    obtain ⟨rfl, rfl⟩ := h3c (by omega)
    have b1 := num_lt (sB_lt bi a) p 5
    have b2 := num_lt (sB_lt bi a) (p + 5) 5
    have b3 := num_lt (sB_lt bi a) (p + 10) 4
    rw [show p + 5 + 5 = p + 10 from rfl] at *
    rw [show p + 10 + 4 = p + 14 from rfl] at *
    clear h1a h1b h1c h1d h2a h2b h2c h2d h3a h3b h3c h3d
    generalize num (sB bi a) p 5 = nl at *
    generalize num (sB bi a) (p + 5) 5 = nd at *
    generalize num (sB bi a) (p + 10) 4 = nc at *
    refine t_five ?_ ?_
    · intro bad
      have b : 29 < nl ∨ 29 < nd := by
        rcases bad with k | k | k | k | k
        · exact absurd k (nI_pos (by omega))
        · left
          have k : nI 29 < nI nl := k
          rw [nI_ltI (by omega) (by omega)] at k
          exact k
        · exact absurd k (nI_pos (by omega))
        · right
          have k : nI 29 < nI nd := k
          rw [nI_ltI (by omega) (by omega)] at k
          exact k
        · exact absurd (nI_pos' (by omega)) k
      rw [if_pos (Or.inr b)] at hR
      subst hR
      exact Tt_Si rfl
    · intro _ k1 _ k2 _
      have k1 : ¬ nI 29 < nI nl := k1
      have k2 : ¬ nI 29 < nI nd := k2
      rw [nI_ltI (by omega) (by omega)] at k1 k2
      rw [if_neg (by omega)] at hR
      refine Tt_R1.2 (Tt_m (t_fill (by omega)) ?_)
      rintro ⟨_, cl0⟩ hc0
      dsimp only at hc0 ⊢
      generalize hq : p + 14 = q at *
      refine Tt_W15 (fun mm va cl _ _ _ _ _ _ _ _ _ x1 x2 x3 x4 => x1 = nI nl ∧ x2 = nI nd ∧ x3 = nI nc ∧ ∃ k, x4 = nI k ∧ k ≤ nc + 4 ∧ va = nI (8 * a + (q + 3 * k)) ∧ q + 3 * k ≤ M ∧ (∀ j, j < 320 → cl j = nI (fcl (sB bi a) q k j)) ∧ mm = nc + 4 - k) ?_ 200000 (nc + 4) _ _ _ _ _ _ _ _ _ _ _ _ _ _ _ (by omega) ⟨rfl, rfl, rfl, 0, rfl, by omega, rfl, z, fun j hj => by rw [hc0 j, if_pos hj]; rfl, by omega⟩
      rintro K mm va cl y1 c1 o1 y2 c2 o2 y3 c3 o3 x1 x2 x3 x4 ⟨rfl, rfl, rfl, k, rfl, hk, rfl, hqM, hcl, rfl⟩ ih
      unfold Unpacker_makeCodes_64
      by_cases w : nc + 4 ≤ k
      · have e : k = nc + 4 := by omega
        subst e
        refine Tt_p (by first | decide | (simp (disch := omega) only [i_0, i_1, i_2, i_3, i_4, i_5, i_6, i_7, i_8, i_9, i_10, i_11, i_13, i_14, i_15, i_16, i_17, i_18, i_19, i_24, i_29, i_30, i_31, i_32, i_138, i_143, i_144, i_254, i_255, i_256, i_257, i_258, i_261, i_264, i_265, i_279, i_280, i_284, i_285, i_286, i_288, i_319, i_320, i_338, i_339, i_575, i_576, i_599, i_600, i_4096, i_8191, i_8192, i_8249, i_8250, i_8256, i_9000, i_16384, i_32767, i_32768, i_65520, i_65521, i_65535, i_65536, i_65999, i_66000, i_1300, i_120, i_156, nI_leI, nI_ltI, nI_eq, nI_add, n_neg, not_false_eq_true, not_true_eq_false] <;> omega)) (t_mkC2 hs hqM (fun i hi => hcl i (by omega)) (fcl_b (sB_lt bi a) q _) hN hN' (by omega) (by omega) rfl rfl rfl rfl rfl (fun G => ?_) (fun G => ?_))
        · rw [if_neg (fun k => k.elim (by omega) (fun k => k G))] at hR
          exact hR
        · rw [if_pos (Or.inr G)] at hR
          exact hR.symm
      · refine Tt_n (by first | decide | (simp (disch := omega) only [i_0, i_1, i_2, i_3, i_4, i_5, i_6, i_7, i_8, i_9, i_10, i_11, i_13, i_14, i_15, i_16, i_17, i_18, i_19, i_24, i_29, i_30, i_31, i_32, i_138, i_143, i_144, i_254, i_255, i_256, i_257, i_258, i_261, i_264, i_265, i_279, i_280, i_284, i_285, i_286, i_288, i_319, i_320, i_338, i_339, i_575, i_576, i_599, i_600, i_4096, i_8191, i_8192, i_8249, i_8250, i_8256, i_9000, i_16384, i_32767, i_32768, i_65520, i_65521, i_65535, i_65536, i_65999, i_66000, i_1300, i_120, i_156, nI_leI, nI_ltI, nI_eq, nI_add, n_neg, not_false_eq_true, not_true_eq_false] <;> omega)) (Tt_n (by first | decide | (simp (disch := omega) only [i_0, i_1, i_2, i_3, i_4, i_5, i_6, i_7, i_8, i_9, i_10, i_11, i_13, i_14, i_15, i_16, i_17, i_18, i_19, i_24, i_29, i_30, i_31, i_32, i_138, i_143, i_144, i_254, i_255, i_256, i_257, i_258, i_261, i_264, i_265, i_279, i_280, i_284, i_285, i_286, i_288, i_319, i_320, i_338, i_339, i_575, i_576, i_599, i_600, i_4096, i_8191, i_8192, i_8249, i_8250, i_8256, i_9000, i_16384, i_32767, i_32768, i_65520, i_65521, i_65535, i_65536, i_65999, i_66000, i_1300, i_120, i_156, nI_leI, nI_ltI, nI_eq, nI_add, n_neg, not_false_eq_true, not_true_eq_false] <;> omega)) (Tt_R1.2 (Tt_m (t_numE hs hqM (k := 3) (by omega) rfl rfl rfl rfl) ?_)))
        rintro _ ⟨r7, q4, rfl, h4a, h4b, h4c, h4d⟩
        dsimp only
        by_cases y : q + 3 * k + 3 ≤ M
        · obtain ⟨rfl, rfl⟩ := h4c y
          have b4 := num_lt (sB_lt bi a) (q + 3 * k) 3
          have yo := y_ord k (by omega)
          refine Tt_p (nI_pos' (by omega)) (Tt_g (by omega) (by omega) (Tt_l ?_))
          rw [nI_clamp (by omega), yo.1]
          refine Tt_g (by omega) (by omega) (Tt_l (Tt_l ?_))
          rw [nI_1, nI_clamp (by omega)]
          refine ih (nc + 4 - (k + 1)) _ _ _ _ _ _ _ _ _ _ _ _ _ _ _ (by omega) ⟨rfl, rfl, rfl, k + 1, rfl, by omega, congrArg nI (by omega), by omega, fun j hj => ?_, rfl⟩
          show _ = nI (if j = ord k then num (sB bi a) (q + 3 * k) 3 else fcl (sB bi a) q k j)
          by_cases e : j = ord k
          · rw [e, pk_us, if_pos rfl]
          · rw [pk_un e, if_neg e, hcl j hj]
        · have e := h4d (by omega)
          subst e
          rw [if_pos (Or.inl (by omega))] at hR
          subst hR
          exact Tt_n (by decide) (Tt_Si rfl)
  · rw [if_pos (Or.inl (by omega))] at hR
    subst hR
    refine t_five (fun _ => Tt_Si rfl) ?_
    intro k1 _ k2 _ k3
    exfalso
    by_cases w1 : p + 5 ≤ M
    · obtain ⟨rfl, rfl⟩ := h1c w1
      by_cases w2 : p + 5 + 5 ≤ M
      · obtain ⟨rfl, rfl⟩ := h2c w2
        have e := h3d (by omega)
        subst e
        exact absurd k3 (by decide)
      · have e := h2d (by omega)
        subst e
        exact k2 (by decide)
    · have e := h1d (by omega)
      subst e
      exact k1 (by decide)
/-! the reference reads codes -/
def PN (M : Nat) (R : MkR) (vr vw : Int32) (nS nD : Nat → Int32) : Prop := match R with
  | none => vw = nI 1 ∧ ∃ p', p' ≤ M ∧ vr = nI p'
  | some (p', fS, fD) => vw = nI 0 ∧ vr = nI p' ∧ TreeOK nS fS 288 ∧ TreeOK nD fD 32
abbrev RmT := Unit × Int32 × Int32 × (Nat → Int32) × Int32 × (Nat → Int32) × (Nat → Int32) × Int32 × (Nat → Int32) × Int32 × (Nat → Int32)
def QN (M : Nat) (R : MkR) (u : RmT) : Prop := PN M R u.2.1 u.2.2.1 u.2.2.2.2.2.2.2.2.1 u.2.2.2.2.2.2.2.2.2.2
theorem PN_0 {M p : Nat} {R : MkR} {nS nD : Nat → Int32} (hp : p ≤ M) (hR : R = none) : PN M R (nI p) (nI 1) nS nD := by
  subst hR
  exact ⟨rfl, p, hp, rfl⟩
theorem w_483 {M p : Nat} {R : MkR} {vw n1 n2 n3 : Int32} {RL T1 LR T2 T3 : Nat → Int32} (hp : p ≤ M) (hR : R = none) : Tt (M_readMade_483 200000 (nI p) vw RL n1 T1 LR n2 T2 n3 T3) (QN M R) := by
  unfold M_readMade_483 M_readMade_488
  exact Tt_z (Or.inr rfl) (Tt_Si (PN_0 hp hR))
theorem w_425 {M p : Nat} {R : MkR} {n1 n2 n3 : Int32} {RL T1 LR T2 T3 : Nat → Int32} (hp : p ≤ M) (hR : R = none) : Tt (M_readMade_425 200000 (nI p) (nI 1) RL n1 T1 LR n2 T2 n3 T3) (QN M R) := by
  unfold M_readMade_425
  exact Tt_n (by decide) (w_483 hp hR)
theorem w_343 {M p : Nat} {R : MkR} {n1 n2 n3 x1 x2 : Int32} {RL T1 LR T2 T3 : Nat → Int32} (hp : p ≤ M) (hR : R = none) : Tt (M_readMade_343 200000 (nI p) (nI 1) RL n1 T1 LR n2 T2 n3 T3 x1 x2) (QN M R) := by
  unfold M_readMade_343
  refine Tt_W13 (fun mm a b _ _ _ _ _ _ _ _ _ _ _ => a = nI p ∧ b = nI 1) ?_ 200000 0 _ _ _ _ _ _ _ _ _ _ _ _ _ (by omega) ⟨rfl, rfl⟩
  rintro K mm a b RL n1 T1 LR n2 T2 n3 T3 x1 x2 x5 ⟨rfl, rfl⟩ _
  unfold M_readMade_346
  by_cases g : 320 ≤ x5
  · exact Tt_p g (w_425 hp hR)
  · exact Tt_n g (Tt_n (by decide) (w_425 hp hR))
theorem t_425 {M p : Nat} {R : MkR} {n1 n2 n3 : Int32} {RL T1 LR T2 T3 : Nat → Int32} {fS fD : Nat → Nat} (hp : p ≤ M) (h1 : ∀ i, i < 288 → RL i = nI (fS i)) (h2 : ∀ i, i < 32 → RL (288 + i) = nI (fD i)) (f1 : ∀ i, fS i ≤ 15) (f2 : ∀ i, fD i ≤ 15) (hR : (if fS 256 = 0 ∨ ¬ gd fS 288 0 ∨ ¬ gd fD 32 1 then none else some (p, fS, fD)) = R) : Tt (M_readMade_425 200000 (nI p) (nI 0) RL n1 T1 LR n2 T2 n3 T3) (QN M R) := by
  unfold M_readMade_425
  have e256 : (256 : Int32).toNatClampNeg = 256 := rfl
  refine Tt_p rfl (Tt_g (n := 256) (by omega) (by omega) ?_)
  rw [e256, h1 256 (by omega)]
  have b := f1 256
  by_cases z : fS 256 = 0
  · rw [if_pos (Or.inl z)] at hR
    exact Tt_p (by rw [z]; rfl) (w_483 hp hR.symm)
  · refine Tt_n (by first | decide | (simp (disch := omega) only [i_0, i_1, i_2, i_3, i_4, i_5, i_6, i_7, i_8, i_9, i_10, i_11, i_13, i_14, i_15, i_16, i_17, i_18, i_19, i_24, i_29, i_30, i_31, i_32, i_138, i_143, i_144, i_254, i_255, i_256, i_257, i_258, i_261, i_264, i_265, i_279, i_280, i_284, i_285, i_286, i_288, i_319, i_320, i_338, i_339, i_575, i_576, i_599, i_600, i_4096, i_8191, i_8192, i_8249, i_8250, i_8256, i_9000, i_16384, i_32767, i_32768, i_65520, i_65521, i_65535, i_65536, i_65999, i_66000, i_1300, i_120, i_156, nI_leI, nI_ltI, nI_eq, nI_add, n_neg, not_false_eq_true, not_true_eq_false] <;> omega)) (Tt_R2.2 (Tt_m (t_makeM (a := 0) (n := 288) (mb := 0) (f := fS) rfl rfl rfl (by omega) (by omega) (by omega) (by omega) (fun i hi => by rw [Nat.zero_add]; exact h1 i hi) (fun i _ => f1 i)) ?_))
    rintro ⟨r3, v1, t2⟩ ⟨g1, g2⟩
    dsimp only at g1 g2 ⊢
    by_cases G : gd fS 288 0
    · obtain ⟨rfl, hT⟩ := g1 G
      refine Tt_n (by decide) (Tt_R2.2 (Tt_m (t_makeM (a := 288) (n := 32) (mb := 1) (f := fD) rfl rfl rfl (by omega) (by omega) (by omega) (by omega) h2 (fun i _ => f2 i)) ?_))
      rintro ⟨r6, v4, t5⟩ ⟨g3, g4⟩
      dsimp only at g3 g4 ⊢
      by_cases G2 : gd fD 32 1
      · obtain ⟨rfl, hT2⟩ := g3 G2
        rw [if_neg (fun k => k.elim z (fun k => k.elim (fun k => k G) (fun k => k G2)))] at hR
        subst hR
        refine Tt_n (by decide) ?_
        unfold M_readMade_488
        exact Tt_z (Or.inl rfl) (Tt_Si ⟨rfl, rfl, hT, hT2⟩)
      · have e := g4 G2
        subst e
        rw [if_pos (Or.inr (Or.inr G2))] at hR
        exact Tt_p rfl (w_483 hp hR.symm)
    · have e := g2 G
      subst e
      rw [if_pos (Or.inr (Or.inl G))] at hR
      exact Tt_p rfl (w_483 hp hR.symm)
theorem t_343 {M p hl hd : Nat} {R : MkR} {n1 n2 n3 x1 x2 : Int32} {RL T1 LR T2 T3 : Nat → Int32} {g : Nat → Nat} (hp : p ≤ M) (hg : ∀ j, g j ≤ 15) (h1 : ∀ j, j < hl + hd → LR j = nI (g j)) (hl1 : 257 ≤ hl) (hl2 : hl ≤ 286) (hd2 : hd ≤ 30) (e1 : x1 = nI hl) (e2 : x2 = nI hd) (hR : mkc2 hl hd (some (p, g)) = R) : Tt (M_readMade_343 200000 (nI p) (nI 0) RL n1 T1 LR n2 T2 n3 T3 x1 x2) (QN M R) := by
  subst e1 e2
  unfold M_readMade_343
  refine Tt_W13 (fun mm a b RL _ _ LR' _ _ _ _ x1 x2 x5 => a = nI p ∧ b = nI 0 ∧ LR' = LR ∧ x1 = nI hl ∧ x2 = nI hd ∧ ∃ k, x5 = nI k ∧ k ≤ 320 ∧ mm = 320 - k ∧ ∀ j, j < k → RL j = nI (if j < 288 then zx g 0 hl j else zx g hl hd (j - 288))) ?_ 200000 320 _ _ _ _ _ _ _ _ _ _ _ _ _ (by omega) ⟨rfl, rfl, rfl, rfl, rfl, 0, rfl, by omega, by omega, fun j hj => absurd hj (by omega)⟩
  rintro K mm a b RL n1 T1 LR' n2 T2 n3 T3 x1 x2 x5 ⟨rfl, rfl, rfl, rfl, rfl, k, rfl, hk, rfl, hRL⟩ ih
  unfold M_readMade_346
  by_cases z : 320 ≤ k
  · have e : k = 320 := by omega
    subst e
    refine Tt_p (by first | decide | (simp (disch := omega) only [i_0, i_1, i_2, i_3, i_4, i_5, i_6, i_7, i_8, i_9, i_10, i_11, i_13, i_14, i_15, i_16, i_17, i_18, i_19, i_24, i_29, i_30, i_31, i_32, i_138, i_143, i_144, i_254, i_255, i_256, i_257, i_258, i_261, i_264, i_265, i_279, i_280, i_284, i_285, i_286, i_288, i_319, i_320, i_338, i_339, i_575, i_576, i_599, i_600, i_4096, i_8191, i_8192, i_8249, i_8250, i_8256, i_9000, i_16384, i_32767, i_32768, i_65520, i_65521, i_65535, i_65536, i_65999, i_66000, i_1300, i_120, i_156, nI_leI, nI_ltI, nI_eq, nI_add, n_neg, not_false_eq_true, not_true_eq_false] <;> omega)) (t_425 (fS := zx g 0 hl) (fD := zx g hl hd) hp (fun i hi => ?_) (fun i hi => ?_) (zx_b hg) (zx_b hg) hR)
    · rw [hRL i (by omega), if_pos hi]
    · rw [hRL (288 + i) (by omega), if_neg (by omega), show 288 + i - 288 = i by omega]
  · have put : ∀ v, v = nI (if k < 288 then zx g 0 hl k else zx g hl hd (k - 288)) → Tt (M_readMade_418 200000 K (nI p) (nI 0) RL n1 T1 LR' n2 T2 n3 T3 (nI hl) (nI hd) (nI k) (nI k) v) (QN M R) := by
      rintro _ rfl
      unfold M_readMade_418
      refine Tt_g (by omega) (by omega) (Tt_l (Tt_l ?_))
      rw [nI_1, nI_clamp (by omega)]
      refine ih (320 - (k + 1)) _ _ _ _ _ _ _ _ _ _ _ _ _ (by omega) ⟨rfl, rfl, rfl, rfl, rfl, k + 1, rfl, by omega, rfl, fun j hj => ?_⟩
      by_cases e : j = k
      · rw [e, pk_us]
      · rw [pk_un e]
        exact hRL j (by omega)
    have put0 : (if k < 288 then zx g 0 hl k else zx g hl hd (k - 288)) = 0 → Tt (M_readMade_417 200000 K (nI p) (nI 0) RL n1 T1 LR' n2 T2 n3 T3 (nI hl) (nI hd) (nI k) (nI k)) (QN M R) := by
      intro e
      unfold M_readMade_417
      exact put _ (by rw [e]; rfl)
    refine Tt_n (by first | decide | (simp (disch := omega) only [i_0, i_1, i_2, i_3, i_4, i_5, i_6, i_7, i_8, i_9, i_10, i_11, i_13, i_14, i_15, i_16, i_17, i_18, i_19, i_24, i_29, i_30, i_31, i_32, i_138, i_143, i_144, i_254, i_255, i_256, i_257, i_258, i_261, i_264, i_265, i_279, i_280, i_284, i_285, i_286, i_288, i_319, i_320, i_338, i_339, i_575, i_576, i_599, i_600, i_4096, i_8191, i_8192, i_8249, i_8250, i_8256, i_9000, i_16384, i_32767, i_32768, i_65520, i_65521, i_65535, i_65536, i_65999, i_66000, i_1300, i_120, i_156, nI_leI, nI_ltI, nI_eq, nI_add, n_neg, not_false_eq_true, not_true_eq_false] <;> omega)) (Tt_p rfl ?_)
    by_cases z1 : hl ≤ k
    · refine Tt_p (by first | decide | (simp (disch := omega) only [i_0, i_1, i_2, i_3, i_4, i_5, i_6, i_7, i_8, i_9, i_10, i_11, i_13, i_14, i_15, i_16, i_17, i_18, i_19, i_24, i_29, i_30, i_31, i_32, i_138, i_143, i_144, i_254, i_255, i_256, i_257, i_258, i_261, i_264, i_265, i_279, i_280, i_284, i_285, i_286, i_288, i_319, i_320, i_338, i_339, i_575, i_576, i_599, i_600, i_4096, i_8191, i_8192, i_8249, i_8250, i_8256, i_9000, i_16384, i_32767, i_32768, i_65520, i_65521, i_65535, i_65536, i_65999, i_66000, i_1300, i_120, i_156, nI_leI, nI_ltI, nI_eq, nI_add, n_neg, not_false_eq_true, not_true_eq_false] <;> omega)) ?_
      by_cases z2 : k < 288
      · refine Tt_p (by first | decide | (simp (disch := omega) only [i_0, i_1, i_2, i_3, i_4, i_5, i_6, i_7, i_8, i_9, i_10, i_11, i_13, i_14, i_15, i_16, i_17, i_18, i_19, i_24, i_29, i_30, i_31, i_32, i_138, i_143, i_144, i_254, i_255, i_256, i_257, i_258, i_261, i_264, i_265, i_279, i_280, i_284, i_285, i_286, i_288, i_319, i_320, i_338, i_339, i_575, i_576, i_599, i_600, i_4096, i_8191, i_8192, i_8249, i_8250, i_8256, i_9000, i_16384, i_32767, i_32768, i_65520, i_65521, i_65535, i_65536, i_65999, i_66000, i_1300, i_120, i_156, nI_leI, nI_ltI, nI_eq, nI_add, n_neg, not_false_eq_true, not_true_eq_false] <;> omega)) (put0 ?_)
        rw [if_pos z2, zx_0 z1]
      · refine Tt_n (by first | decide | (simp (disch := omega) only [i_0, i_1, i_2, i_3, i_4, i_5, i_6, i_7, i_8, i_9, i_10, i_11, i_13, i_14, i_15, i_16, i_17, i_18, i_19, i_24, i_29, i_30, i_31, i_32, i_138, i_143, i_144, i_254, i_255, i_256, i_257, i_258, i_261, i_264, i_265, i_279, i_280, i_284, i_285, i_286, i_288, i_319, i_320, i_338, i_339, i_575, i_576, i_599, i_600, i_4096, i_8191, i_8192, i_8249, i_8250, i_8256, i_9000, i_16384, i_32767, i_32768, i_65520, i_65521, i_65535, i_65536, i_65999, i_66000, i_1300, i_120, i_156, nI_leI, nI_ltI, nI_eq, nI_add, n_neg, not_false_eq_true, not_true_eq_false] <;> omega)) ?_
        have e3 : nI k - 288 = nI (k - 288) := pk_sub (b := 288) (by omega)
        have e4 : nI hl + nI k - 288 = nI (hl + (k - 288)) := by
          rw [nI_add]
          have : nI (hl + k) - 288 = nI (hl + k - 288) := pk_sub (b := 288) (by omega)
          rw [this]
          exact congrArg nI (by omega)
        rw [e3, e4]
        by_cases z3 : hd ≤ k - 288
        · refine Tt_p (by first | decide | (simp (disch := omega) only [i_0, i_1, i_2, i_3, i_4, i_5, i_6, i_7, i_8, i_9, i_10, i_11, i_13, i_14, i_15, i_16, i_17, i_18, i_19, i_24, i_29, i_30, i_31, i_32, i_138, i_143, i_144, i_254, i_255, i_256, i_257, i_258, i_261, i_264, i_265, i_279, i_280, i_284, i_285, i_286, i_288, i_319, i_320, i_338, i_339, i_575, i_576, i_599, i_600, i_4096, i_8191, i_8192, i_8249, i_8250, i_8256, i_9000, i_16384, i_32767, i_32768, i_65520, i_65521, i_65535, i_65536, i_65999, i_66000, i_1300, i_120, i_156, nI_leI, nI_ltI, nI_eq, nI_add, n_neg, not_false_eq_true, not_true_eq_false] <;> omega)) (put0 ?_)
          rw [if_neg z2, zx_0 z3]
        · refine Tt_n (by first | decide | (simp (disch := omega) only [i_0, i_1, i_2, i_3, i_4, i_5, i_6, i_7, i_8, i_9, i_10, i_11, i_13, i_14, i_15, i_16, i_17, i_18, i_19, i_24, i_29, i_30, i_31, i_32, i_138, i_143, i_144, i_254, i_255, i_256, i_257, i_258, i_261, i_264, i_265, i_279, i_280, i_284, i_285, i_286, i_288, i_319, i_320, i_338, i_339, i_575, i_576, i_599, i_600, i_4096, i_8191, i_8192, i_8249, i_8250, i_8256, i_9000, i_16384, i_32767, i_32768, i_65520, i_65521, i_65535, i_65536, i_65999, i_66000, i_1300, i_120, i_156, nI_leI, nI_ltI, nI_eq, nI_add, n_neg, not_false_eq_true, not_true_eq_false] <;> omega)) (Tt_l (Tt_g (by omega) (by omega) (put _ ?_)))
          rw [nI_clamp (by omega), h1 _ (by omega), if_neg z2, zx_i (by omega)]
    · refine Tt_n (by first | decide | (simp (disch := omega) only [i_0, i_1, i_2, i_3, i_4, i_5, i_6, i_7, i_8, i_9, i_10, i_11, i_13, i_14, i_15, i_16, i_17, i_18, i_19, i_24, i_29, i_30, i_31, i_32, i_138, i_143, i_144, i_254, i_255, i_256, i_257, i_258, i_261, i_264, i_265, i_279, i_280, i_284, i_285, i_286, i_288, i_319, i_320, i_338, i_339, i_575, i_576, i_599, i_600, i_4096, i_8191, i_8192, i_8249, i_8250, i_8256, i_9000, i_16384, i_32767, i_32768, i_65520, i_65521, i_65535, i_65536, i_65999, i_66000, i_1300, i_120, i_156, nI_leI, nI_ltI, nI_eq, nI_add, n_neg, not_false_eq_true, not_true_eq_false] <;> omega)) (Tt_g (by omega) (by omega) (put _ ?_))
      rw [nI_clamp (by omega), h1 _ (by omega), if_pos (by omega), zx_i (by omega), Nat.zero_add]
abbrev RmK := Int32 → Int32 → (Nat → Int32) → Int32 → (Nat → Int32) → (Nat → Int32) → Int32 → (Nat → Int32) → Int32 → (Nat → Int32) → Int32 → Int32 → Int32 → Option RmT
theorem w_272 {K : RmK} {Q : RmT → Prop} {vr vw n1 n2 n3 x1 x2 x4 x5 x6 : Int32} {RL T1 LR T2 T3 : Nat → Int32} (hK : ∀ RL n1 T1 LR n2 T2 n3 T3 x1 x2 x4, Tt (K vr (nI 1) RL n1 T1 LR n2 T2 n3 T3 x1 x2 x4) Q) : Tt (M_readMade_272 200000 K vr vw RL n1 T1 LR n2 T2 n3 T3 x1 x2 x4 x5 x6 (nI 1)) Q := by
  unfold M_readMade_272
  refine Tt_z (Or.inr rfl) ?_
  refine Tt_W16 (fun mm a b _ _ _ _ _ _ _ _ _ _ _ _ _ _ => a = vr ∧ b = nI 1) ?_ 200000 0 _ _ _ _ _ _ _ _ _ _ _ _ _ _ _ _ (by omega) ⟨rfl, rfl⟩
  rintro KK mm a b RL n1 T1 LR n2 T2 n3 T3 x1 x2 x4 x5 x6 x7 ⟨rfl, rfl⟩ _
  unfold M_readMade_278 M_readMade_340
  by_cases g : x6 ≤ x7
  · exact Tt_p g (hK _ _ _ _ _ _ _ _ _ _ _)
  · exact Tt_n g (Tt_n (by decide) (hK _ _ _ _ _ _ _ _ _ _ _))
theorem w_246 {K : RmK} {Q : RmT → Prop} {vr n1 n2 n3 x1 x2 x4 x5 s0 : Int32} {RL T1 LR T2 T3 : Nat → Int32} (hK : ∀ RL n1 T1 LR n2 T2 n3 T3 x1 x2 x4, Tt (K vr (nI 1) RL n1 T1 LR n2 T2 n3 T3 x1 x2 x4) Q) : Tt (M_readMade_246 200000 K vr (nI 1) RL n1 T1 LR n2 T2 n3 T3 x1 x2 x4 x5 s0) Q := by
  unfold M_readMade_246 M_readMade_267
  exact Tt_n (by decide) (w_272 hK)
theorem w_189 {K : RmK} {Q : RmT → Prop} {c : Nat → Int32} {bi : Nat → Nat} {len a M p : Nat} {vw n1 n2 n3 x1 x2 x4 x5 : Int32} {RL T1 LR T2 T3 : Nat → Int32} (hs : Src c len bi a M) (hp : p ≤ M) (hK : ∀ p', p' ≤ M → ∀ RL n1 T1 LR n2 T2 n3 T3 x1 x2 x4, Tt (K (nI p') (nI 1) RL n1 T1 LR n2 T2 n3 T3 x1 x2 x4) Q) : Tt (M_readMade_189 200000 66000 (nI a) (nI M) c K (nI p) vw RL n1 T1 LR n2 T2 n3 T3 x1 x2 x4 x5 (nI 1)) Q := by
  obtain ⟨h, hlen, hM, ha⟩ := hs
  have go : ∀ k (s : Int32 → Int32), k ≤ 16 → ∀ kk : Int32, kk = nI k → Tt (mR2 (M_readNumber 200000 66000 (nI a) (nI M) c (nI p) (nI 1) kk) fun r v w => M_readMade_246 200000 K v w RL n1 T1 LR n2 T2 n3 T3 x1 x2 x4 x5 (s r)) Q := by
    rintro k s hk _ rfl
    refine Tt_R2.2 (Tt_m (t_numM h hlen hM ha hp (k := k) (wr := 1) hk (by omega) rfl rfl rfl rfl rfl) ?_)
    rintro _ ⟨v1, p1, w1, rfl, hv1, hp1, hp1', hw1, g1, g2⟩
    dsimp only
    have e : w1 = 1 := by rcases g2 (Or.inl rfl) with q | q <;> omega
    subst e
    exact w_246 (hK p1 hp1')
  unfold M_readMade_189
  refine Tt_z (Or.inr rfl) ?_
  by_cases c1 : x5 = 16
  · exact Tt_p c1 (go 2 (fun r => 3 + r) (by omega) _ rfl)
  · refine Tt_n c1 ?_
    by_cases c2 : x5 = 17
    · exact Tt_p c2 (go 3 (fun r => 3 + r) (by omega) _ rfl)
    · refine Tt_n c2 ?_
      by_cases c3 : x5 = 18
      · exact Tt_p c3 (go 7 (fun r => 11 + r) (by omega) _ rfl)
      · exact Tt_n c3 (w_246 (hK p hp))
theorem t_189 {K : RmK} {Q : RmT → Prop} {c : Nat → Int32} {bi : Nat → Nat} {len a M p s : Nat} {vw n1 n2 n3 x1 x2 x4 : Int32} {RL T1 LR T2 T3 : Nat → Int32} (hs : Src c len bi a M) (hp : p ≤ M) (hs19 : s < 19) (hbad : M < p + rex s → ∀ p', p' ≤ M → ∀ RL n1 T1 LR n2 T2 n3 T3 x1 x2 x4, Tt (K (nI p') (nI 1) RL n1 T1 LR n2 T2 n3 T3 x1 x2 x4) Q) (hgood : p + rex s ≤ M → Tt (M_readMade_246 200000 K (nI (p + rex s)) (nI 0) RL n1 T1 LR n2 T2 n3 T3 x1 x2 x4 (nI s) (nI (rb s + num (sB bi a) p (rex s)))) Q) : Tt (M_readMade_189 200000 66000 (nI a) (nI M) c K (nI p) vw RL n1 T1 LR n2 T2 n3 T3 x1 x2 x4 (nI s) (nI 0)) Q := by
  obtain ⟨h, hlen, hM, ha⟩ := hs
  have go : ∀ k b, rex s = k → rb s = b → k ≤ 16 → ∀ kk bb : Int32, kk = nI k → bb = nI b → Tt (mR2 (M_readNumber 200000 66000 (nI a) (nI M) c (nI p) (nI 0) kk) fun r v w => M_readMade_246 200000 K v w RL n1 T1 LR n2 T2 n3 T3 x1 x2 x4 (nI s) (bb + r)) Q := by
    rintro k b rfl rfl hk _ _ rfl rfl
    refine Tt_R2.2 (Tt_m (t_numM h hlen hM ha hp (k := rex s) (wr := 0) hk (by omega) rfl rfl rfl rfl rfl) ?_)
    rintro _ ⟨v1, p1, w1, rfl, hv1, hp1, hp1', hw1, g1, g2⟩
    dsimp only
    by_cases y : p + rex s ≤ M
    · obtain ⟨rfl, rfl, rfl⟩ := g1 rfl y
      rw [nI_add]
      exact hgood y
    · have e : w1 = 1 := by rcases g2 (Or.inr (by omega)) with q | q <;> omega
      subst e
      exact w_246 (hbad (by omega) p1 hp1')
  unfold M_readMade_189
  refine Tt_z (Or.inl rfl) ?_
  by_cases c1 : s = 16
  · exact Tt_p (by rw [c1]; rfl) (go 2 3 (by rw [c1]; rfl) (by rw [c1]; rfl) (by omega) _ _ rfl rfl)
  · refine Tt_n (by first | decide | (simp (disch := omega) only [i_0, i_1, i_2, i_3, i_4, i_5, i_6, i_7, i_8, i_9, i_10, i_11, i_13, i_14, i_15, i_16, i_17, i_18, i_19, i_24, i_29, i_30, i_31, i_32, i_138, i_143, i_144, i_254, i_255, i_256, i_257, i_258, i_261, i_264, i_265, i_279, i_280, i_284, i_285, i_286, i_288, i_319, i_320, i_338, i_339, i_575, i_576, i_599, i_600, i_4096, i_8191, i_8192, i_8249, i_8250, i_8256, i_9000, i_16384, i_32767, i_32768, i_65520, i_65521, i_65535, i_65536, i_65999, i_66000, i_1300, i_120, i_156, nI_leI, nI_ltI, nI_eq, nI_add, n_neg, not_false_eq_true, not_true_eq_false] <;> omega)) ?_
    by_cases c2 : s = 17
    · exact Tt_p (by rw [c2]; rfl) (go 3 3 (by rw [c2]; rfl) (by rw [c2]; rfl) (by omega) _ _ rfl rfl)
    · refine Tt_n (by first | decide | (simp (disch := omega) only [i_0, i_1, i_2, i_3, i_4, i_5, i_6, i_7, i_8, i_9, i_10, i_11, i_13, i_14, i_15, i_16, i_17, i_18, i_19, i_24, i_29, i_30, i_31, i_32, i_138, i_143, i_144, i_254, i_255, i_256, i_257, i_258, i_261, i_264, i_265, i_279, i_280, i_284, i_285, i_286, i_288, i_319, i_320, i_338, i_339, i_575, i_576, i_599, i_600, i_4096, i_8191, i_8192, i_8249, i_8250, i_8256, i_9000, i_16384, i_32767, i_32768, i_65520, i_65521, i_65535, i_65536, i_65999, i_66000, i_1300, i_120, i_156, nI_leI, nI_ltI, nI_eq, nI_add, n_neg, not_false_eq_true, not_true_eq_false] <;> omega)) ?_
      by_cases c3 : s = 18
      · exact Tt_p (by rw [c3]; rfl) (go 7 11 (by rw [c3]; rfl) (by rw [c3]; rfl) (by omega) _ _ rfl rfl)
      · have q1 : rex s = 0 := rex_0 (by omega)
        have q2 : rb s = 1 := if_pos (by omega)
        refine Tt_n (by first | decide | (simp (disch := omega) only [i_0, i_1, i_2, i_3, i_4, i_5, i_6, i_7, i_8, i_9, i_10, i_11, i_13, i_14, i_15, i_16, i_17, i_18, i_19, i_24, i_29, i_30, i_31, i_32, i_138, i_143, i_144, i_254, i_255, i_256, i_257, i_258, i_261, i_264, i_265, i_279, i_280, i_284, i_285, i_286, i_288, i_319, i_320, i_338, i_339, i_575, i_576, i_599, i_600, i_4096, i_8191, i_8192, i_8249, i_8250, i_8256, i_9000, i_16384, i_32767, i_32768, i_65520, i_65521, i_65535, i_65536, i_65999, i_66000, i_1300, i_120, i_156, nI_leI, nI_ltI, nI_eq, nI_add, n_neg, not_false_eq_true, not_true_eq_false] <;> omega)) ?_
        rw [q1, q2] at hgood
        exact hgood hp
theorem t_272 {K : RmK} {Q : RmT → Prop} {p i s r : Nat} {vw n1 n2 n3 x1 x2 : Int32} {RL T1 LR T2 T3 : Nat → Int32} {g : Nat → Nat} (hs : s < 19) (hi : i + r ≤ 320) (h16 : ¬ (s = 16 ∧ i = 0)) (hL : ∀ j, j < i → LR j = nI (g j)) (hK : ∀ LR', (∀ j, j < i + r → LR' j = nI (rpL g i (rvl g i s) r j)) → Tt (K (nI p) (nI 0) RL n1 T1 LR' n2 T2 n3 T3 x1 x2 (nI (i + r))) Q) : Tt (M_readMade_272 200000 K (nI p) vw RL n1 T1 LR n2 T2 n3 T3 x1 x2 (nI i) (nI s) (nI r) (nI 0)) Q := by
  unfold M_readMade_272
  refine Tt_z (Or.inl rfl) ?_
  refine Tt_W16 (fun mm a b RL' n1' T1' LR' n2' T2' n3' T3' x1' x2' x4' x5' x6' x7' => a = nI p ∧ b = nI 0 ∧ RL' = RL ∧ n1' = n1 ∧ T1' = T1 ∧ n2' = n2 ∧ T2' = T2 ∧ n3' = n3 ∧ T3' = T3 ∧ x1' = x1 ∧ x2' = x2 ∧ x5' = nI s ∧ x6' = nI r ∧ ∃ d, x7' = nI d ∧ d ≤ r ∧ x4' = nI (i + d) ∧ mm = r - d ∧ ∀ j, j < i + d → LR' j = nI (rpL g i (rvl g i s) r j)) ?_ 200000 r _ _ _ _ _ _ _ _ _ _ _ _ _ _ _ _ (by omega) ⟨rfl, rfl, rfl, rfl, rfl, rfl, rfl, rfl, rfl, rfl, rfl, rfl, rfl, 0, rfl, by omega, rfl, rfl, fun j hj => by unfold rpL; rw [if_neg (by omega)]; exact hL j hj⟩
  rintro KK mm a b RL' n1' T1' LR' n2' T2' n3' T3' x1' x2' x4' x5' x6' x7' ⟨rfl, rfl, rfl, rfl, rfl, rfl, rfl, rfl, rfl, rfl, rfl, rfl, rfl, d, rfl, hd, rfl, rfl, hc⟩ ih
  unfold M_readMade_278 M_readMade_340
  by_cases z : r ≤ d
  · have e : d = r := by omega
    subst e
    exact Tt_p (by first | decide | (simp (disch := omega) only [i_0, i_1, i_2, i_3, i_4, i_5, i_6, i_7, i_8, i_9, i_10, i_11, i_13, i_14, i_15, i_16, i_17, i_18, i_19, i_24, i_29, i_30, i_31, i_32, i_138, i_143, i_144, i_254, i_255, i_256, i_257, i_258, i_261, i_264, i_265, i_279, i_280, i_284, i_285, i_286, i_288, i_319, i_320, i_338, i_339, i_575, i_576, i_599, i_600, i_4096, i_8191, i_8192, i_8249, i_8250, i_8256, i_9000, i_16384, i_32767, i_32768, i_65520, i_65521, i_65535, i_65536, i_65999, i_66000, i_1300, i_120, i_156, nI_leI, nI_ltI, nI_eq, nI_add, n_neg, not_false_eq_true, not_true_eq_false] <;> omega)) (hK _ hc)
  · have put : ∀ v, v = nI (rvl g i s) → Tt (M_readMade_330 200000 KK (nI p) (nI 0) RL' n1' T1' LR' n2' T2' n3' T3' x1' x2' (nI (i + d)) (nI s) (nI r) (nI d) (nI (i + d)) v) Q := by
      rintro _ rfl
      unfold M_readMade_330
      refine Tt_g (by omega) (by omega) (Tt_l (Tt_l (Tt_l ?_)))
      rw [nI_1, nI_1, nI_clamp (by omega)]
      refine ih (r - (d + 1)) _ _ _ _ _ _ _ _ _ _ _ _ _ _ _ _ (by omega) ⟨rfl, rfl, rfl, rfl, rfl, rfl, rfl, rfl, rfl, rfl, rfl, rfl, rfl, d + 1, rfl, by omega, rfl, rfl, fun j hj => ?_⟩
      by_cases e : j = i + d
      · rw [e, pk_us]
        unfold rpL
        rw [if_pos (by omega)]
      · rw [pk_un e]
        exact hc j (by omega)
    refine Tt_n (by first | decide | (simp (disch := omega) only [i_0, i_1, i_2, i_3, i_4, i_5, i_6, i_7, i_8, i_9, i_10, i_11, i_13, i_14, i_15, i_16, i_17, i_18, i_19, i_24, i_29, i_30, i_31, i_32, i_138, i_143, i_144, i_254, i_255, i_256, i_257, i_258, i_261, i_264, i_265, i_279, i_280, i_284, i_285, i_286, i_288, i_319, i_320, i_338, i_339, i_575, i_576, i_599, i_600, i_4096, i_8191, i_8192, i_8249, i_8250, i_8256, i_9000, i_16384, i_32767, i_32768, i_65520, i_65521, i_65535, i_65536, i_65999, i_66000, i_1300, i_120, i_156, nI_leI, nI_ltI, nI_eq, nI_add, n_neg, not_false_eq_true, not_true_eq_false] <;> omega)) (Tt_p rfl ?_)
    by_cases s1 : s < 16
    · refine Tt_n (by first | decide | (simp (disch := omega) only [i_0, i_1, i_2, i_3, i_4, i_5, i_6, i_7, i_8, i_9, i_10, i_11, i_13, i_14, i_15, i_16, i_17, i_18, i_19, i_24, i_29, i_30, i_31, i_32, i_138, i_143, i_144, i_254, i_255, i_256, i_257, i_258, i_261, i_264, i_265, i_279, i_280, i_284, i_285, i_286, i_288, i_319, i_320, i_338, i_339, i_575, i_576, i_599, i_600, i_4096, i_8191, i_8192, i_8249, i_8250, i_8256, i_9000, i_16384, i_32767, i_32768, i_65520, i_65521, i_65535, i_65536, i_65999, i_66000, i_1300, i_120, i_156, nI_leI, nI_ltI, nI_eq, nI_add, n_neg, not_false_eq_true, not_true_eq_false] <;> omega)) (put _ ?_)
      unfold rvl
      rw [if_pos s1]
    · refine Tt_p (by first | decide | (simp (disch := omega) only [i_0, i_1, i_2, i_3, i_4, i_5, i_6, i_7, i_8, i_9, i_10, i_11, i_13, i_14, i_15, i_16, i_17, i_18, i_19, i_24, i_29, i_30, i_31, i_32, i_138, i_143, i_144, i_254, i_255, i_256, i_257, i_258, i_261, i_264, i_265, i_279, i_280, i_284, i_285, i_286, i_288, i_319, i_320, i_338, i_339, i_575, i_576, i_599, i_600, i_4096, i_8191, i_8192, i_8249, i_8250, i_8256, i_9000, i_16384, i_32767, i_32768, i_65520, i_65521, i_65535, i_65536, i_65999, i_66000, i_1300, i_120, i_156, nI_leI, nI_ltI, nI_eq, nI_add, n_neg, not_false_eq_true, not_true_eq_false] <;> omega)) ?_
      by_cases s2 : s = 16
      · have e1 : nI (i + d) - 1 = nI (i + d - 1) := n_pred (by omega)
        refine Tt_p (by first | decide | (simp (disch := omega) only [i_0, i_1, i_2, i_3, i_4, i_5, i_6, i_7, i_8, i_9, i_10, i_11, i_13, i_14, i_15, i_16, i_17, i_18, i_19, i_24, i_29, i_30, i_31, i_32, i_138, i_143, i_144, i_254, i_255, i_256, i_257, i_258, i_261, i_264, i_265, i_279, i_280, i_284, i_285, i_286, i_288, i_319, i_320, i_338, i_339, i_575, i_576, i_599, i_600, i_4096, i_8191, i_8192, i_8249, i_8250, i_8256, i_9000, i_16384, i_32767, i_32768, i_65520, i_65521, i_65535, i_65536, i_65999, i_66000, i_1300, i_120, i_156, nI_leI, nI_ltI, nI_eq, nI_add, n_neg, not_false_eq_true, not_true_eq_false] <;> omega)) (Tt_l ?_)
        rw [e1]
        refine Tt_g (by omega) (by omega) (put _ ?_)
        rw [nI_clamp (by omega), hc (i + d - 1) (by omega)]
        unfold rpL
        by_cases d0 : d = 0
        · subst d0
          rw [if_neg (by omega)]
          unfold rvl
          rw [if_neg s1, if_pos s2]
          rfl
        · rw [if_pos (by omega)]
      · refine Tt_n (by first | decide | (simp (disch := omega) only [i_0, i_1, i_2, i_3, i_4, i_5, i_6, i_7, i_8, i_9, i_10, i_11, i_13, i_14, i_15, i_16, i_17, i_18, i_19, i_24, i_29, i_30, i_31, i_32, i_138, i_143, i_144, i_254, i_255, i_256, i_257, i_258, i_261, i_264, i_265, i_279, i_280, i_284, i_285, i_286, i_288, i_319, i_320, i_338, i_339, i_575, i_576, i_599, i_600, i_4096, i_8191, i_8192, i_8249, i_8250, i_8256, i_9000, i_16384, i_32767, i_32768, i_65520, i_65521, i_65535, i_65536, i_65999, i_66000, i_1300, i_120, i_156, nI_leI, nI_ltI, nI_eq, nI_add, n_neg, not_false_eq_true, not_true_eq_false] <;> omega)) (put _ ?_)
        unfold rvl
        rw [if_neg s1, if_neg s2]
        rfl
theorem w_133 {M p : Nat} {R : MkR} {c : Nat → Int32} {vf vb vw n1 n2 n3 x1 x2 : Int32} {RL T1 LR T2 T3 : Nat → Int32} (hp : p ≤ M) (hR : R = none) : Tt (M_readMade_133 200000 66000 vf vb c (nI p) vw RL n1 T1 LR n2 T2 n3 T3 x1 x2 (nI 1)) (QN M R) := by
  unfold M_readMade_133
  refine Tt_z (Or.inr rfl) ?_
  refine Tt_W13 (fun mm a b _ _ _ _ _ _ _ _ _ _ _ => a = nI p ∧ b = nI 1) ?_ 200000 0 _ _ _ _ _ _ _ _ _ _ _ _ _ (by omega) ⟨rfl, rfl⟩
  rintro K mm a b RL n1 T1 LR n2 T2 n3 T3 x1 x2 x4 ⟨rfl, rfl⟩ _
  unfold M_readMade_139
  by_cases g : x1 + x2 ≤ x4
  · exact Tt_p g (w_343 hp hR)
  · exact Tt_n g (Tt_n (by decide) (w_343 hp hR))
theorem t_133 {M p hl hd len a : Nat} {R : MkR} {c : Nat → Int32} {bi f : Nat → Nat} {vw n1 n2 n3 : Int32} {RL T1 LR T2 T3 : Nat → Int32} (hs : Src c len bi a M) (hp : p ≤ M) (hl1 : 257 ≤ hl) (hl2 : hl ≤ 286) (hd2 : hd ≤ 30) (hf : ∀ i, f i ≤ 15) (hT : TreeOK T1 f 19) (hR : mkc2 hl hd (rdl f (sB bi a) M (hl + hd) 400 p 0 (fun _ => 0)) = R) : Tt (M_readMade_133 200000 66000 (nI a) (nI M) c (nI p) vw RL n1 T1 LR n2 T2 n3 T3 (nI hl) (nI hd) (nI 0)) (QN M R) := by
  unfold M_readMade_133
  refine Tt_z (Or.inl rfl) ?_
  refine Tt_W13 (fun mm vr vw _ _ T1' LR _ _ _ _ x1 x2 x4 => (mm = 0 ∧ vw = nI 1 ∧ R = none ∧ ∃ p', p' ≤ M ∧ vr = nI p') ∨ (∃ p i g k, vw = nI 0 ∧ vr = nI p ∧ p ≤ M ∧ T1' = T1 ∧ x1 = nI hl ∧ x2 = nI hd ∧ x4 = nI i ∧ i ≤ hl + hd ∧ (∀ j, g j ≤ 15) ∧ (∀ j, j < i → LR j = nI (g j)) ∧ hl + hd - i < k ∧ mm = hl + hd - i + 1 ∧ mkc2 hl hd (rdl f (sB bi a) M (hl + hd) k p i g) = R)) ?_ 200000 (hl + hd + 1) _ _ _ _ _ _ _ _ _ _ _ _ _ (by omega) (Or.inr ⟨p, 0, fun _ => 0, 400, rfl, rfl, hp, rfl, rfl, rfl, rfl, by omega, fun _ => Nat.zero_le _, fun j hj => absurd hj (by omega), by omega, by omega, hR⟩)
  clear hR hp p
  rintro K mm vr vw RL n1 T1' LR n2 T2 n3 T3 x1 x2 x4 (⟨rfl, rfl, hR, p', hp', rfl⟩ | ⟨p, i, g, k, rfl, rfl, hp, rfl, rfl, rfl, rfl, hi, hg, hL, hk, rfl, hR⟩) ih
  · unfold M_readMade_139
    by_cases g : x1 + x2 ≤ x4
    · exact Tt_p g (w_343 hp' hR)
    · exact Tt_n g (Tt_n (by decide) (w_343 hp' hR))
  · obtain ⟨k', rfl⟩ : ∃ k', k = k' + 1 := ⟨k - 1, by omega⟩
    unfold rdl at hR
    have bad : R = none → ∀ p', p' ≤ M → ∀ RL n1 T1 LR n2 T2 n3 T3 x1 x2 x4, Tt (K (nI p') (nI 1) RL n1 T1 LR n2 T2 n3 T3 x1 x2 x4) (QN M R) := by
      intro e p' hp' RL n1 T1 LR n2 T2 n3 T3 x1 x2 x4
      exact ih 0 _ _ _ _ _ _ _ _ _ _ _ _ _ (by omega) (Or.inl ⟨rfl, rfl, e, p', hp', rfl⟩)
    unfold M_readMade_139
    rw [nI_add]
    by_cases z : hl + hd ≤ i
    · have e : i = hl + hd := by omega
      rw [if_pos z] at hR
      exact Tt_p (by first | decide | (simp (disch := omega) only [i_0, i_1, i_2, i_3, i_4, i_5, i_6, i_7, i_8, i_9, i_10, i_11, i_13, i_14, i_15, i_16, i_17, i_18, i_19, i_24, i_29, i_30, i_31, i_32, i_138, i_143, i_144, i_254, i_255, i_256, i_257, i_258, i_261, i_264, i_265, i_279, i_280, i_284, i_285, i_286, i_288, i_319, i_320, i_338, i_339, i_575, i_576, i_599, i_600, i_4096, i_8191, i_8192, i_8249, i_8250, i_8256, i_9000, i_16384, i_32767, i_32768, i_65520, i_65521, i_65535, i_65536, i_65999, i_66000, i_1300, i_120, i_156, nI_leI, nI_ltI, nI_eq, nI_add, n_neg, not_false_eq_true, not_true_eq_false] <;> omega)) (t_343 hp hg (fun j hj => hL j (by omega)) hl1 hl2 hd2 rfl rfl hR)
    · rw [if_neg z] at hR
      refine Tt_n (by first | decide | (simp (disch := omega) only [i_0, i_1, i_2, i_3, i_4, i_5, i_6, i_7, i_8, i_9, i_10, i_11, i_13, i_14, i_15, i_16, i_17, i_18, i_19, i_24, i_29, i_30, i_31, i_32, i_138, i_143, i_144, i_254, i_255, i_256, i_257, i_258, i_261, i_264, i_265, i_279, i_280, i_284, i_285, i_286, i_288, i_319, i_320, i_338, i_339, i_575, i_576, i_599, i_600, i_4096, i_8191, i_8192, i_8249, i_8250, i_8256, i_9000, i_16384, i_32767, i_32768, i_65520, i_65521, i_65535, i_65536, i_65999, i_66000, i_1300, i_120, i_156, nI_leI, nI_ltI, nI_eq, nI_add, n_neg, not_false_eq_true, not_true_eq_false] <;> omega)) (Tt_p rfl (Tt_R2.2 (Tt_m (t_symM hs.1 hs.2.1 hs.2.2.1 hs.2.2.2 hp (n := 19) (by omega) (fun i _ => hf i) hT rfl rfl rfl rfl) ?_)))
      rintro ⟨r, vr2, vw2⟩ ⟨g1, g2⟩
      dsimp only at g1 g2 ⊢
      cases hd' : dcd f 19 (sB bi a) M p with
      | none =>
        obtain ⟨p', q1, q2, q3⟩ := g2 hd'
        obtain ⟨rfl, rfl, rfl⟩ : r = nI 0 ∧ vr2 = nI p' ∧ vw2 = nI 1 := ⟨congrArg Prod.fst q3, congrArg (fun z => z.2.1) q3, congrArg (fun z => z.2.2) q3⟩
        rw [hd'] at hR
        refine Tt_n (by decide) ?_
        unfold M_readMade_184
        exact w_189 hs q2 (bad hR.symm)
      | some q =>
        obtain ⟨s, p1⟩ := q
        have q3 := g1 s p1 hd'
        obtain ⟨rfl, rfl, rfl⟩ : r = nI s ∧ vr2 = nI p1 ∧ vw2 = nI 0 := ⟨congrArg Prod.fst q3, congrArg (fun z => z.2.1) q3, congrArg (fun z => z.2.2) q3⟩
        have db := dcd_b hd'
        rw [hd'] at hR
        dsimp only at hR
        have nl := num_lt (sB_lt bi a) p1 (rex s)
        have n7 : 2 ^ rex s ≤ 2 ^ 7 := Nat.pow_le_pow_right (by omega) (y_rex s db.1).2.2
        have hrb := rb_b s
        have rest : ¬ (s = 16 ∧ i = 0) → Tt (M_readMade_188 200000 66000 (nI a) (nI M) c K (nI p1) (nI 0) RL n1 T1' LR n2 T2 n3 T3 (nI hl) (nI hd) (nI i) (nI s)) (QN M R) := by
          intro w
          unfold M_readMade_188
          refine t_189 hs db.2.2.1 db.1 (fun y => bad ?_) (fun y => ?_)
          · rw [if_pos (Or.inl y)] at hR
            exact hR.symm
          · generalize num (sB bi a) p1 (rex s) = v at *
            unfold M_readMade_246
            rw [nI_add, nI_add]
            refine Tt_p rfl ?_
            by_cases x : i + (rb s + v) ≤ hl + hd
            · rw [if_neg (by omega)] at hR
              refine Tt_p (by first | decide | (simp (disch := omega) only [i_0, i_1, i_2, i_3, i_4, i_5, i_6, i_7, i_8, i_9, i_10, i_11, i_13, i_14, i_15, i_16, i_17, i_18, i_19, i_24, i_29, i_30, i_31, i_32, i_138, i_143, i_144, i_254, i_255, i_256, i_257, i_258, i_261, i_264, i_265, i_279, i_280, i_284, i_285, i_286, i_288, i_319, i_320, i_338, i_339, i_575, i_576, i_599, i_600, i_4096, i_8191, i_8192, i_8249, i_8250, i_8256, i_9000, i_16384, i_32767, i_32768, i_65520, i_65521, i_65535, i_65536, i_65999, i_66000, i_1300, i_120, i_156, nI_leI, nI_ltI, nI_eq, nI_add, n_neg, not_false_eq_true, not_true_eq_false] <;> omega)) (t_272 db.1 (by omega) w hL ?_)
              intro LR' hL'
              exact ih (hl + hd - (i + (rb s + v)) + 1) _ _ _ _ _ _ _ _ _ _ _ _ _ (by omega) (Or.inr ⟨p1 + rex s, i + (rb s + v), _, k', rfl, rfl, y, rfl, rfl, rfl, rfl, x, rpL_b hg (rvl_b hg), hL', by omega, rfl, hR⟩)
            · rw [if_pos (by omega)] at hR
              refine Tt_n (by first | decide | (simp (disch := omega) only [i_0, i_1, i_2, i_3, i_4, i_5, i_6, i_7, i_8, i_9, i_10, i_11, i_13, i_14, i_15, i_16, i_17, i_18, i_19, i_24, i_29, i_30, i_31, i_32, i_138, i_143, i_144, i_254, i_255, i_256, i_257, i_258, i_261, i_264, i_265, i_279, i_280, i_284, i_285, i_286, i_288, i_319, i_320, i_338, i_339, i_575, i_576, i_599, i_600, i_4096, i_8191, i_8192, i_8249, i_8250, i_8256, i_9000, i_16384, i_32767, i_32768, i_65520, i_65521, i_65535, i_65536, i_65999, i_66000, i_1300, i_120, i_156, nI_leI, nI_ltI, nI_eq, nI_add, n_neg, not_false_eq_true, not_true_eq_false] <;> omega)) ?_
              unfold M_readMade_267
              exact w_272 (bad hR.symm _ y)
        refine Tt_p rfl ?_
        by_cases s2 : s = 16
        · refine Tt_p (by first | decide | (simp (disch := omega) only [i_0, i_1, i_2, i_3, i_4, i_5, i_6, i_7, i_8, i_9, i_10, i_11, i_13, i_14, i_15, i_16, i_17, i_18, i_19, i_24, i_29, i_30, i_31, i_32, i_138, i_143, i_144, i_254, i_255, i_256, i_257, i_258, i_261, i_264, i_265, i_279, i_280, i_284, i_285, i_286, i_288, i_319, i_320, i_338, i_339, i_575, i_576, i_599, i_600, i_4096, i_8191, i_8192, i_8249, i_8250, i_8256, i_9000, i_16384, i_32767, i_32768, i_65520, i_65521, i_65535, i_65536, i_65999, i_66000, i_1300, i_120, i_156, nI_leI, nI_ltI, nI_eq, nI_add, n_neg, not_false_eq_true, not_true_eq_false] <;> omega)) ?_
          by_cases i0 : i = 0
          · rw [if_pos (Or.inr (Or.inl ⟨s2, i0⟩))] at hR
            refine Tt_p (by first | decide | (simp (disch := omega) only [i_0, i_1, i_2, i_3, i_4, i_5, i_6, i_7, i_8, i_9, i_10, i_11, i_13, i_14, i_15, i_16, i_17, i_18, i_19, i_24, i_29, i_30, i_31, i_32, i_138, i_143, i_144, i_254, i_255, i_256, i_257, i_258, i_261, i_264, i_265, i_279, i_280, i_284, i_285, i_286, i_288, i_319, i_320, i_338, i_339, i_575, i_576, i_599, i_600, i_4096, i_8191, i_8192, i_8249, i_8250, i_8256, i_9000, i_16384, i_32767, i_32768, i_65520, i_65521, i_65535, i_65536, i_65999, i_66000, i_1300, i_120, i_156, nI_leI, nI_ltI, nI_eq, nI_add, n_neg, not_false_eq_true, not_true_eq_false] <;> omega)) ?_
            unfold M_readMade_184
            exact w_189 hs db.2.2.1 (bad hR.symm)
          · exact Tt_n (by first | decide | (simp (disch := omega) only [i_0, i_1, i_2, i_3, i_4, i_5, i_6, i_7, i_8, i_9, i_10, i_11, i_13, i_14, i_15, i_16, i_17, i_18, i_19, i_24, i_29, i_30, i_31, i_32, i_138, i_143, i_144, i_254, i_255, i_256, i_257, i_258, i_261, i_264, i_265, i_279, i_280, i_284, i_285, i_286, i_288, i_319, i_320, i_338, i_339, i_575, i_576, i_599, i_600, i_4096, i_8191, i_8192, i_8249, i_8250, i_8256, i_9000, i_16384, i_32767, i_32768, i_65520, i_65521, i_65535, i_65536, i_65999, i_66000, i_1300, i_120, i_156, nI_leI, nI_ltI, nI_eq, nI_add, n_neg, not_false_eq_true, not_true_eq_false] <;> omega)) (rest (fun q => i0 q.2))
        · exact Tt_n (by first | decide | (simp (disch := omega) only [i_0, i_1, i_2, i_3, i_4, i_5, i_6, i_7, i_8, i_9, i_10, i_11, i_13, i_14, i_15, i_16, i_17, i_18, i_19, i_24, i_29, i_30, i_31, i_32, i_138, i_143, i_144, i_254, i_255, i_256, i_257, i_258, i_261, i_264, i_265, i_279, i_280, i_284, i_285, i_286, i_288, i_319, i_320, i_338, i_339, i_575, i_576, i_599, i_600, i_4096, i_8191, i_8192, i_8249, i_8250, i_8256, i_9000, i_16384, i_32767, i_32768, i_65520, i_65521, i_65535, i_65536, i_65999, i_66000, i_1300, i_120, i_156, nI_leI, nI_ltI, nI_eq, nI_add, n_neg, not_false_eq_true, not_true_eq_false] <;> omega)) (rest (fun q => s2 q.1))
theorem w_128 {M p : Nat} {R : MkR} {c : Nat → Int32} {vf vb vw n1 n2 n3 x1 x2 : Int32} {RL T1 LR T2 T3 : Nat → Int32} (hp : p ≤ M) (hR : R = none) : Tt (M_readMade_128 200000 66000 vf vb c (nI p) vw RL n1 T1 LR n2 T2 n3 T3 x1 x2) (QN M R) := by
  unfold M_readMade_128
  exact w_133 hp hR
theorem t_100 {M p hl hd len a w : Nat} {R : MkR} {c : Nat → Int32} {bi f : Nat → Nat} {n1 n2 n3 : Int32} {RL T1 LR T2 T3 : Nat → Int32} (hs : Src c len bi a M) (hp : p ≤ M) (hw : w ≤ 1) (hw1 : w = 1 → R = none) (hw0 : w = 0 → 257 ≤ hl ∧ hl ≤ 286 ∧ hd ≤ 30 ∧ (∀ i, f i ≤ 15) ∧ (∀ i, i < 19 → RL (320 + i) = nI (f i)) ∧ (gd f 19 0 → mkc2 hl hd (rdl f (sB bi a) M (hl + hd) 400 p 0 (fun _ => 0)) = R) ∧ (¬ gd f 19 0 → R = none)) : Tt (M_readMade_100 200000 66000 (nI a) (nI M) c (nI p) (nI w) RL n1 T1 LR n2 T2 n3 T3 (nI hl) (nI hd)) (QN M R) := by
  unfold M_readMade_100
  by_cases z : w = 0
  · subst z
    obtain ⟨hl1, hl2, hd2, hf, hRL, hR1, hR0⟩ := hw0 rfl
    refine Tt_p rfl (Tt_R2.2 (Tt_m (t_makeM (a := 320) (n := 19) (mb := 0) (f := f) rfl rfl rfl (by omega) (by omega) (by omega) (by omega) hRL (fun i _ => hf i)) ?_))
    rintro ⟨r28, v26, t27⟩ ⟨g1, g2⟩
    dsimp only at g1 g2 ⊢
    by_cases G : gd f 19 0
    · obtain ⟨rfl, hT⟩ := g1 G
      exact Tt_n (by decide) (t_133 hs hp hl1 hl2 hd2 hf hT (hR1 G))
    · have e := g2 G
      subst e
      exact Tt_p rfl (w_128 hp (hR0 G))
  · have e : w = 1 := by omega
    subst e
    exact Tt_n (by decide) (w_128 hp (hw1 rfl))
theorem t_52 {M q nl nd nc len a w : Nat} {R : MkR} {c : Nat → Int32} {bi : Nat → Nat} {vw n1 n2 n3 : Int32} {RL T1 LR T2 T3 : Nat → Int32} (hs : Src c len bi a M) (hq : q ≤ M) (hw : w ≤ 1) (hnc : nc < 16) (hw1 : w = 1 → R = none) (hw0 : w = 0 → nl ≤ 29 ∧ nd ≤ 29 ∧ (if M < q + 3 * (nc + 4) ∨ ¬ gd (fcl (sB bi a) q (nc + 4)) 19 0 then none else mkc2 (nl + 257) (nd + 1) (rdl (fcl (sB bi a) q (nc + 4)) (sB bi a) M (nl + 257 + (nd + 1)) 400 (q + 3 * (nc + 4)) 0 (fun _ => 0))) = R) : Tt (M_readMade_52 200000 66000 (nI a) (nI M) c (nI q) vw RL n1 T1 LR n2 T2 n3 T3 (nI (nl + 257)) (nI (nd + 1)) (nI (nc + 4)) (nI w)) (QN M R) := by
  unfold M_readMade_52
  refine Tt_z (by rcases (show w = 0 ∨ w = 1 by omega) with e | e <;> subst e <;> simp) ?_
  refine Tt_W14 (fun mm vr vw RL _ _ _ _ _ _ _ x1 x2 x3 x4 => x1 = nI (nl + 257) ∧ x2 = nI (nd + 1) ∧ x3 = nI (nc + 4) ∧ ∃ k p' w', x4 = nI k ∧ k ≤ 19 ∧ mm = 19 - k ∧ vr = nI p' ∧ p' ≤ M ∧ vw = nI w' ∧ w' ≤ 1 ∧ (w' = 1 → R = none) ∧ (w' = 0 → w = 0 ∧ p' = q + 3 * (if k < nc + 4 then k else nc + 4) ∧ ∀ j, j < k → RL (320 + ord j) = nI (if j < nc + 4 then num (sB bi a) (q + 3 * j) 3 else 0))) ?_ 200000 19 _ _ _ _ _ _ _ _ _ _ _ _ _ _ (by omega) ⟨rfl, rfl, rfl, 0, q, w, rfl, by omega, rfl, rfl, hq, rfl, hw, hw1, fun e => ⟨e, by rw [if_pos (by omega)], fun j hj => absurd hj (by omega)⟩⟩
  rintro K mm vr vw RL n1 T1 LR n2 T2 n3 T3 x1 x2 x3 x4 ⟨rfl, rfl, rfl, k, p', w', rfl, hk, rfl, rfl, hp', rfl, hw', hN, hG⟩ ih
  unfold M_readMade_58
  by_cases z : 19 ≤ k
  · have e : k = 19 := by omega
    subst e
    refine Tt_p (by first | decide | (simp (disch := omega) only [i_0, i_1, i_2, i_3, i_4, i_5, i_6, i_7, i_8, i_9, i_10, i_11, i_13, i_14, i_15, i_16, i_17, i_18, i_19, i_24, i_29, i_30, i_31, i_32, i_138, i_143, i_144, i_254, i_255, i_256, i_257, i_258, i_261, i_264, i_265, i_279, i_280, i_284, i_285, i_286, i_288, i_319, i_320, i_338, i_339, i_575, i_576, i_599, i_600, i_4096, i_8191, i_8192, i_8249, i_8250, i_8256, i_9000, i_16384, i_32767, i_32768, i_65520, i_65521, i_65535, i_65536, i_65999, i_66000, i_1300, i_120, i_156, nI_leI, nI_ltI, nI_eq, nI_add, n_neg, not_false_eq_true, not_true_eq_false] <;> omega)) (t_100 (f := fcl (sB bi a) q (nc + 4)) hs hp' hw' hN (fun e => ?_))
    obtain ⟨e1, e2, e3⟩ := hG e
    obtain ⟨k1, k2, hR⟩ := hw0 e1
    rw [if_neg (by omega)] at e2
    subst e2
    refine ⟨by omega, by omega, by omega, fcl_b (sB_lt bi a) q _, fun i hi => ?_, fun G => ?_, fun G => ?_⟩
    · obtain ⟨j, hj⟩ := ord_on i hi
      rw [← hj, e3 j.1 j.2, fcl_o j.2 _ (by omega)]
    · rw [if_neg (fun k => k.elim (by omega) (fun k => k G))] at hR
      exact hR
    · rw [if_pos (Or.inr G)] at hR
      exact hR.symm
  · have yo := y_ord k (by omega)
    refine Tt_n (by first | decide | (simp (disch := omega) only [i_0, i_1, i_2, i_3, i_4, i_5, i_6, i_7, i_8, i_9, i_10, i_11, i_13, i_14, i_15, i_16, i_17, i_18, i_19, i_24, i_29, i_30, i_31, i_32, i_138, i_143, i_144, i_254, i_255, i_256, i_257, i_258, i_261, i_264, i_265, i_279, i_280, i_284, i_285, i_286, i_288, i_319, i_320, i_338, i_339, i_575, i_576, i_599, i_600, i_4096, i_8191, i_8192, i_8249, i_8250, i_8256, i_9000, i_16384, i_32767, i_32768, i_65520, i_65521, i_65535, i_65536, i_65999, i_66000, i_1300, i_120, i_156, nI_leI, nI_ltI, nI_eq, nI_add, n_neg, not_false_eq_true, not_true_eq_false] <;> omega)) (Tt_R0.2 (Tt_o yo.2.1 ?_))
    dsimp only
    have e320 : 320 + nI (ord k) = nI (320 + ord k) := nI_add 320 (ord k)
    rw [e320]
    have put : ∀ p2 w2 v, p2 ≤ M → w2 ≤ 1 → (w2 = 1 → R = none) → (w2 = 0 → w' = 0 ∧ p2 = q + 3 * (if k + 1 < nc + 4 then k + 1 else nc + 4) ∧ v = nI (if k < nc + 4 then num (sB bi a) (q + 3 * k) 3 else 0)) → Tt (M_readMade_93 200000 K (nI p2) (nI w2) RL n1 T1 LR n2 T2 n3 T3 (nI (nl + 257)) (nI (nd + 1)) (nI (nc + 4)) (nI k) (nI (320 + ord k)) v) (QN M R) := by
      intro p2 w2 v hp2 hw2 h1 h0
      unfold M_readMade_93
      refine Tt_g (by omega) (by omega) (Tt_l (Tt_l ?_))
      rw [nI_1, nI_clamp (by omega)]
      refine ih (19 - (k + 1)) _ _ _ _ _ _ _ _ _ _ _ _ _ _ (by omega) ⟨rfl, rfl, rfl, k + 1, p2, w2, rfl, by omega, rfl, rfl, hp2, rfl, hw2, h1, fun e => ?_⟩
      obtain ⟨a1, a2, a3⟩ := h0 e
      obtain ⟨b1, b2, b3⟩ := hG a1
      refine ⟨b1, a2, fun j hj => ?_⟩
      by_cases e : j = k
      · rw [e, pk_us, a3]
      · have ne : 320 + ord j ≠ 320 + ord k := fun h => e (ord_inj j (by omega) k (by omega) (by omega))
        rw [pk_un ne]
        exact b3 j (by omega)
    by_cases y : nc + 4 ≤ k
    · refine Tt_p (by first | decide | (simp (disch := omega) only [i_0, i_1, i_2, i_3, i_4, i_5, i_6, i_7, i_8, i_9, i_10, i_11, i_13, i_14, i_15, i_16, i_17, i_18, i_19, i_24, i_29, i_30, i_31, i_32, i_138, i_143, i_144, i_254, i_255, i_256, i_257, i_258, i_261, i_264, i_265, i_279, i_280, i_284, i_285, i_286, i_288, i_319, i_320, i_338, i_339, i_575, i_576, i_599, i_600, i_4096, i_8191, i_8192, i_8249, i_8250, i_8256, i_9000, i_16384, i_32767, i_32768, i_65520, i_65521, i_65535, i_65536, i_65999, i_66000, i_1300, i_120, i_156, nI_leI, nI_ltI, nI_eq, nI_add, n_neg, not_false_eq_true, not_true_eq_false] <;> omega)) (put p' w' _ hp' hw' hN (fun e => ⟨e, ?_, ?_⟩))
      · rw [(hG e).2.1, if_neg (by omega), if_neg (by omega)]
      · rw [if_neg (by omega)]
        rfl
    · refine Tt_n (by first | decide | (simp (disch := omega) only [i_0, i_1, i_2, i_3, i_4, i_5, i_6, i_7, i_8, i_9, i_10, i_11, i_13, i_14, i_15, i_16, i_17, i_18, i_19, i_24, i_29, i_30, i_31, i_32, i_138, i_143, i_144, i_254, i_255, i_256, i_257, i_258, i_261, i_264, i_265, i_279, i_280, i_284, i_285, i_286, i_288, i_319, i_320, i_338, i_339, i_575, i_576, i_599, i_600, i_4096, i_8191, i_8192, i_8249, i_8250, i_8256, i_9000, i_16384, i_32767, i_32768, i_65520, i_65521, i_65535, i_65536, i_65999, i_66000, i_1300, i_120, i_156, nI_leI, nI_ltI, nI_eq, nI_add, n_neg, not_false_eq_true, not_true_eq_false] <;> omega)) (Tt_R2.2 (Tt_m (t_numM hs.1 hs.2.1 hs.2.2.1 hs.2.2.2 hp' (k := 3) (wr := w') (by omega) hw' rfl rfl rfl rfl rfl) ?_))
      rintro _ ⟨v1, p1, w1, rfl, hv1, hp1, hp1', hw1', g1, g2⟩
      dsimp only
      refine put p1 w1 _ hp1' hw1' (fun e => ?_) (fun e => ?_)
      · by_cases e0 : w' = 0
        · obtain ⟨c1, c2, c3⟩ := hG e0
          obtain ⟨k1, k2, hR⟩ := hw0 c1
          rw [if_pos (by omega)] at c2
          by_cases x : p' + 3 ≤ M
          · have := (g1 e0 x).2.2
            omega
          · rw [if_pos (Or.inl (by omega))] at hR
            exact hR.symm
        · exact hN (by omega)
      · have e0 : w' = 0 := by
          rcases (show w' = 0 ∨ w' = 1 by omega) with e0 | e0
          · exact e0
          · rcases g2 (Or.inl e0) with q | q <;> omega
        have x : p' + 3 ≤ M := by
          by_cases x : p' + 3 ≤ M
          · exact x
          · rcases g2 (Or.inr (by omega)) with q | q <;> omega
        obtain ⟨c1, c2, c3⟩ := hG e0
        rw [if_pos (by omega)] at c2
        obtain ⟨rfl, rfl, _⟩ := g1 e0 x
        refine ⟨e0, ?_, ?_⟩
        · by_cases k1 : k + 1 < nc + 4
          · rw [if_pos k1]
            omega
          · rw [if_neg k1]
            omega
        · rw [if_pos (by omega), c2]
theorem t_codesM {c RL T1 LR T2 T3 : Nat → Int32} {bi : Nat → Nat} {len a M p wr : Nat} {R : MkR} {vf vb vr vw n1 n2 n3 : Int32} (hs : Src c len bi a M) (hp : p ≤ M) (hwr : wr ≤ 1) (e1 : vf = nI a) (e2 : vb = nI M) (e3 : vr = nI p) (e4 : vw = nI wr) (hR : (if wr = 0 then mkc (sB bi a) M p else none) = R) : Tt (M_readMade 200000 66000 vf vb c vr vw RL n1 T1 LR n2 T2 n3 T3) (fun u => PN M R u.2.1 u.2.2.1 u.2.2.2.2.2.2.2.2.1 u.2.2.2.2.2.2.2.2.2.2) := by
  subst e1 e2 e3 e4
  show Tt _ (QN M R)
  unfold M_readMade
  refine Tt_R2.2 (Tt_m (t_numM hs.1 hs.2.1 hs.2.2.1 hs.2.2.2 hp (k := 5) (wr := wr) (by omega) hwr rfl rfl rfl rfl rfl) ?_)
  rintro _ ⟨v1, p1, w1, rfl, hv1, hp1, hp1', hw1, g1, g2⟩
  dsimp only
  refine Tt_l ?_
  refine Tt_R2.2 (Tt_m (t_numM hs.1 hs.2.1 hs.2.2.1 hs.2.2.2 hp1' (k := 5) (wr := w1) (by omega) hw1 rfl rfl rfl rfl rfl) ?_)
  rintro _ ⟨v2, p2, w2, rfl, hv2, hp2, hp2', hw2, g3, g4⟩
  dsimp only
  refine Tt_l ?_
  refine Tt_R2.2 (Tt_m (t_numM hs.1 hs.2.1 hs.2.2.1 hs.2.2.2 hp2' (k := 4) (wr := w2) (by omega) hw2 rfl rfl rfl rfl rfl) ?_)
  rintro _ ⟨v3, p3, w3, rfl, hv3, hp3, hp3', hw3, g5, g6⟩
  dsimp only
  refine Tt_l ?_
  have e1 : nI v1 + 257 = nI (v1 + 257) := nI_add v1 257
  have e2 : nI v2 + 1 = nI (v2 + 1) := nI_1 v2
  have e3 : nI v3 + 4 = nI (v3 + 4) := nI_add v3 4
  rw [e1, e2, e3]
  by_cases ok : wr = 0 ∧ p + 14 ≤ M
  · obtain ⟨rfl, z⟩ := ok
    obtain ⟨rfl, rfl, rfl⟩ := g1 rfl (by omega)
    obtain ⟨rfl, rfl, rfl⟩ := g3 rfl (by omega)
    obtain ⟨rfl, rfl, rfl⟩ := g5 rfl (by omega)
    rw [if_pos rfl] at hR
    unfold mkc at hR
    rw [show p + 5 + 5 = p + 10 from rfl] at *
    rw [show p + 10 + 4 = p + 14 from rfl] at *
    clear g1 g2 g3 g4 g5 g6 hp1 hp2 hp3
    generalize num (sB bi a) p 5 = nl at *
    generalize num (sB bi a) (p + 5) 5 = nd at *
    generalize num (sB bi a) (p + 10) 4 = nc at *
    refine Tt_p rfl ?_
    by_cases k1 : 29 < nl
    · rw [if_pos (Or.inr (Or.inl k1))] at hR
      refine Tt_p (by first | decide | (simp (disch := omega) only [i_0, i_1, i_2, i_3, i_4, i_5, i_6, i_7, i_8, i_9, i_10, i_11, i_13, i_14, i_15, i_16, i_17, i_18, i_19, i_24, i_29, i_30, i_31, i_32, i_138, i_143, i_144, i_254, i_255, i_256, i_257, i_258, i_261, i_264, i_265, i_279, i_280, i_284, i_285, i_286, i_288, i_319, i_320, i_338, i_339, i_575, i_576, i_599, i_600, i_4096, i_8191, i_8192, i_8249, i_8250, i_8256, i_9000, i_16384, i_32767, i_32768, i_65520, i_65521, i_65535, i_65536, i_65999, i_66000, i_1300, i_120, i_156, nI_leI, nI_ltI, nI_eq, nI_add, n_neg, not_false_eq_true, not_true_eq_false] <;> omega)) ?_
      unfold M_readMade_47
      exact t_52 (w := 1) hs hp3' (by omega) (by omega) (fun _ => hR.symm) (fun e => absurd e (by omega))
    · refine Tt_n (by first | decide | (simp (disch := omega) only [i_0, i_1, i_2, i_3, i_4, i_5, i_6, i_7, i_8, i_9, i_10, i_11, i_13, i_14, i_15, i_16, i_17, i_18, i_19, i_24, i_29, i_30, i_31, i_32, i_138, i_143, i_144, i_254, i_255, i_256, i_257, i_258, i_261, i_264, i_265, i_279, i_280, i_284, i_285, i_286, i_288, i_319, i_320, i_338, i_339, i_575, i_576, i_599, i_600, i_4096, i_8191, i_8192, i_8249, i_8250, i_8256, i_9000, i_16384, i_32767, i_32768, i_65520, i_65521, i_65535, i_65536, i_65999, i_66000, i_1300, i_120, i_156, nI_leI, nI_ltI, nI_eq, nI_add, n_neg, not_false_eq_true, not_true_eq_false] <;> omega)) ?_
      by_cases k2 : 29 < nd
      · rw [if_pos (Or.inr (Or.inr k2))] at hR
        refine Tt_n (by first | decide | (simp (disch := omega) only [i_0, i_1, i_2, i_3, i_4, i_5, i_6, i_7, i_8, i_9, i_10, i_11, i_13, i_14, i_15, i_16, i_17, i_18, i_19, i_24, i_29, i_30, i_31, i_32, i_138, i_143, i_144, i_254, i_255, i_256, i_257, i_258, i_261, i_264, i_265, i_279, i_280, i_284, i_285, i_286, i_288, i_319, i_320, i_338, i_339, i_575, i_576, i_599, i_600, i_4096, i_8191, i_8192, i_8249, i_8250, i_8256, i_9000, i_16384, i_32767, i_32768, i_65520, i_65521, i_65535, i_65536, i_65999, i_66000, i_1300, i_120, i_156, nI_leI, nI_ltI, nI_eq, nI_add, n_neg, not_false_eq_true, not_true_eq_false] <;> omega)) ?_
        unfold M_readMade_47
        exact t_52 (w := 1) hs hp3' (by omega) (by omega) (fun _ => hR.symm) (fun e => absurd e (by omega))
      · rw [if_neg (by omega)] at hR
        refine Tt_p (by first | decide | (simp (disch := omega) only [i_0, i_1, i_2, i_3, i_4, i_5, i_6, i_7, i_8, i_9, i_10, i_11, i_13, i_14, i_15, i_16, i_17, i_18, i_19, i_24, i_29, i_30, i_31, i_32, i_138, i_143, i_144, i_254, i_255, i_256, i_257, i_258, i_261, i_264, i_265, i_279, i_280, i_284, i_285, i_286, i_288, i_319, i_320, i_338, i_339, i_575, i_576, i_599, i_600, i_4096, i_8191, i_8192, i_8249, i_8250, i_8256, i_9000, i_16384, i_32767, i_32768, i_65520, i_65521, i_65535, i_65536, i_65999, i_66000, i_1300, i_120, i_156, nI_leI, nI_ltI, nI_eq, nI_add, n_neg, not_false_eq_true, not_true_eq_false] <;> omega)) ?_
        exact t_52 (w := 0) hs hp3' (by omega) (by omega) (fun e => absurd e (by omega)) (fun _ => ⟨by omega, by omega, hR⟩)
  · have hN : R = none := by
      rw [← hR]
      by_cases w0 : wr = 0
      · rw [if_pos w0]
        unfold mkc
        rw [if_pos (Or.inl (by omega))]
      · rw [if_neg w0]
    have e4 : w3 = 1 := by
      by_cases w0 : wr = 1 ∨ M < p + 5
      · have : w1 = 1 := by rcases g2 w0 with q | q <;> omega
        have : w2 = 1 := by rcases g4 (Or.inl this) with q | q <;> omega
        rcases g6 (Or.inl this) with q | q <;> omega
      · have a1 := g1 (by omega) (by omega)
        by_cases w1 : M < p1 + 5
        · have : w2 = 1 := by rcases g4 (Or.inr w1) with q | q <;> omega
          rcases g6 (Or.inl this) with q | q <;> omega
        · have a2 := g3 (by omega) (by omega)
          rcases g6 (Or.inr (by omega)) with q | q <;> omega
    subst e4
    refine Tt_n (by decide) ?_
    unfold M_readMade_47
    exact t_52 (w := 1) hs hp3' (by omega) (by omega) (fun _ => hN) (fun e => absurd e (by omega))
