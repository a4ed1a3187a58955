/-! codes that are told: lengths read -/
abbrev goodL (f : Nat → Nat) (n mb : Nat) : Prop := krs f n 15 = 32768 ∨ (n - cn f 0 n = 1 ∧ cn f 1 n = 1) ∨ (n - cn f 0 n = 0 ∧ mb = 1)
def zx (g : Nat → Nat) (a n i : Nat) : Nat := if i < n then g (a + i) else 0
theorem zx_i {g : Nat → Nat} {a n i : Nat} (h : i < n) : zx g a n i = g (a + i) := if_pos h
theorem zx_0 {g : Nat → Nat} {a n i : Nat} (h : n ≤ i) : zx g a n i = 0 := if_neg (by omega)
theorem zx_b {g : Nat → Nat} {a n : Nat} (h : ∀ j, g j ≤ 15) (i : Nat) : zx g a n i ≤ 15 := by
  unfold zx
  split
  · exact h _
  · omega
theorem cn_z {f : Nat → Nat} {n N l : Nat} (h : n ≤ N) (hz : ∀ i, n ≤ i → f i = 0) (hl : 0 < l) : cn f l N = cn f l n := cn_ext h (fun _ _ => rfl) (fun i h1 _ => by rw [hz i h1]; omega)
theorem lv_z {f : Nat → Nat} {n N : Nat} (h : n ≤ N) (hz : ∀ i, n ≤ i → f i = 0) : ∀ l, lv f N l = lv f n l := by
  intro l
  induction l with
  | zero => rfl
  | succ l ih =>
    show lv f N l + (if l = 0 then 0 else cn f l N) = lv f n l + (if l = 0 then 0 else cn f l n)
    rw [ih]
    by_cases e : l = 0
    · rw [if_pos e, if_pos e]
    · rw [if_neg e, if_neg e, cn_z h hz (by omega)]
theorem krs_z {f : Nat → Nat} {n N : Nat} (h : n ≤ N) (hz : ∀ i, n ≤ i → f i = 0) : ∀ l, krs f N l = krs f n l := by
  intro l
  induction l with
  | zero => rfl
  | succ l ih =>
    show krs f N l + cn f (l + 1) N * 2 ^ (14 - l) = krs f n l + cn f (l + 1) n * 2 ^ (14 - l)
    rw [ih, cn_z h hz (by omega)]
theorem gd_z {f : Nat → Nat} {n N mb : Nat} (h : n ≤ N) (hz : ∀ i, n ≤ i → f i = 0) (hf : ∀ i, f i ≤ 15) : gd f N mb ↔ gd f n mb := by
  have e1 := cn_all N (fun i _ => hf i)
  have e2 := cn_all n (fun i _ => hf i)
  have e3 := lv_z h hz 16
  have e4 : N - cn f 0 N = n - cn f 0 n := by omega
  unfold gd
  rw [krs_z h hz 15, e4, cn_z h hz (l := 1) (by omega)]
theorem TabOK_z {c y : Nat → Int32} {f : Nat → Nat} {n N : Nat} (h : n ≤ N) (hz : ∀ i, n ≤ i → f i = 0) (hT : TabOK c y f n) : TabOK c y f N := by
  refine ⟨fun l h1 h2 => ?_, fun s hs h0 => ?_⟩
  · rw [cn_z h hz (by omega)]
    exact hT.1 l h1 h2
  · rw [lv_z h hz]
    refine hT.2 s ?_ h0
    by_cases e : n ≤ s
    · have := hz s e
      omega
    · omega
theorem ord_inj : ∀ i, i < 19 → ∀ j, j < 19 → ord i = ord j → i = j := by decide +kernel
theorem ord_on : ∀ s, s < 19 → ∃ j : Fin 19, ord j.1 = s := by decide +kernel
def fcl (src : Nat → Nat) (q : Nat) : Nat → Nat → Nat
  | 0, _ => 0
  | k + 1, s => if s = ord k then num src (q + 3 * k) 3 else fcl src q k s
theorem fcl_b {src : Nat → Nat} (hs : ∀ i, src i < 2) (q : Nat) : ∀ k s, fcl src q k s ≤ 15 := by
  intro k
  induction k with
  | zero => intro s; exact Nat.zero_le _
  | succ k ih =>
    intro s
    show (if s = ord k then num src (q + 3 * k) 3 else fcl src q k s) ≤ 15
    have h := num_lt hs (q + 3 * k) 3
    split
    · omega
    · exact ih s
theorem fcl_o {src : Nat → Nat} {q j : Nat} (hj : j < 19) : ∀ k, k ≤ 19 → fcl src q k (ord j) = if j < k then num src (q + 3 * j) 3 else 0 := by
  intro k
  induction k with
  | zero => intro _; rfl
  | succ k ih =>
    intro hk
    show (if ord j = ord k then num src (q + 3 * k) 3 else fcl src q k (ord j)) = _
    by_cases e : ord j = ord k
    · have := ord_inj j hj k (by omega) e
      subst this
      rw [if_pos rfl, if_pos (by omega)]
    · have : j ≠ k := fun g => e (by rw [g])
      rw [if_neg e, ih (by omega)]
      by_cases w : j < k
      · rw [if_pos w, if_pos (by omega)]
      · rw [if_neg w, if_neg (by omega)]
def rpL (g : Nat → Nat) (i v r j : Nat) : Nat := if i ≤ j ∧ j < i + r then v else g j
def rvl (g : Nat → Nat) (i s : Nat) : Nat := if s < 16 then s else if s = 16 then g (i - 1) else 0
theorem rpL_b {g : Nat → Nat} {i v r : Nat} (hg : ∀ j, g j ≤ 15) (hv : v ≤ 15) (j : Nat) : rpL g i v r j ≤ 15 := by
  unfold rpL
  split
  · exact hv
  · exact hg j
theorem rvl_b {g : Nat → Nat} {i s : Nat} (hg : ∀ j, g j ≤ 15) : rvl g i s ≤ 15 := by
  unfold rvl
  split
  · omega
  · split
    · exact hg _
    · omega
theorem rb_b (s : Nat) : 1 ≤ rb s ∧ rb s ≤ 11 := by
  unfold rb
  split
  · omega
  · split <;> omega
abbrev LnR := Option (Nat × (Nat → Nat))
def rdl (f : Nat → Nat) (src : Nat → Nat) (M T : Nat) : Nat → Nat → Nat → (Nat → Nat) → LnR
  | 0, _, _, _ => none
  | k + 1, p, i, g => if T ≤ i then some (p, g) else match dcd f 19 src M p with
    | none => none
    | some (s, p1) => if M < p1 + rex s ∨ (s = 16 ∧ i = 0) ∨ T < i + (rb s + num src p1 (rex s)) then none else rdl f src M T k (p1 + rex s) (i + (rb s + num src p1 (rex s))) (rpL g i (rvl g i s) (rb s + num src p1 (rex s)))
theorem rdl_b {f : Nat → Nat} {src : Nat → Nat} {M T : Nat} : ∀ k p i g p' g', p ≤ M → (∀ j, g j ≤ 15) → rdl f src M T k p i g = some (p', g') → p ≤ p' ∧ p' ≤ M ∧ ∀ j, g' j ≤ 15 := by
  intro k
  induction k with
  | zero => intro p i g p' g' _ _ h; cases h
  | succ k ih =>
    intro p i g p' g' hp hg h
    unfold rdl at h
    by_cases z : T ≤ i
    · rw [if_pos z] at h
      cases h
      exact ⟨Nat.le_refl _, hp, hg⟩
    · rw [if_neg z] at h
      cases hd : dcd f 19 src M p with
      | none => rw [hd] at h; cases h
      | some q =>
        obtain ⟨s, p1⟩ := q
        rw [hd] at h
        dsimp only at h
        have db := dcd_b hd
        by_cases y : M < p1 + rex s ∨ (s = 16 ∧ i = 0) ∨ T < i + (rb s + num src p1 (rex s))
        · rw [if_pos y] at h; cases h
        · rw [if_neg y] at h
          have g := ih _ _ _ _ _ (by omega) (rpL_b hg (rvl_b hg)) h
          exact ⟨by omega, g.2⟩
abbrev MkR := Option (Nat × (Nat → Nat) × (Nat → Nat))
def mkc2 (hl hd : Nat) (r : LnR) : MkR := match r with
  | none => none
  | some (p, g) => if g 256 = 0 ∨ ¬ goodL (zx g 0 hl) 288 0 ∨ ¬ goodL (zx g hl hd) 32 1 then none else some (p, zx g 0 hl, zx g hl hd)
def mkc (src : Nat → Nat) (M p : Nat) : MkR := if M < p + 14 ∨ 29 < num src p 5 ∨ 29 < num src (p + 5) 5 then none else if M < p + 14 + 3 * (num src (p + 10) 4 + 4) ∨ ¬ goodL (fcl src (p + 14) (num src (p + 10) 4 + 4)) 19 0 then none else mkc2 (num src p 5 + 257) (num src (p + 5) 5 + 1) (rdl (fcl src (p + 14) (num src (p + 10) 4 + 4)) src M (num src p 5 + 257 + (num src (p + 5) 5 + 1)) 400 (p + 14 + 3 * (num src (p + 10) 4 + 4)) 0 (fun _ => 0))
theorem mkc_b {src : Nat → Nat} {M p p' : Nat} {fS fD : Nat → Nat} (h : mkc src M p = some (p', fS, fD)) : p ≤ p' ∧ p' ≤ M ∧ LenOK fS fD := by
  unfold mkc at h
  by_cases z1 : M < p + 14 ∨ 29 < num src p 5 ∨ 29 < num src (p + 5) 5
  · rw [if_pos z1] at h; cases h
  · rw [if_neg z1] at h
    by_cases z2 : M < p + 14 + 3 * (num src (p + 10) 4 + 4) ∨ ¬ goodL (fcl src (p + 14) (num src (p + 10) 4 + 4)) 19 0
    · rw [if_pos z2] at h; cases h
    · rw [if_neg z2] at h
      cases hr : rdl (fcl src (p + 14) (num src (p + 10) 4 + 4)) src M (num src p 5 + 257 + (num src (p + 5) 5 + 1)) 400 (p + 14 + 3 * (num src (p + 10) 4 + 4)) 0 (fun _ => 0) with
      | none => rw [hr] at h; cases h
      | some q =>
        obtain ⟨q1, g⟩ := q
        rw [hr] at h
        unfold mkc2 at h
        dsimp only at h
        have b := rdl_b _ _ _ _ _ _ (by omega) (fun _ => Nat.zero_le _) hr
        by_cases z3 : g 256 = 0 ∨ ¬ goodL (zx g 0 (num src p 5 + 257)) 288 0 ∨ ¬ goodL (zx g (num src p 5 + 257) (num src (p + 5) 5 + 1)) 32 1
        · rw [if_pos z3] at h; cases h
        · rw [if_neg z3] at h
          have e := Option.some.inj h
          obtain ⟨rfl, rfl, rfl⟩ : q1 = p' ∧ zx g 0 (num src p 5 + 257) = fS ∧ zx g (num src p 5 + 257) (num src (p + 5) 5 + 1) = fD := ⟨congrArg Prod.fst e, congrArg (fun z => z.2.1) e, congrArg (fun z => z.2.2) e⟩
          have w1 : goodL (zx g 0 (num src p 5 + 257)) 288 0 := Decidable.byContradiction (fun k => z3 (Or.inr (Or.inl k)))
          have w2 : goodL (zx g (num src p 5 + 257) (num src (p + 5) 5 + 1)) 32 1 := Decidable.byContradiction (fun k => z3 (Or.inr (Or.inr k)))
          exact ⟨by omega, b.2.1, fun i _ => zx_b b.2.2 i, fun i _ => zx_b b.2.2 i, gd_k (fun i _ => zx_b b.2.2 i) w1, gd_k (fun i _ => zx_b b.2.2 i) w2⟩
/-! the program reads codes -/
theorem t_setL {K : (Nat → Int32) → Int32 → Int32 → Option (Int32 × (Nat → Int32) × Int32)} {cl : Nat → Int32} {va x6 : Int32} {i r : Nat} {Q : Int32 × (Nat → Int32) × Int32 → Prop} (h : i + r ≤ 320) (hK : ∀ cl', (∀ j, cl' j = if i ≤ j ∧ j < i + r then x6 else cl j) → Tt (K cl' va (nI (i + r))) Q) : Tt (mW5 (Unpacker_readLengths_117 200000 (Unpacker_readLengths_137 200000 K)) 200000 cl va (nI i) x6 (nI (i + r))) Q := by
  refine Tt_W5 (fun mm c' va' x2 y6 x7 => va' = va ∧ y6 = x6 ∧ x7 = nI (i + r) ∧ ∃ d, d ≤ r ∧ x2 = nI (i + d) ∧ mm = r - d ∧ ∀ j, c' j = if i ≤ j ∧ j < i + d then x6 else cl j) ?_ 200000 r _ _ _ _ _ (by omega) ⟨rfl, rfl, rfl, 0, by omega, rfl, rfl, fun j => by rw [if_neg (by omega)]⟩
  rintro KK mm c' va' x2 y6 x7 ⟨rfl, rfl, rfl, d, hd, rfl, rfl, hc⟩ ih
  unfold Unpacker_readLengths_117
  by_cases z : r ≤ d
  · have e : d = r := by omega
    subst e
    refine Tt_p (by first | decide | (simp (disch := omega) only [i_0, i_1, i_2, i_3, i_4, i_5, i_6, i_7, i_8, i_9, i_10, i_11, i_13, i_14, i_15, i_16, i_17, i_18, i_19, i_24, i_29, i_30, i_31, i_32, i_138, i_143, i_144, i_254, i_255, i_256, i_257, i_258, i_261, i_264, i_265, i_279, i_280, i_284, i_285, i_286, i_288, i_319, i_320, i_338, i_339, i_575, i_576, i_599, i_600, i_4096, i_8191, i_8192, i_8249, i_8250, i_8256, i_9000, i_16384, i_32767, i_32768, i_65520, i_65521, i_65535, i_65536, i_65999, i_66000, i_1300, i_120, i_156, nI_leI, nI_ltI, nI_eq, nI_add, n_neg, not_false_eq_true, not_true_eq_false] <;> omega)) ?_
    unfold Unpacker_readLengths_137
    exact hK _ hc
  · refine Tt_n (by first | decide | (simp (disch := omega) only [i_0, i_1, i_2, i_3, i_4, i_5, i_6, i_7, i_8, i_9, i_10, i_11, i_13, i_14, i_15, i_16, i_17, i_18, i_19, i_24, i_29, i_30, i_31, i_32, i_138, i_143, i_144, i_254, i_255, i_256, i_257, i_258, i_261, i_264, i_265, i_279, i_280, i_284, i_285, i_286, i_288, i_319, i_320, i_338, i_339, i_575, i_576, i_599, i_600, i_4096, i_8191, i_8192, i_8249, i_8250, i_8256, i_9000, i_16384, i_32767, i_32768, i_65520, i_65521, i_65535, i_65536, i_65999, i_66000, i_1300, i_120, i_156, nI_leI, nI_ltI, nI_eq, nI_add, n_neg, not_false_eq_true, not_true_eq_false] <;> omega)) (Tt_g (by omega) (by omega) (Tt_l (Tt_l ?_)))
    rw [nI_1, nI_clamp (by omega)]
    refine ih (r - (d + 1)) _ _ _ _ _ (by omega) ⟨rfl, rfl, rfl, d + 1, by omega, rfl, rfl, fun j => ?_⟩
    by_cases e : j = i + d
    · rw [e, pk_us, if_pos (by omega)]
    · rw [pk_un e, hc j]
      by_cases y : i ≤ j ∧ j < i + d
      · rw [if_pos y, if_pos (by omega)]
      · rw [if_neg y, if_neg (by omega)]
def PL (a T : Nat) (R : LnR) (r va : Int32) (cl : Nat → Int32) : Prop := match R with
  | none => r = nI 0
  | some (p', g') => r = nI 1 ∧ va = nI (8 * a + p') ∧ ∀ j, j < T → cl j = nI (g' j)
theorem y_rexm : P_repeatExtra 200000 (-1) = some (nI 0, ()) := by decide +kernel
theorem t_readLen {c cS yS cl : Nat → Int32} {bi f g : Nat → Nat} {len a M p T N1 : Nat} {R : LnR} {ve vl va x1 : Int32} (hs : Src c len bi a M) (hp : p ≤ M) (hf : ∀ i, i < 19 → f i ≤ 15) (hK : krs f 19 15 ≤ 32768) (hT : TabOK cS yS f 19) (hN : 19 ≤ N1) (hN' : N1 ≤ 288) (hT0 : T ≤ 320) (hg : ∀ j, g j ≤ 15) (e1 : ve = nI (8 * a + M)) (e2 : vl = nI len) (e3 : va = nI (8 * a + p)) (e4 : x1 = nI T) (hR : rdl f (sB bi a) M T 400 p 0 g = R) : Tt (Unpacker_readLengths 200000 66000 N1 ve vl c cS yS cl va x1) (fun u => PL a T R u.1 u.2.2 u.2.1) := by
  subst e1 e2 e3 e4
  obtain ⟨h, hlen, hM, ha⟩ := hs
  unfold Unpacker_readLengths
  refine Tt_W3 (fun mm cl va x2 => ∃ p i g k, va = nI (8 * a + p) ∧ p ≤ M ∧ x2 = nI i ∧ i ≤ T ∧ (∀ j, g j ≤ 15) ∧ (∀ j, j < i → cl j = nI (g j)) ∧ T - i < k ∧ mm = T - i ∧ rdl f (sB bi a) M T k p i g = R) ?_ 200000 T _ _ _ (by omega) ⟨p, 0, g, 400, rfl, hp, rfl, by omega, hg, (fun j hj => absurd hj (by omega)), by omega, by omega, hR⟩
  rintro K mm cl va x2 ⟨p, i, g, k, rfl, hp, rfl, hi, hg, hc, hk, rfl, hR⟩ ih
  obtain ⟨k', rfl⟩ : ∃ k', k = k' + 1 := ⟨k - 1, by omega⟩
  unfold rdl at hR
  unfold Unpacker_readLengths_2
  by_cases z : T ≤ i
  · have e : i = T := by omega
    subst e
    rw [if_pos (Nat.le_refl _)] at hR
    subst hR
    exact Tt_p (by first | decide | (simp (disch := omega) only [i_0, i_1, i_2, i_3, i_4, i_5, i_6, i_7, i_8, i_9, i_10, i_11, i_13, i_14, i_15, i_16, i_17, i_18, i_19, i_24, i_29, i_30, i_31, i_32, i_138, i_143, i_144, i_254, i_255, i_256, i_257, i_258, i_261, i_264, i_265, i_279, i_280, i_284, i_285, i_286, i_288, i_319, i_320, i_338, i_339, i_575, i_576, i_599, i_600, i_4096, i_8191, i_8192, i_8249, i_8250, i_8256, i_9000, i_16384, i_32767, i_32768, i_65520, i_65521, i_65535, i_65536, i_65999, i_66000, i_1300, i_120, i_156, nI_leI, nI_ltI, nI_eq, nI_add, n_neg, not_false_eq_true, not_true_eq_false] <;> omega)) (Tt_Si ⟨rfl, rfl, hc⟩)
  · rw [if_neg z] at hR
    refine Tt_n (by first | decide | (simp (disch := omega) only [i_0, i_1, i_2, i_3, i_4, i_5, i_6, i_7, i_8, i_9, i_10, i_11, i_13, i_14, i_15, i_16, i_17, i_18, i_19, i_24, i_29, i_30, i_31, i_32, i_138, i_143, i_144, i_254, i_255, i_256, i_257, i_258, i_261, i_264, i_265, i_279, i_280, i_284, i_285, i_286, i_288, i_319, i_320, i_338, i_339, i_575, i_576, i_599, i_600, i_4096, i_8191, i_8192, i_8249, i_8250, i_8256, i_9000, i_16384, i_32767, i_32768, i_65520, i_65521, i_65535, i_65536, i_65999, i_66000, i_1300, i_120, i_156, nI_leI, nI_ltI, nI_eq, nI_add, n_neg, not_false_eq_true, not_true_eq_false] <;> omega)) (Tt_n (by first | decide | (simp (disch := omega) only [i_0, i_1, i_2, i_3, i_4, i_5, i_6, i_7, i_8, i_9, i_10, i_11, i_13, i_14, i_15, i_16, i_17, i_18, i_19, i_24, i_29, i_30, i_31, i_32, i_138, i_143, i_144, i_254, i_255, i_256, i_257, i_258, i_261, i_264, i_265, i_279, i_280, i_284, i_285, i_286, i_288, i_319, i_320, i_338, i_339, i_575, i_576, i_599, i_600, i_4096, i_8191, i_8192, i_8249, i_8250, i_8256, i_9000, i_16384, i_32767, i_32768, i_65520, i_65521, i_65535, i_65536, i_65999, i_66000, i_1300, i_120, i_156, nI_leI, nI_ltI, nI_eq, nI_add, n_neg, not_false_eq_true, not_true_eq_false] <;> omega)) (Tt_R1.2 (Tt_m (t_symC h hlen hM ha hp hN hN' hf hT hK rfl rfl rfl) ?_)))
    rintro ⟨r2, va2⟩ ⟨g1, g2⟩
    dsimp only at g1 g2 ⊢
    cases hd : dcd f 19 (sB bi a) M p with
    | none =>
      obtain ⟨p', q1, q2, q3⟩ := g2 hd
      obtain ⟨rfl, rfl⟩ : r2 = -1 ∧ va2 = nI (8 * a + p') := ⟨congrArg Prod.fst q3, congrArg Prod.snd q3⟩
      rw [hd] at hR
      dsimp only at hR
      subst hR
      refine Tt_R0.2 (Tt_o y_rexm ?_)
      dsimp only
      refine Tt_R1.2 (Tt_m (t_numC h hlen hM ha q2 (k := 0) (by omega) rfl rfl rfl rfl) ?_)
      rintro ⟨r5, va4⟩ _
      dsimp only
      exact Tt_p (by decide) (Tt_Si rfl)
    | some q =>
      obtain ⟨s, p1⟩ := q
      have q3 := g1 s p1 hd
      obtain ⟨rfl, rfl⟩ : r2 = nI s ∧ va2 = nI (8 * a + p1) := ⟨congrArg Prod.fst q3, congrArg Prod.snd q3⟩
      have db := dcd_b hd
      rw [hd] at hR
      dsimp only at hR
      have yr := y_rex s db.1
      refine Tt_R0.2 (Tt_o yr.1 ?_)
      dsimp only
      refine Tt_R1.2 (Tt_m (t_numC h hlen hM ha (p := p1) (k := rex s) (by omega) (by omega) rfl rfl rfl rfl) ?_)
      rintro ⟨r5, va4⟩ hu
      dsimp only at hu ⊢
      refine Tt_n (by first | decide | (simp (disch := omega) only [i_0, i_1, i_2, i_3, i_4, i_5, i_6, i_7, i_8, i_9, i_10, i_11, i_13, i_14, i_15, i_16, i_17, i_18, i_19, i_24, i_29, i_30, i_31, i_32, i_138, i_143, i_144, i_254, i_255, i_256, i_257, i_258, i_261, i_264, i_265, i_279, i_280, i_284, i_285, i_286, i_288, i_319, i_320, i_338, i_339, i_575, i_576, i_599, i_600, i_4096, i_8191, i_8192, i_8249, i_8250, i_8256, i_9000, i_16384, i_32767, i_32768, i_65520, i_65521, i_65535, i_65536, i_65999, i_66000, i_1300, i_120, i_156, nI_leI, nI_ltI, nI_eq, nI_add, n_neg, not_false_eq_true, not_true_eq_false] <;> omega)) ?_
      by_cases y : p1 + rex s ≤ M
      · rw [if_pos y] at hu
        obtain ⟨rfl, rfl⟩ := hu
        have nl := num_lt (sB_lt bi a) p1 (rex s)
        have n7 : 2 ^ rex s ≤ 2 ^ 7 := Nat.pow_le_pow_right (by omega) yr.2.2
        generalize num (sB bi a) p1 (rex s) = v at *
        refine Tt_n (by first | decide | (simp (disch := omega) only [i_0, i_1, i_2, i_3, i_4, i_5, i_6, i_7, i_8, i_9, i_10, i_11, i_13, i_14, i_15, i_16, i_17, i_18, i_19, i_24, i_29, i_30, i_31, i_32, i_138, i_143, i_144, i_254, i_255, i_256, i_257, i_258, i_261, i_264, i_265, i_279, i_280, i_284, i_285, i_286, i_288, i_319, i_320, i_338, i_339, i_575, i_576, i_599, i_600, i_4096, i_8191, i_8192, i_8249, i_8250, i_8256, i_9000, i_16384, i_32767, i_32768, i_65520, i_65521, i_65535, i_65536, i_65999, i_66000, i_1300, i_120, i_156, nI_leI, nI_ltI, nI_eq, nI_add, n_neg, not_false_eq_true, not_true_eq_false] <;> omega)) ?_
        have rest : ¬ (s = 16 ∧ i = 0) → Tt (Unpacker_readLengths_62 200000 (nI T) K cl (nI (8 * a + (p1 + rex s))) (nI i) (nI s) (nI v)) (fun u => PL a T R u.1 u.2.2 u.2.1) := by
          intro w
          unfold Unpacker_readLengths_62
          refine Tt_R0.2 (Tt_o (y_rb s db.1) ?_)
          dsimp only
          refine Tt_l ?_
          rw [nI_add, pk_sub hi]
          have hrb := rb_b s
          by_cases x : rb s + v ≤ T - i
          · rw [if_neg (by omega)] at hR
            have fin : ∀ v0, v0 = nI (rvl g i s) → Tt (Unpacker_readLengths_109 200000 K cl (nI (8 * a + (p1 + rex s))) (nI i) (nI (rb s + v)) v0) (fun u => PL a T R u.1 u.2.2 u.2.1) := by
              rintro _ rfl
              unfold Unpacker_readLengths_109
              refine Tt_l ?_
              rw [nI_add]
              refine t_setL (by omega) ?_
              intro cl' hc'
              refine ih (T - (i + (rb s + v))) _ _ _ (by omega) ⟨p1 + rex s, i + (rb s + v), rpL g i (rvl g i s) (rb s + v), k', rfl, y, rfl, by omega, rpL_b hg (rvl_b hg), fun j hj => ?_, by omega, rfl, hR⟩
              rw [hc' j]
              unfold rpL
              by_cases e : i ≤ j ∧ j < i + (rb s + v)
              · rw [if_pos e, if_pos e]
              · rw [if_neg e, if_neg e]
                exact hc j (by omega)
            refine Tt_p (by first | decide | (simp (disch := omega) only [i_0, i_1, i_2, i_3, i_4, i_5, i_6, i_7, i_8, i_9, i_10, i_11, i_13, i_14, i_15, i_16, i_17, i_18, i_19, i_24, i_29, i_30, i_31, i_32, i_138, i_143, i_144, i_254, i_255, i_256, i_257, i_258, i_261, i_264, i_265, i_279, i_280, i_284, i_285, i_286, i_288, i_319, i_320, i_338, i_339, i_575, i_576, i_599, i_600, i_4096, i_8191, i_8192, i_8249, i_8250, i_8256, i_9000, i_16384, i_32767, i_32768, i_65520, i_65521, i_65535, i_65536, i_65999, i_66000, i_1300, i_120, i_156, nI_leI, nI_ltI, nI_eq, nI_add, n_neg, not_false_eq_true, not_true_eq_false] <;> omega)) ?_
            by_cases s1 : s < 16
            · refine Tt_n (by first | decide | (simp (disch := omega) only [i_0, i_1, i_2, i_3, i_4, i_5, i_6, i_7, i_8, i_9, i_10, i_11, i_13, i_14, i_15, i_16, i_17, i_18, i_19, i_24, i_29, i_30, i_31, i_32, i_138, i_143, i_144, i_254, i_255, i_256, i_257, i_258, i_261, i_264, i_265, i_279, i_280, i_284, i_285, i_286, i_288, i_319, i_320, i_338, i_339, i_575, i_576, i_599, i_600, i_4096, i_8191, i_8192, i_8249, i_8250, i_8256, i_9000, i_16384, i_32767, i_32768, i_65520, i_65521, i_65535, i_65536, i_65999, i_66000, i_1300, i_120, i_156, nI_leI, nI_ltI, nI_eq, nI_add, n_neg, not_false_eq_true, not_true_eq_false] <;> omega)) (fin _ ?_)
              unfold rvl
              rw [if_pos s1]
            · refine Tt_p (by first | decide | (simp (disch := omega) only [i_0, i_1, i_2, i_3, i_4, i_5, i_6, i_7, i_8, i_9, i_10, i_11, i_13, i_14, i_15, i_16, i_17, i_18, i_19, i_24, i_29, i_30, i_31, i_32, i_138, i_143, i_144, i_254, i_255, i_256, i_257, i_258, i_261, i_264, i_265, i_279, i_280, i_284, i_285, i_286, i_288, i_319, i_320, i_338, i_339, i_575, i_576, i_599, i_600, i_4096, i_8191, i_8192, i_8249, i_8250, i_8256, i_9000, i_16384, i_32767, i_32768, i_65520, i_65521, i_65535, i_65536, i_65999, i_66000, i_1300, i_120, i_156, nI_leI, nI_ltI, nI_eq, nI_add, n_neg, not_false_eq_true, not_true_eq_false] <;> omega)) ?_
              by_cases s2 : s = 16
              · have e1 : nI i - 1 = nI (i - 1) := n_pred (by omega)
                refine Tt_p (by first | decide | (simp (disch := omega) only [i_0, i_1, i_2, i_3, i_4, i_5, i_6, i_7, i_8, i_9, i_10, i_11, i_13, i_14, i_15, i_16, i_17, i_18, i_19, i_24, i_29, i_30, i_31, i_32, i_138, i_143, i_144, i_254, i_255, i_256, i_257, i_258, i_261, i_264, i_265, i_279, i_280, i_284, i_285, i_286, i_288, i_319, i_320, i_338, i_339, i_575, i_576, i_599, i_600, i_4096, i_8191, i_8192, i_8249, i_8250, i_8256, i_9000, i_16384, i_32767, i_32768, i_65520, i_65521, i_65535, i_65536, i_65999, i_66000, i_1300, i_120, i_156, nI_leI, nI_ltI, nI_eq, nI_add, n_neg, not_false_eq_true, not_true_eq_false] <;> omega)) (Tt_l ?_)
                rw [e1]
                refine Tt_g (by omega) (by omega) ?_
                rw [nI_clamp (by omega)]
                refine fin _ ?_
                rw [hc (i - 1) (by omega)]
                unfold rvl
                rw [if_neg s1, if_pos s2]
              · refine Tt_n (by first | decide | (simp (disch := omega) only [i_0, i_1, i_2, i_3, i_4, i_5, i_6, i_7, i_8, i_9, i_10, i_11, i_13, i_14, i_15, i_16, i_17, i_18, i_19, i_24, i_29, i_30, i_31, i_32, i_138, i_143, i_144, i_254, i_255, i_256, i_257, i_258, i_261, i_264, i_265, i_279, i_280, i_284, i_285, i_286, i_288, i_319, i_320, i_338, i_339, i_575, i_576, i_599, i_600, i_4096, i_8191, i_8192, i_8249, i_8250, i_8256, i_9000, i_16384, i_32767, i_32768, i_65520, i_65521, i_65535, i_65536, i_65999, i_66000, i_1300, i_120, i_156, nI_leI, nI_ltI, nI_eq, nI_add, n_neg, not_false_eq_true, not_true_eq_false] <;> omega)) (fin _ ?_)
                unfold rvl
                rw [if_neg s1, if_neg s2]
                rfl
          · rw [if_pos (by omega)] at hR
            subst hR
            exact Tt_n (by first | decide | (simp (disch := omega) only [i_0, i_1, i_2, i_3, i_4, i_5, i_6, i_7, i_8, i_9, i_10, i_11, i_13, i_14, i_15, i_16, i_17, i_18, i_19, i_24, i_29, i_30, i_31, i_32, i_138, i_143, i_144, i_254, i_255, i_256, i_257, i_258, i_261, i_264, i_265, i_279, i_280, i_284, i_285, i_286, i_288, i_319, i_320, i_338, i_339, i_575, i_576, i_599, i_600, i_4096, i_8191, i_8192, i_8249, i_8250, i_8256, i_9000, i_16384, i_32767, i_32768, i_65520, i_65521, i_65535, i_65536, i_65999, i_66000, i_1300, i_120, i_156, nI_leI, nI_ltI, nI_eq, nI_add, n_neg, not_false_eq_true, not_true_eq_false] <;> omega)) (Tt_Si rfl)
        by_cases s2 : s = 16
        · refine Tt_p (by first | decide | (simp (disch := omega) only [i_0, i_1, i_2, i_3, i_4, i_5, i_6, i_7, i_8, i_9, i_10, i_11, i_13, i_14, i_15, i_16, i_17, i_18, i_19, i_24, i_29, i_30, i_31, i_32, i_138, i_143, i_144, i_254, i_255, i_256, i_257, i_258, i_261, i_264, i_265, i_279, i_280, i_284, i_285, i_286, i_288, i_319, i_320, i_338, i_339, i_575, i_576, i_599, i_600, i_4096, i_8191, i_8192, i_8249, i_8250, i_8256, i_9000, i_16384, i_32767, i_32768, i_65520, i_65521, i_65535, i_65536, i_65999, i_66000, i_1300, i_120, i_156, nI_leI, nI_ltI, nI_eq, nI_add, n_neg, not_false_eq_true, not_true_eq_false] <;> omega)) ?_
          by_cases i0 : i = 0
          · rw [if_pos (Or.inr (Or.inl ⟨s2, i0⟩))] at hR
            subst hR
            exact Tt_p (by first | decide | (simp (disch := omega) only [i_0, i_1, i_2, i_3, i_4, i_5, i_6, i_7, i_8, i_9, i_10, i_11, i_13, i_14, i_15, i_16, i_17, i_18, i_19, i_24, i_29, i_30, i_31, i_32, i_138, i_143, i_144, i_254, i_255, i_256, i_257, i_258, i_261, i_264, i_265, i_279, i_280, i_284, i_285, i_286, i_288, i_319, i_320, i_338, i_339, i_575, i_576, i_599, i_600, i_4096, i_8191, i_8192, i_8249, i_8250, i_8256, i_9000, i_16384, i_32767, i_32768, i_65520, i_65521, i_65535, i_65536, i_65999, i_66000, i_1300, i_120, i_156, nI_leI, nI_ltI, nI_eq, nI_add, n_neg, not_false_eq_true, not_true_eq_false] <;> omega)) (Tt_Si rfl)
          · exact Tt_n (by first | decide | (simp (disch := omega) only [i_0, i_1, i_2, i_3, i_4, i_5, i_6, i_7, i_8, i_9, i_10, i_11, i_13, i_14, i_15, i_16, i_17, i_18, i_19, i_24, i_29, i_30, i_31, i_32, i_138, i_143, i_144, i_254, i_255, i_256, i_257, i_258, i_261, i_264, i_265, i_279, i_280, i_284, i_285, i_286, i_288, i_319, i_320, i_338, i_339, i_575, i_576, i_599, i_600, i_4096, i_8191, i_8192, i_8249, i_8250, i_8256, i_9000, i_16384, i_32767, i_32768, i_65520, i_65521, i_65535, i_65536, i_65999, i_66000, i_1300, i_120, i_156, nI_leI, nI_ltI, nI_eq, nI_add, n_neg, not_false_eq_true, not_true_eq_false] <;> omega)) (rest (fun q => i0 q.2))
        · exact Tt_n (by first | decide | (simp (disch := omega) only [i_0, i_1, i_2, i_3, i_4, i_5, i_6, i_7, i_8, i_9, i_10, i_11, i_13, i_14, i_15, i_16, i_17, i_18, i_19, i_24, i_29, i_30, i_31, i_32, i_138, i_143, i_144, i_254, i_255, i_256, i_257, i_258, i_261, i_264, i_265, i_279, i_280, i_284, i_285, i_286, i_288, i_319, i_320, i_338, i_339, i_575, i_576, i_599, i_600, i_4096, i_8191, i_8192, i_8249, i_8250, i_8256, i_9000, i_16384, i_32767, i_32768, i_65520, i_65521, i_65535, i_65536, i_65999, i_66000, i_1300, i_120, i_156, nI_leI, nI_ltI, nI_eq, nI_add, n_neg, not_false_eq_true, not_true_eq_false] <;> omega)) (rest (fun q => s2 q.1))
      · rw [if_neg y] at hu
        obtain ⟨rfl, rfl⟩ := hu
        rw [if_pos (Or.inl (by omega))] at hR
        subst hR
        exact Tt_p (by decide) (Tt_Si rfl)
def PK (a : Nat) (R : MkR) (r va : Int32) (cS yS cD yD : Nat → Int32) : Prop := match R with
  | none => r = nI 0
  | some (p', fS, fD) => r = nI 1 ∧ va = nI (8 * a + p') ∧ TabOK cS yS fS 288 ∧ TabOK cD yD fD 32
theorem t_mkC2 {c cl y1 c1 o1 y2 c2 o2 y3 c3 o3 : Nat → Int32} {bi f : Nat → Nat} {len a M q nl nd N1 : Nat} {R : MkR} {ve vl va x1 x2 : Int32} (hs : Src c len bi a M) (hq : q ≤ M) (hcl : ∀ i, i < 19 → cl i = nI (f i)) (hf : ∀ i, f i ≤ 15) (hN : 19 ≤ N1) (hN' : N1 ≤ 288) (hnl : nl ≤ 29) (hnd : nd ≤ 29) (e1 : ve = nI (8 * a + M)) (e2 : vl = nI len) (e3 : va = nI (8 * a + q)) (e4 : x1 = nI nl) (e5 : x2 = nI nd) (hR : goodL f 19 0 → mkc2 (nl + 257) (nd + 1) (rdl f (sB bi a) M (nl + 257 + (nd + 1)) 400 q 0 (fun _ => 0)) = R) (hR0 : ¬ goodL f 19 0 → R = none) : Tt (Unpacker_makeCodes_117 200000 66000 N1 288 32 ve vl c va cl y1 c1 o1 y2 c2 o2 y3 c3 o3 x1 x2) (fun u => PK a R u.1 u.2.1 u.2.2.2.2.2.2.2.1 u.2.2.2.2.2.2.1 u.2.2.2.2.2.2.2.2.2.2.1 u.2.2.2.2.2.2.2.2.2.1) := by
  subst e1 e2 e3 e4 e5
  unfold Unpacker_makeCodes_117
  refine Tt_l (Tt_l ?_)
  have e4 : nI nl + 257 = nI (nl + 257) := nI_add nl 257
  have e5 : nI nd + 1 = nI (nd + 1) := nI_1 nd
  rw [e4, e5]
  refine Tt_R3.2 (Tt_m (t_makeC (a := 0) (n := 19) (mb := 0) (f := f) rfl rfl rfl (by omega) (by omega) (by omega) hN hN' (fun i hi => by rw [Nat.zero_add]; exact hcl i hi) (fun i _ => hf i)) ?_)
  rintro ⟨r12, y9, c10, o11⟩ ⟨g1, g2⟩
  dsimp only at g1 g2 ⊢
  by_cases G : goodL f 19 0
  · obtain ⟨rfl, hT⟩ := g1 G
    have hR := hR G
    refine Tt_n (by decide) (Tt_l ?_)
    rw [nI_add]
    refine Tt_R2.2 (Tt_m (t_readLen hs hq (fun i _ => hf i) (gd_k (fun i _ => hf i) G) hT hN hN' (by omega) (g := fun _ => 0) (fun _ => Nat.zero_le _) rfl rfl rfl rfl rfl) ?_)
    rintro ⟨r16, cl14, va15⟩ hu
    dsimp only at hu ⊢
    cases hr : rdl f (sB bi a) M (nl + 257 + (nd + 1)) 400 q 0 (fun _ => 0) with
    | none =>
      rw [hr] at hu hR
      have hu : r16 = nI 0 := hu
      subst hu hR
      exact Tt_p rfl (Tt_Si rfl)
    | some q' =>
      obtain ⟨p', g⟩ := q'
      rw [hr] at hu hR
      obtain ⟨hu1, hu2, hc2⟩ := hu
      subst hu1 hu2
      have bb := rdl_b _ _ _ _ _ _ hq (fun _ => Nat.zero_le _) hr
      unfold mkc2 at hR
      dsimp only at hR
      have e256 : (256 : Int32).toNatClampNeg = 256 := rfl
      refine Tt_n (by decide) (Tt_g (n := 256) (by omega) (by omega) ?_)
      have e0 : cl14 (256 : Int32).toNatClampNeg = nI (g 256) := by
        rw [e256]
        exact hc2 256 (by omega)
      have b256 := bb.2.2 256
      by_cases z : g 256 = 0
      · rw [if_pos (Or.inl z)] at hR
        subst hR
        exact Tt_p (by rw [e0, z]; decide) (Tt_Si rfl)
      · refine Tt_n (by rw [e0]; exact (by first | decide | (simp (disch := omega) only [i_0, i_1, i_2, i_3, i_4, i_5, i_6, i_7, i_8, i_9, i_10, i_11, i_13, i_14, i_15, i_16, i_17, i_18, i_19, i_24, i_29, i_30, i_31, i_32, i_138, i_143, i_144, i_254, i_255, i_256, i_257, i_258, i_261, i_264, i_265, i_279, i_280, i_284, i_285, i_286, i_288, i_319, i_320, i_338, i_339, i_575, i_576, i_599, i_600, i_4096, i_8191, i_8192, i_8249, i_8250, i_8256, i_9000, i_16384, i_32767, i_32768, i_65520, i_65521, i_65535, i_65536, i_65999, i_66000, i_1300, i_120, i_156, nI_leI, nI_ltI, nI_eq, nI_add, n_neg, not_false_eq_true, not_true_eq_false] <;> omega))) (Tt_R3.2 (Tt_m (t_makeC (a := 0) (n := nl + 257) (mb := 0) (f := zx g 0 (nl + 257)) rfl rfl rfl (by omega) (by omega) (by omega) (by omega) (by omega) (fun i hi => by rw [hc2 _ (by omega), zx_i hi]) (fun i _ => zx_b bb.2.2 i)) ?_))
        rintro ⟨r20, y17, c18, o19⟩ ⟨g3, g4⟩
        dsimp only at g3 g4 ⊢
        have gz := @gd_z (zx g 0 (nl + 257)) (nl + 257) 288 0 (by omega) (fun i hi => zx_0 hi) (zx_b bb.2.2)
        by_cases G1 : goodL (zx g 0 (nl + 257)) 288 0
        · obtain ⟨rfl, hT1⟩ := g3 (gz.1 G1)
          have hT1 := TabOK_z (N := 288) (by omega) (fun i hi => zx_0 hi) hT1
          refine Tt_n (by decide) (Tt_R3.2 (Tt_m (t_makeC (a := nl + 257) (n := nd + 1) (mb := 1) (f := zx g (nl + 257) (nd + 1)) rfl rfl rfl (by omega) (by omega) (by omega) (by omega) (by omega) (fun i hi => by rw [hc2 _ (by omega), zx_i hi]) (fun i _ => zx_b bb.2.2 i)) ?_))
          rintro ⟨r24, y21, c22, o23⟩ ⟨g5, g6⟩
          dsimp only at g5 g6 ⊢
          have gz2 := @gd_z (zx g (nl + 257) (nd + 1)) (nd + 1) 32 1 (by omega) (fun i hi => zx_0 hi) (zx_b bb.2.2)
          by_cases G2 : goodL (zx g (nl + 257) (nd + 1)) 32 1
          · obtain ⟨rfl, hT2⟩ := g5 (gz2.1 G2)
            have hT2 := TabOK_z (N := 32) (by omega) (fun i hi => zx_0 hi) hT2
            rw [if_neg (by rintro (k | k | k); exact z k; exact k G1; exact k G2)] at hR
            subst hR
            exact Tt_n (by decide) (Tt_Si ⟨rfl, rfl, hT1, hT2⟩)
          · have := g6 (fun k => G2 (gz2.2 k))
            subst this
            rw [if_pos (Or.inr (Or.inr G2))] at hR
            subst hR
            exact Tt_p rfl (Tt_Si rfl)
        · have := g4 (fun k => G1 (gz.2 k))
          subst this
          rw [if_pos (Or.inr (Or.inl G1))] at hR
          subst hR
          exact Tt_p rfl (Tt_Si rfl)
  · have e := g2 G
    have hN := hR0 G
    subst e hN
    exact Tt_p rfl (Tt_Si rfl)
theorem t_numE {c : Nat → Int32} {b : Nat → Nat} {len a M p k : Nat} {ve vl va x1 : Int32} (hs : Src c len b a M) (hp : p ≤ M) (hk : k ≤ 16) (h1 : ve = nI (8 * a + M)) (h2 : vl = nI len) (h3 : va = nI (8 * a + p)) (h4 : x1 = nI k) : Tt (BitReader_number 200000 66000 ve vl c va x1) (fun u => ∃ r p', u = (r, nI (8 * a + p')) ∧ p ≤ p' ∧ p' ≤ M ∧ (p + k ≤ M → p' = p + k ∧ r = nI (num (sB b a) p k)) ∧ (M < p + k → r = -1)) := by
  obtain ⟨h, hlen, hM, ha⟩ := hs
  refine Tt_m (t_numC h hlen hM ha hp hk h1 h2 h3 h4) ?_
  rintro ⟨r, v⟩ hu
  dsimp only at hu
  by_cases z : p + k ≤ M
  · rw [if_pos z] at hu
    obtain ⟨rfl, rfl⟩ := hu
    exact ⟨_, p + k, rfl, by omega, z, fun _ => ⟨rfl, rfl⟩, fun q => absurd q (by omega)⟩
  · rw [if_neg z] at hu
    obtain ⟨rfl, rfl⟩ := hu
    exact ⟨_, p, rfl, by omega, hp, fun q => absurd q z, fun _ => rfl⟩
theorem t_five {β : Type} {r2 r4 r6 : Int32} {X Y : Option β} {Q : β → Prop} (hX : (r2 < 0 ∨ 29 < r2 ∨ r4 < 0 ∨ 29 < r4 ∨ ¬ 0 ≤ r6) → Tt X Q) (hY : ¬ r2 < 0 → ¬ 29 < r2 → ¬ r4 < 0 → ¬ 29 < r4 → 0 ≤ r6 → Tt Y Q) : Tt (mC (r2 < 0) X (mC (29 < r2) X (mC (r4 < 0) X (mC (29 < r4) X (mC (0 ≤ r6) Y X))))) Q := by
  by_cases h1 : r2 < 0
  · exact Tt_p h1 (hX (Or.inl h1))
  by_cases h2 : 29 < r2
  · exact Tt_n h1 (Tt_p h2 (hX (Or.inr (Or.inl h2))))
  by_cases h3 : r4 < 0
  · exact Tt_n h1 (Tt_n h2 (Tt_p h3 (hX (Or.inr (Or.inr (Or.inl h3))))))
  by_cases h4 : 29 < r4
  · exact Tt_n h1 (Tt_n h2 (Tt_n h3 (Tt_p h4 (hX (Or.inr (Or.inr (Or.inr (Or.inl h4))))))))
  by_cases h5 : 0 ≤ r6
  · exact Tt_n h1 (Tt_n h2 (Tt_n h3 (Tt_n h4 (Tt_p h5 (hY h1 h2 h3 h4 h5)))))
  · exact Tt_n h1 (Tt_n h2 (Tt_n h3 (Tt_n h4 (Tt_n h5 (hX (Or.inr (Or.inr (Or.inr (Or.inr h5)))))))))
theorem t_codesC {c cl y1 c1 o1 y2 c2 o2 y3 c3 o3 : Nat → Int32} {bi : Nat → Nat} {len a M p N1 : Nat} {R : MkR} {ve vl va : Int32} (hs : Src c len bi a M) (hp : p ≤ M) (hN : 19 ≤ N1) (hN' : N1 ≤ 288) (e1 : ve = nI (8 * a + M)) (e2 : vl = nI len) (e3 : va = nI (8 * a + p)) (hR : mkc (sB bi a) M p = R) : Tt (Unpacker_makeCodes 200000 66000 N1 288 32 ve vl c va cl y1 c1 o1 y2 c2 o2 y3 c3 o3) (fun u => PK a R u.1 u.2.1 u.2.2.2.2.2.2.2.1 u.2.2.2.2.2.2.1 u.2.2.2.2.2.2.2.2.2.2.1 u.2.2.2.2.2.2.2.2.2.1) := by
  subst e1 e2 e3
  unfold Unpacker_makeCodes
  refine Tt_R1.2 (Tt_m (t_numE hs hp (k := 5) (by omega) rfl rfl rfl rfl) ?_)
  rintro _ ⟨r2, q1, rfl, h1a, h1b, h1c, h1d⟩
  dsimp only
  refine Tt_R1.2 (Tt_m (t_numE hs h1b (k := 5) (by omega) rfl rfl rfl rfl) ?_)
  rintro _ ⟨r4, q2, rfl, h2a, h2b, h2c, h2d⟩
  dsimp only
  refine Tt_R1.2 (Tt_m (t_numE hs h2b (k := 4) (by omega) rfl rfl rfl rfl) ?_)
  rintro _ ⟨r6, q3, rfl, h3a, h3b, h3c, h3d⟩
  dsimp only
  unfold mkc at hR
  by_cases z : p + 14 ≤ M
  · obtain ⟨rfl, rfl⟩ := h1c (by omega)
    obtain ⟨rfl, rfl⟩ := h2c (by omega)
    obtain ⟨rfl, rfl⟩ := h3c (by omega)
    have b1 := num_lt (sB_lt bi a) p 5
    have b2 := num_lt (sB_lt bi a) (p + 5) 5
    have b3 := num_lt (sB_lt bi a) (p + 10) 4
    rw [show p + 5 + 5 = p + 10 from rfl] at *
    rw [show p + 10 + 4 = p + 14 from rfl] at *
    clear h1a h1b h1c h1d h2a h2b h2c h2d h3a h3b h3c h3d
    generalize num (sB bi a) p 5 = nl at *
    generalize num (sB bi a) (p + 5) 5 = nd at *
    generalize num (sB bi a) (p + 10) 4 = nc at *
    refine t_five ?_ ?_
    · intro bad
      have b : 29 < nl ∨ 29 < nd := by
        rcases bad with k | k | k | k | k
        · exact absurd k (nI_pos (by omega))
        · left
          have k : nI 29 < nI nl := k
          rw [nI_ltI (by omega) (by omega)] at k
          exact k
        · exact absurd k (nI_pos (by omega))
        · right
          have k : nI 29 < nI nd := k
          rw [nI_ltI (by omega) (by omega)] at k
          exact k
        · exact absurd (nI_pos' (by omega)) k
      rw [if_pos (Or.inr b)] at hR
      subst hR
      exact Tt_Si rfl
    · intro _ k1 _ k2 _
      have k1 : ¬ nI 29 < nI nl := k1
      have k2 : ¬ nI 29 < nI nd := k2
      rw [nI_ltI (by omega) (by omega)] at k1 k2
      rw [if_neg (by omega)] at hR
      refine Tt_R1.2 (Tt_m (t_fill (by omega)) ?_)
      rintro ⟨_, cl0⟩ hc0
      dsimp only at hc0 ⊢
      generalize hq : p + 14 = q at *
      refine Tt_W15 (fun mm va cl _ _ _ _ _ _ _ _ _ x1 x2 x3 x4 => x1 = nI nl ∧ x2 = nI nd ∧ x3 = nI nc ∧ ∃ k, x4 = nI k ∧ k ≤ nc + 4 ∧ va = nI (8 * a + (q + 3 * k)) ∧ q + 3 * k ≤ M ∧ (∀ j, j < 320 → cl j = nI (fcl (sB bi a) q k j)) ∧ mm = nc + 4 - k) ?_ 200000 (nc + 4) _ _ _ _ _ _ _ _ _ _ _ _ _ _ _ (by omega) ⟨rfl, rfl, rfl, 0, rfl, by omega, rfl, z, fun j hj => by rw [hc0 j, if_pos hj]; rfl, by omega⟩
      rintro K mm va cl y1 c1 o1 y2 c2 o2 y3 c3 o3 x1 x2 x3 x4 ⟨rfl, rfl, rfl, k, rfl, hk, rfl, hqM, hcl, rfl⟩ ih
      unfold Unpacker_makeCodes_64
      by_cases w : nc + 4 ≤ k
      · have e : k = nc + 4 := by omega
        subst e
        refine Tt_p (by first | decide | (simp (disch := omega) only [i_0, i_1, i_2, i_3, i_4, i_5, i_6, i_7, i_8, i_9, i_10, i_11, i_13, i_14, i_15, i_16, i_17, i_18, i_19, i_24, i_29, i_30, i_31, i_32, i_138, i_143, i_144, i_254, i_255, i_256, i_257, i_258, i_261, i_264, i_265, i_279, i_280, i_284, i_285, i_286, i_288, i_319, i_320, i_338, i_339, i_575, i_576, i_599, i_600, i_4096, i_8191, i_8192, i_8249, i_8250, i_8256, i_9000, i_16384, i_32767, i_32768, i_65520, i_65521, i_65535, i_65536, i_65999, i_66000, i_1300, i_120, i_156, nI_leI, nI_ltI, nI_eq, nI_add, n_neg, not_false_eq_true, not_true_eq_false] <;> omega)) (t_mkC2 hs hqM (fun i hi => hcl i (by omega)) (fcl_b (sB_lt bi a) q _) hN hN' (by omega) (by omega) rfl rfl rfl rfl rfl (fun G => ?_) (fun G => ?_))
        · rw [if_neg (by rintro (k | k); omega; exact k G)] at hR
          exact hR
        · rw [if_pos (Or.inr G)] at hR
          exact hR.symm
      · refine Tt_n (by first | decide | (simp (disch := omega) only [i_0, i_1, i_2, i_3, i_4, i_5, i_6, i_7, i_8, i_9, i_10, i_11, i_13, i_14, i_15, i_16, i_17, i_18, i_19, i_24, i_29, i_30, i_31, i_32, i_138, i_143, i_144, i_254, i_255, i_256, i_257, i_258, i_261, i_264, i_265, i_279, i_280, i_284, i_285, i_286, i_288, i_319, i_320, i_338, i_339, i_575, i_576, i_599, i_600, i_4096, i_8191, i_8192, i_8249, i_8250, i_8256, i_9000, i_16384, i_32767, i_32768, i_65520, i_65521, i_65535, i_65536, i_65999, i_66000, i_1300, i_120, i_156, nI_leI, nI_ltI, nI_eq, nI_add, n_neg, not_false_eq_true, not_true_eq_false] <;> omega)) (Tt_n (by first | decide | (simp (disch := omega) only [i_0, i_1, i_2, i_3, i_4, i_5, i_6, i_7, i_8, i_9, i_10, i_11, i_13, i_14, i_15, i_16, i_17, i_18, i_19, i_24, i_29, i_30, i_31, i_32, i_138, i_143, i_144, i_254, i_255, i_256, i_257, i_258, i_261, i_264, i_265, i_279, i_280, i_284, i_285, i_286, i_288, i_319, i_320, i_338, i_339, i_575, i_576, i_599, i_600, i_4096, i_8191, i_8192, i_8249, i_8250, i_8256, i_9000, i_16384, i_32767, i_32768, i_65520, i_65521, i_65535, i_65536, i_65999, i_66000, i_1300, i_120, i_156, nI_leI, nI_ltI, nI_eq, nI_add, n_neg, not_false_eq_true, not_true_eq_false] <;> omega)) (Tt_R1.2 (Tt_m (t_numE hs hqM (k := 3) (by omega) rfl rfl rfl rfl) ?_)))
        rintro _ ⟨r7, q4, rfl, h4a, h4b, h4c, h4d⟩
        dsimp only
        by_cases y : q + 3 * k + 3 ≤ M
        · obtain ⟨rfl, rfl⟩ := h4c y
          have b4 := num_lt (sB_lt bi a) (q + 3 * k) 3
          have yo := y_ord k (by omega)
          refine Tt_p (nI_pos' (by omega)) (Tt_g (by omega) (by omega) (Tt_l ?_))
          rw [nI_clamp (by omega), yo.1]
          refine Tt_g (by omega) (by omega) (Tt_l (Tt_l ?_))
          rw [nI_1, nI_clamp (by omega)]
          refine ih (nc + 4 - (k + 1)) _ _ _ _ _ _ _ _ _ _ _ _ _ _ _ (by omega) ⟨rfl, rfl, rfl, k + 1, rfl, by omega, congrArg nI (by omega), by omega, fun j hj => ?_, rfl⟩
          show _ = nI (if j = ord k then num (sB bi a) (q + 3 * k) 3 else fcl (sB bi a) q k j)
          by_cases e : j = ord k
          · rw [e, pk_us, if_pos rfl]
          · rw [pk_un e, if_neg e, hcl j hj]
        · have e := h4d (by omega)
          subst e
          rw [if_pos (Or.inl (by omega))] at hR
          subst hR
          exact Tt_n (by decide) (Tt_Si rfl)
  · rw [if_pos (Or.inl (by omega))] at hR
    subst hR
    refine t_five (fun _ => Tt_Si rfl) ?_
    intro k1 _ k2 _ k3
    exfalso
    by_cases w1 : p + 5 ≤ M
    · obtain ⟨rfl, rfl⟩ := h1c w1
      by_cases w2 : p + 5 + 5 ≤ M
      · obtain ⟨rfl, rfl⟩ := h2c w2
        have e := h3d (by omega)
        subst e
        exact absurd k3 (by decide)
      · have e := h2d (by omega)
        subst e
        exact k2 (by decide)
    · have e := h1d (by omega)
      subst e
      exact k1 (by decide)
/-! the reference reads codes -/
def PN (M : Nat) (R : MkR) (vr vw : Int32) (nS nD : Nat → Int32) : Prop := match R with
  | none => vw = nI 1 ∧ ∃ p', p' ≤ M ∧ vr = nI p'
  | some (p', fS, fD) => vw = nI 0 ∧ vr = nI p' ∧ TreeOK nS fS 288 ∧ TreeOK nD fD 32
abbrev RmT := Unit × Int32 × Int32 × (Nat → Int32) × Int32 × (Nat → Int32) × (Nat → Int32) × Int32 × (Nat → Int32) × Int32 × (Nat → Int32)
def QN (M : Nat) (R : MkR) (u : RmT) : Prop := PN M R u.2.1 u.2.2.1 u.2.2.2.2.2.2.2.2.1 u.2.2.2.2.2.2.2.2.2.2
theorem PN_0 {M p : Nat} {R : MkR} {nS nD : Nat → Int32} (hp : p ≤ M) (hR : R = none) : PN M R (nI p) (nI 1) nS nD := by
  subst hR
  exact ⟨rfl, p, hp, rfl⟩
theorem w_483 {M p : Nat} {R : MkR} {vw n1 n2 n3 : Int32} {RL T1 LR T2 T3 : Nat → Int32} (hp : p ≤ M) (hR : R = none) : Tt (M_readMade_483 200000 (nI p) vw RL n1 T1 LR n2 T2 n3 T3) (QN M R) := by
  unfold M_readMade_483 M_readMade_488
  exact Tt_z (Or.inr rfl) (Tt_Si (PN_0 hp hR))
theorem w_425 {M p : Nat} {R : MkR} {n1 n2 n3 : Int32} {RL T1 LR T2 T3 : Nat → Int32} (hp : p ≤ M) (hR : R = none) : Tt (M_readMade_425 200000 (nI p) (nI 1) RL n1 T1 LR n2 T2 n3 T3) (QN M R) := by
  unfold M_readMade_425
  exact Tt_n (by decide) (w_483 hp hR)
theorem w_343 {M p : Nat} {R : MkR} {n1 n2 n3 x1 x2 : Int32} {RL T1 LR T2 T3 : Nat → Int32} (hp : p ≤ M) (hR : R = none) : Tt (M_readMade_343 200000 (nI p) (nI 1) RL n1 T1 LR n2 T2 n3 T3 x1 x2) (QN M R) := by
  unfold M_readMade_343
  refine Tt_W13 (fun mm a b _ _ _ _ _ _ _ _ _ _ _ => a = nI p ∧ b = nI 1) ?_ 200000 0 _ _ _ _ _ _ _ _ _ _ _ _ _ (by omega) ⟨rfl, rfl⟩
  rintro K mm a b RL n1 T1 LR n2 T2 n3 T3 x1 x2 x5 ⟨rfl, rfl⟩ _
  unfold M_readMade_346
  by_cases g : 320 ≤ x5
  · exact Tt_p g (w_425 hp hR)
  · exact Tt_n g (Tt_n (by decide) (w_425 hp hR))
theorem t_425 {M p : Nat} {R : MkR} {n1 n2 n3 : Int32} {RL T1 LR T2 T3 : Nat → Int32} {fS fD : Nat → Nat} (hp : p ≤ M) (h1 : ∀ i, i < 288 → RL i = nI (fS i)) (h2 : ∀ i, i < 32 → RL (288 + i) = nI (fD i)) (f1 : ∀ i, fS i ≤ 15) (f2 : ∀ i, fD i ≤ 15) (hR : (if fS 256 = 0 ∨ ¬ goodL fS 288 0 ∨ ¬ goodL fD 32 1 then none else some (p, fS, fD)) = R) : Tt (M_readMade_425 200000 (nI p) (nI 0) RL n1 T1 LR n2 T2 n3 T3) (QN M R) := by
  unfold M_readMade_425
  have e256 : (256 : Int32).toNatClampNeg = 256 := rfl
  refine Tt_p rfl (Tt_g (n := 256) (by omega) (by omega) ?_)
  rw [e256, h1 256 (by omega)]
  have b := f1 256
  by_cases z : fS 256 = 0
  · rw [if_pos (Or.inl z)] at hR
    exact Tt_p (by rw [z]; rfl) (w_483 hp hR.symm)
  · refine Tt_n (by first | decide | (simp (disch := omega) only [i_0, i_1, i_2, i_3, i_4, i_5, i_6, i_7, i_8, i_9, i_10, i_11, i_13, i_14, i_15, i_16, i_17, i_18, i_19, i_24, i_29, i_30, i_31, i_32, i_138, i_143, i_144, i_254, i_255, i_256, i_257, i_258, i_261, i_264, i_265, i_279, i_280, i_284, i_285, i_286, i_288, i_319, i_320, i_338, i_339, i_575, i_576, i_599, i_600, i_4096, i_8191, i_8192, i_8249, i_8250, i_8256, i_9000, i_16384, i_32767, i_32768, i_65520, i_65521, i_65535, i_65536, i_65999, i_66000, i_1300, i_120, i_156, nI_leI, nI_ltI, nI_eq, nI_add, n_neg, not_false_eq_true, not_true_eq_false] <;> omega)) (Tt_R2.2 (Tt_m (t_makeM (a := 0) (n := 288) (mb := 0) (f := fS) rfl rfl rfl (by omega) (by omega) (by omega) (by omega) (fun i hi => by rw [Nat.zero_add]; exact h1 i hi) (fun i _ => f1 i)) ?_))
    rintro ⟨r3, v1, t2⟩ ⟨g1, g2⟩
    dsimp only at g1 g2 ⊢
    by_cases G : goodL fS 288 0
    · obtain ⟨rfl, hT⟩ := g1 G
      refine Tt_n (by decide) (Tt_R2.2 (Tt_m (t_makeM (a := 288) (n := 32) (mb := 1) (f := fD) rfl rfl rfl (by omega) (by omega) (by omega) (by omega) h2 (fun i _ => f2 i)) ?_))
      rintro ⟨r6, v4, t5⟩ ⟨g3, g4⟩
      dsimp only at g3 g4 ⊢
      by_cases G2 : goodL fD 32 1
      · obtain ⟨rfl, hT2⟩ := g3 G2
        rw [if_neg (by rintro (k | k | k); exact z k; exact k G; exact k G2)] at hR
        subst hR
        refine Tt_n (by decide) ?_
        unfold M_readMade_488
        exact Tt_z (Or.inl rfl) (Tt_Si ⟨rfl, rfl, hT, hT2⟩)
      · have e := g4 G2
        subst e
        rw [if_pos (Or.inr (Or.inr G2))] at hR
        exact Tt_p rfl (w_483 hp hR.symm)
    · have e := g2 G
      subst e
      rw [if_pos (Or.inr (Or.inl G))] at hR
      exact Tt_p rfl (w_483 hp hR.symm)
theorem t_343 {M p hl hd : Nat} {R : MkR} {n1 n2 n3 x1 x2 : Int32} {RL T1 LR T2 T3 : Nat → Int32} {g : Nat → Nat} (hp : p ≤ M) (hg : ∀ j, g j ≤ 15) (h1 : ∀ j, j < hl + hd → LR j = nI (g j)) (hl1 : 257 ≤ hl) (hl2 : hl ≤ 286) (hd2 : hd ≤ 30) (e1 : x1 = nI hl) (e2 : x2 = nI hd) (hR : mkc2 hl hd (some (p, g)) = R) : Tt (M_readMade_343 200000 (nI p) (nI 0) RL n1 T1 LR n2 T2 n3 T3 x1 x2) (QN M R) := by
  subst e1 e2
  unfold M_readMade_343
  refine Tt_W13 (fun mm a b RL _ _ LR' _ _ _ _ x1 x2 x5 => a = nI p ∧ b = nI 0 ∧ LR' = LR ∧ x1 = nI hl ∧ x2 = nI hd ∧ ∃ k, x5 = nI k ∧ k ≤ 320 ∧ mm = 320 - k ∧ ∀ j, j < k → RL j = nI (if j < 288 then zx g 0 hl j else zx g hl hd (j - 288))) ?_ 200000 320 _ _ _ _ _ _ _ _ _ _ _ _ _ (by omega) ⟨rfl, rfl, rfl, rfl, rfl, 0, rfl, by omega, by omega, fun j hj => absurd hj (by omega)⟩
  rintro K mm a b RL n1 T1 LR' n2 T2 n3 T3 x1 x2 x5 ⟨rfl, rfl, rfl, rfl, rfl, k, rfl, hk, rfl, hRL⟩ ih
  unfold M_readMade_346
  by_cases z : 320 ≤ k
  · have e : k = 320 := by omega
    subst e
    refine Tt_p (by first | decide | (simp (disch := omega) only [i_0, i_1, i_2, i_3, i_4, i_5, i_6, i_7, i_8, i_9, i_10, i_11, i_13, i_14, i_15, i_16, i_17, i_18, i_19, i_24, i_29, i_30, i_31, i_32, i_138, i_143, i_144, i_254, i_255, i_256, i_257, i_258, i_261, i_264, i_265, i_279, i_280, i_284, i_285, i_286, i_288, i_319, i_320, i_338, i_339, i_575, i_576, i_599, i_600, i_4096, i_8191, i_8192, i_8249, i_8250, i_8256, i_9000, i_16384, i_32767, i_32768, i_65520, i_65521, i_65535, i_65536, i_65999, i_66000, i_1300, i_120, i_156, nI_leI, nI_ltI, nI_eq, nI_add, n_neg, not_false_eq_true, not_true_eq_false] <;> omega)) (t_425 (fS := zx g 0 hl) (fD := zx g hl hd) hp (fun i hi => ?_) (fun i hi => ?_) (zx_b hg) (zx_b hg) (by rw [zx_i (by omega), Nat.zero_add]; exact hR))
    · rw [hRL i (by omega), if_pos hi]
    · rw [hRL (288 + i) (by omega), if_neg (by omega), show 288 + i - 288 = i by omega]
  · have put : ∀ v, v = nI (if k < 288 then zx g 0 hl k else zx g hl hd (k - 288)) → Tt (M_readMade_418 200000 K (nI p) (nI 0) RL n1 T1 LR' n2 T2 n3 T3 (nI hl) (nI hd) (nI k) (nI k) v) (QN M R) := by
      rintro _ rfl
      unfold M_readMade_418
      refine Tt_g (by omega) (by omega) (Tt_l (Tt_l ?_))
      rw [nI_1, nI_clamp (by omega)]
      refine ih (320 - (k + 1)) _ _ _ _ _ _ _ _ _ _ _ _ _ (by omega) ⟨rfl, rfl, rfl, rfl, rfl, k + 1, rfl, by omega, rfl, fun j hj => ?_⟩
      by_cases e : j = k
      · rw [e, pk_us]
      · rw [pk_un e]
        exact hRL j (by omega)
    have put0 : (if k < 288 then zx g 0 hl k else zx g hl hd (k - 288)) = 0 → Tt (M_readMade_417 200000 K (nI p) (nI 0) RL n1 T1 LR' n2 T2 n3 T3 (nI hl) (nI hd) (nI k) (nI k)) (QN M R) := by
      intro e
      unfold M_readMade_417
      exact put _ (by rw [e]; rfl)
    refine Tt_n (by first | decide | (simp (disch := omega) only [i_0, i_1, i_2, i_3, i_4, i_5, i_6, i_7, i_8, i_9, i_10, i_11, i_13, i_14, i_15, i_16, i_17, i_18, i_19, i_24, i_29, i_30, i_31, i_32, i_138, i_143, i_144, i_254, i_255, i_256, i_257, i_258, i_261, i_264, i_265, i_279, i_280, i_284, i_285, i_286, i_288, i_319, i_320, i_338, i_339, i_575, i_576, i_599, i_600, i_4096, i_8191, i_8192, i_8249, i_8250, i_8256, i_9000, i_16384, i_32767, i_32768, i_65520, i_65521, i_65535, i_65536, i_65999, i_66000, i_1300, i_120, i_156, nI_leI, nI_ltI, nI_eq, nI_add, n_neg, not_false_eq_true, not_true_eq_false] <;> omega)) (Tt_p rfl ?_)
    by_cases z1 : hl ≤ k
    · refine Tt_p (by first | decide | (simp (disch := omega) only [i_0, i_1, i_2, i_3, i_4, i_5, i_6, i_7, i_8, i_9, i_10, i_11, i_13, i_14, i_15, i_16, i_17, i_18, i_19, i_24, i_29, i_30, i_31, i_32, i_138, i_143, i_144, i_254, i_255, i_256, i_257, i_258, i_261, i_264, i_265, i_279, i_280, i_284, i_285, i_286, i_288, i_319, i_320, i_338, i_339, i_575, i_576, i_599, i_600, i_4096, i_8191, i_8192, i_8249, i_8250, i_8256, i_9000, i_16384, i_32767, i_32768, i_65520, i_65521, i_65535, i_65536, i_65999, i_66000, i_1300, i_120, i_156, nI_leI, nI_ltI, nI_eq, nI_add, n_neg, not_false_eq_true, not_true_eq_false] <;> omega)) ?_
      by_cases z2 : k < 288
      · refine Tt_p (by first | decide | (simp (disch := omega) only [i_0, i_1, i_2, i_3, i_4, i_5, i_6, i_7, i_8, i_9, i_10, i_11, i_13, i_14, i_15, i_16, i_17, i_18, i_19, i_24, i_29, i_30, i_31, i_32, i_138, i_143, i_144, i_254, i_255, i_256, i_257, i_258, i_261, i_264, i_265, i_279, i_280, i_284, i_285, i_286, i_288, i_319, i_320, i_338, i_339, i_575, i_576, i_599, i_600, i_4096, i_8191, i_8192, i_8249, i_8250, i_8256, i_9000, i_16384, i_32767, i_32768, i_65520, i_65521, i_65535, i_65536, i_65999, i_66000, i_1300, i_120, i_156, nI_leI, nI_ltI, nI_eq, nI_add, n_neg, not_false_eq_true, not_true_eq_false] <;> omega)) (put0 ?_)
        rw [if_pos z2, zx_0 z1]
      · refine Tt_n (by first | decide | (simp (disch := omega) only [i_0, i_1, i_2, i_3, i_4, i_5, i_6, i_7, i_8, i_9, i_10, i_11, i_13, i_14, i_15, i_16, i_17, i_18, i_19, i_24, i_29, i_30, i_31, i_32, i_138, i_143, i_144, i_254, i_255, i_256, i_257, i_258, i_261, i_264, i_265, i_279, i_280, i_284, i_285, i_286, i_288, i_319, i_320, i_338, i_339, i_575, i_576, i_599, i_600, i_4096, i_8191, i_8192, i_8249, i_8250, i_8256, i_9000, i_16384, i_32767, i_32768, i_65520, i_65521, i_65535, i_65536, i_65999, i_66000, i_1300, i_120, i_156, nI_leI, nI_ltI, nI_eq, nI_add, n_neg, not_false_eq_true, not_true_eq_false] <;> omega)) ?_
        have e3 : nI k - 288 = nI (k - 288) := pk_sub (b := 288) (by omega)
        have e4 : nI hl + nI k - 288 = nI (hl + (k - 288)) := by
          rw [nI_add]
          have : nI (hl + k) - 288 = nI (hl + k - 288) := pk_sub (b := 288) (by omega)
          rw [this]
          exact congrArg nI (by omega)
        rw [e3, e4]
        by_cases z3 : hd ≤ k - 288
        · refine Tt_p (by first | decide | (simp (disch := omega) only [i_0, i_1, i_2, i_3, i_4, i_5, i_6, i_7, i_8, i_9, i_10, i_11, i_13, i_14, i_15, i_16, i_17, i_18, i_19, i_24, i_29, i_30, i_31, i_32, i_138, i_143, i_144, i_254, i_255, i_256, i_257, i_258, i_261, i_264, i_265, i_279, i_280, i_284, i_285, i_286, i_288, i_319, i_320, i_338, i_339, i_575, i_576, i_599, i_600, i_4096, i_8191, i_8192, i_8249, i_8250, i_8256, i_9000, i_16384, i_32767, i_32768, i_65520, i_65521, i_65535, i_65536, i_65999, i_66000, i_1300, i_120, i_156, nI_leI, nI_ltI, nI_eq, nI_add, n_neg, not_false_eq_true, not_true_eq_false] <;> omega)) (put0 ?_)
          rw [if_neg z2, zx_0 z3]
        · refine Tt_n (by first | decide | (simp (disch := omega) only [i_0, i_1, i_2, i_3, i_4, i_5, i_6, i_7, i_8, i_9, i_10, i_11, i_13, i_14, i_15, i_16, i_17, i_18, i_19, i_24, i_29, i_30, i_31, i_32, i_138, i_143, i_144, i_254, i_255, i_256, i_257, i_258, i_261, i_264, i_265, i_279, i_280, i_284, i_285, i_286, i_288, i_319, i_320, i_338, i_339, i_575, i_576, i_599, i_600, i_4096, i_8191, i_8192, i_8249, i_8250, i_8256, i_9000, i_16384, i_32767, i_32768, i_65520, i_65521, i_65535, i_65536, i_65999, i_66000, i_1300, i_120, i_156, nI_leI, nI_ltI, nI_eq, nI_add, n_neg, not_false_eq_true, not_true_eq_false] <;> omega)) (Tt_l (Tt_g (by omega) (by omega) (put _ ?_)))
          rw [nI_clamp (by omega), h1 _ (by omega), if_neg z2, zx_i (by omega)]
    · refine Tt_n (by first | decide | (simp (disch := omega) only [i_0, i_1, i_2, i_3, i_4, i_5, i_6, i_7, i_8, i_9, i_10, i_11, i_13, i_14, i_15, i_16, i_17, i_18, i_19, i_24, i_29, i_30, i_31, i_32, i_138, i_143, i_144, i_254, i_255, i_256, i_257, i_258, i_261, i_264, i_265, i_279, i_280, i_284, i_285, i_286, i_288, i_319, i_320, i_338, i_339, i_575, i_576, i_599, i_600, i_4096, i_8191, i_8192, i_8249, i_8250, i_8256, i_9000, i_16384, i_32767, i_32768, i_65520, i_65521, i_65535, i_65536, i_65999, i_66000, i_1300, i_120, i_156, nI_leI, nI_ltI, nI_eq, nI_add, n_neg, not_false_eq_true, not_true_eq_false] <;> omega)) (Tt_g (by omega) (by omega) (put _ ?_))
      rw [nI_clamp (by omega), h1 _ (by omega), if_pos (by omega), zx_i (by omega), Nat.zero_add]
abbrev RmK := Int32 → Int32 → (Nat → Int32) → Int32 → (Nat → Int32) → (Nat → Int32) → Int32 → (Nat → Int32) → Int32 → (Nat → Int32) → Int32 → Int32 → Int32 → Option RmT
theorem w_272 {K : RmK} {Q : RmT → Prop} {vr vw n1 n2 n3 x1 x2 x4 x5 x6 : Int32} {RL T1 LR T2 T3 : Nat → Int32} (hK : ∀ RL n1 T1 LR n2 T2 n3 T3 x1 x2 x4, Tt (K vr (nI 1) RL n1 T1 LR n2 T2 n3 T3 x1 x2 x4) Q) : Tt (M_readMade_272 200000 K vr vw RL n1 T1 LR n2 T2 n3 T3 x1 x2 x4 x5 x6 (nI 1)) Q := by
  unfold M_readMade_272
  refine Tt_z (Or.inr rfl) ?_
  refine Tt_W16 (fun mm a b _ _ _ _ _ _ _ _ _ _ _ _ _ _ => a = vr ∧ b = nI 1) ?_ 200000 0 _ _ _ _ _ _ _ _ _ _ _ _ _ _ _ _ (by omega) ⟨rfl, rfl⟩
  rintro KK mm a b RL n1 T1 LR n2 T2 n3 T3 x1 x2 x4 x5 x6 x7 ⟨rfl, rfl⟩ _
  unfold M_readMade_278 M_readMade_340
  by_cases g : x6 ≤ x7
  · exact Tt_p g (hK _ _ _ _ _ _ _ _ _ _ _)
  · exact Tt_n g (Tt_n (by decide) (hK _ _ _ _ _ _ _ _ _ _ _))
theorem w_246 {K : RmK} {Q : RmT → Prop} {vr n1 n2 n3 x1 x2 x4 x5 s0 : Int32} {RL T1 LR T2 T3 : Nat → Int32} (hK : ∀ RL n1 T1 LR n2 T2 n3 T3 x1 x2 x4, Tt (K vr (nI 1) RL n1 T1 LR n2 T2 n3 T3 x1 x2 x4) Q) : Tt (M_readMade_246 200000 K vr (nI 1) RL n1 T1 LR n2 T2 n3 T3 x1 x2 x4 x5 s0) Q := by
  unfold M_readMade_246 M_readMade_267
  exact Tt_n (by decide) (w_272 hK)
theorem w_189 {K : RmK} {Q : RmT → Prop} {c : Nat → Int32} {bi : Nat → Nat} {len a M p : Nat} {vw n1 n2 n3 x1 x2 x4 x5 : Int32} {RL T1 LR T2 T3 : Nat → Int32} (hs : Src c len bi a M) (hp : p ≤ M) (hK : ∀ p', p' ≤ M → ∀ RL n1 T1 LR n2 T2 n3 T3 x1 x2 x4, Tt (K (nI p') (nI 1) RL n1 T1 LR n2 T2 n3 T3 x1 x2 x4) Q) : Tt (M_readMade_189 200000 66000 (nI a) (nI M) c K (nI p) vw RL n1 T1 LR n2 T2 n3 T3 x1 x2 x4 x5 (nI 1)) Q := by
  obtain ⟨h, hlen, hM, ha⟩ := hs
  have go : ∀ k (s : Int32 → Int32), k ≤ 16 → ∀ kk : Int32, kk = nI k → Tt (mR2 (M_readNumber 200000 66000 (nI a) (nI M) c (nI p) (nI 1) kk) fun r v w => M_readMade_246 200000 K v w RL n1 T1 LR n2 T2 n3 T3 x1 x2 x4 x5 (s r)) Q := by
    rintro k s hk _ rfl
    refine Tt_R2.2 (Tt_m (t_numM h hlen hM ha hp (k := k) (wr := 1) hk (by omega) rfl rfl rfl rfl rfl) ?_)
    rintro _ ⟨v1, p1, w1, rfl, hv1, hp1, hp1', hw1, g1, g2⟩
    dsimp only
    have e : w1 = 1 := by rcases g2 (Or.inl rfl) with q | q <;> omega
    subst e
    exact w_246 (hK p1 hp1')
  unfold M_readMade_189
  refine Tt_z (Or.inr rfl) ?_
  by_cases c1 : x5 = 16
  · exact Tt_p c1 (go 2 (fun r => 3 + r) (by omega) _ rfl)
  · refine Tt_n c1 ?_
    by_cases c2 : x5 = 17
    · exact Tt_p c2 (go 3 (fun r => 3 + r) (by omega) _ rfl)
    · refine Tt_n c2 ?_
      by_cases c3 : x5 = 18
      · exact Tt_p c3 (go 7 (fun r => 11 + r) (by omega) _ rfl)
      · exact Tt_n c3 (w_246 (hK p hp))
theorem t_189 {K : RmK} {Q : RmT → Prop} {c : Nat → Int32} {bi : Nat → Nat} {len a M p s : Nat} {vw n1 n2 n3 x1 x2 x4 : Int32} {RL T1 LR T2 T3 : Nat → Int32} (hs : Src c len bi a M) (hp : p ≤ M) (hs19 : s < 19) (hbad : M < p + rex s → ∀ p', p' ≤ M → ∀ RL n1 T1 LR n2 T2 n3 T3 x1 x2 x4, Tt (K (nI p') (nI 1) RL n1 T1 LR n2 T2 n3 T3 x1 x2 x4) Q) (hgood : p + rex s ≤ M → Tt (M_readMade_246 200000 K (nI (p + rex s)) (nI 0) RL n1 T1 LR n2 T2 n3 T3 x1 x2 x4 (nI s) (nI (rb s + num (sB bi a) p (rex s)))) Q) : Tt (M_readMade_189 200000 66000 (nI a) (nI M) c K (nI p) vw RL n1 T1 LR n2 T2 n3 T3 x1 x2 x4 (nI s) (nI 0)) Q := by
  obtain ⟨h, hlen, hM, ha⟩ := hs
  have go : ∀ k b, rex s = k → rb s = b → k ≤ 16 → ∀ kk bb : Int32, kk = nI k → bb = nI b → Tt (mR2 (M_readNumber 200000 66000 (nI a) (nI M) c (nI p) (nI 0) kk) fun r v w => M_readMade_246 200000 K v w RL n1 T1 LR n2 T2 n3 T3 x1 x2 x4 (nI s) (bb + r)) Q := by
    rintro k b rfl rfl hk _ _ rfl rfl
    refine Tt_R2.2 (Tt_m (t_numM h hlen hM ha hp (k := rex s) (wr := 0) hk (by omega) rfl rfl rfl rfl rfl) ?_)
    rintro _ ⟨v1, p1, w1, rfl, hv1, hp1, hp1', hw1, g1, g2⟩
    dsimp only
    by_cases y : p + rex s ≤ M
    · obtain ⟨rfl, rfl, rfl⟩ := g1 rfl y
      rw [nI_add]
      exact hgood y
    · have e : w1 = 1 := by rcases g2 (Or.inr (by omega)) with q | q <;> omega
      subst e
      exact w_246 (hbad (by omega) p1 hp1')
  unfold M_readMade_189
  refine Tt_z (Or.inl rfl) ?_
  by_cases c1 : s = 16
  · exact Tt_p (by rw [c1]; rfl) (go 2 3 (by rw [c1]; rfl) (by rw [c1]; rfl) (by omega) _ _ rfl rfl)
  · refine Tt_n (by first | decide | (simp (disch := omega) only [i_0, i_1, i_2, i_3, i_4, i_5, i_6, i_7, i_8, i_9, i_10, i_11, i_13, i_14, i_15, i_16, i_17, i_18, i_19, i_24, i_29, i_30, i_31, i_32, i_138, i_143, i_144, i_254, i_255, i_256, i_257, i_258, i_261, i_264, i_265, i_279, i_280, i_284, i_285, i_286, i_288, i_319, i_320, i_338, i_339, i_575, i_576, i_599, i_600, i_4096, i_8191, i_8192, i_8249, i_8250, i_8256, i_9000, i_16384, i_32767, i_32768, i_65520, i_65521, i_65535, i_65536, i_65999, i_66000, i_1300, i_120, i_156, nI_leI, nI_ltI, nI_eq, nI_add, n_neg, not_false_eq_true, not_true_eq_false] <;> omega)) ?_
    by_cases c2 : s = 17
    · exact Tt_p (by rw [c2]; rfl) (go 3 3 (by rw [c2]; rfl) (by rw [c2]; rfl) (by omega) _ _ rfl rfl)
    · refine Tt_n (by first | decide | (simp (disch := omega) only [i_0, i_1, i_2, i_3, i_4, i_5, i_6, i_7, i_8, i_9, i_10, i_11, i_13, i_14, i_15, i_16, i_17, i_18, i_19, i_24, i_29, i_30, i_31, i_32, i_138, i_143, i_144, i_254, i_255, i_256, i_257, i_258, i_261, i_264, i_265, i_279, i_280, i_284, i_285, i_286, i_288, i_319, i_320, i_338, i_339, i_575, i_576, i_599, i_600, i_4096, i_8191, i_8192, i_8249, i_8250, i_8256, i_9000, i_16384, i_32767, i_32768, i_65520, i_65521, i_65535, i_65536, i_65999, i_66000, i_1300, i_120, i_156, nI_leI, nI_ltI, nI_eq, nI_add, n_neg, not_false_eq_true, not_true_eq_false] <;> omega)) ?_
      by_cases c3 : s = 18
      · exact Tt_p (by rw [c3]; rfl) (go 7 11 (by rw [c3]; rfl) (by rw [c3]; rfl) (by omega) _ _ rfl rfl)
      · have q1 : rex s = 0 := rex_0 (by omega)
        have q2 : rb s = 1 := if_pos (by omega)
        refine Tt_n (by first | decide | (simp (disch := omega) only [i_0, i_1, i_2, i_3, i_4, i_5, i_6, i_7, i_8, i_9, i_10, i_11, i_13, i_14, i_15, i_16, i_17, i_18, i_19, i_24, i_29, i_30, i_31, i_32, i_138, i_143, i_144, i_254, i_255, i_256, i_257, i_258, i_261, i_264, i_265, i_279, i_280, i_284, i_285, i_286, i_288, i_319, i_320, i_338, i_339, i_575, i_576, i_599, i_600, i_4096, i_8191, i_8192, i_8249, i_8250, i_8256, i_9000, i_16384, i_32767, i_32768, i_65520, i_65521, i_65535, i_65536, i_65999, i_66000, i_1300, i_120, i_156, nI_leI, nI_ltI, nI_eq, nI_add, n_neg, not_false_eq_true, not_true_eq_false] <;> omega)) ?_
        rw [q1, q2] at hgood
        exact hgood hp
theorem t_272 {K : RmK} {Q : RmT → Prop} {p i s r : Nat} {vw n1 n2 n3 x1 x2 : Int32} {RL T1 LR T2 T3 : Nat → Int32} {g : Nat → Nat} (hs : s < 19) (hi : i + r ≤ 320) (h16 : ¬ (s = 16 ∧ i = 0)) (hL : ∀ j, j < i → LR j = nI (g j)) (hK : ∀ LR', (∀ j, j < i + r → LR' j = nI (rpL g i (rvl g i s) r j)) → Tt (K (nI p) (nI 0) RL n1 T1 LR' n2 T2 n3 T3 x1 x2 (nI (i + r))) Q) : Tt (M_readMade_272 200000 K (nI p) vw RL n1 T1 LR n2 T2 n3 T3 x1 x2 (nI i) (nI s) (nI r) (nI 0)) Q := by
  unfold M_readMade_272
  refine Tt_z (Or.inl rfl) ?_
  refine Tt_W16 (fun mm a b RL' n1' T1' LR' n2' T2' n3' T3' x1' x2' x4' x5' x6' x7' => a = nI p ∧ b = nI 0 ∧ RL' = RL ∧ n1' = n1 ∧ T1' = T1 ∧ n2' = n2 ∧ T2' = T2 ∧ n3' = n3 ∧ T3' = T3 ∧ x1' = x1 ∧ x2' = x2 ∧ x5' = nI s ∧ x6' = nI r ∧ ∃ d, x7' = nI d ∧ d ≤ r ∧ x4' = nI (i + d) ∧ mm = r - d ∧ ∀ j, j < i + d → LR' j = nI (rpL g i (rvl g i s) r j)) ?_ 200000 r _ _ _ _ _ _ _ _ _ _ _ _ _ _ _ _ (by omega) ⟨rfl, rfl, rfl, rfl, rfl, rfl, rfl, rfl, rfl, rfl, rfl, rfl, rfl, 0, rfl, by omega, rfl, rfl, fun j hj => by unfold rpL; rw [if_neg (by omega)]; exact hL j hj⟩
  rintro KK mm a b RL' n1' T1' LR' n2' T2' n3' T3' x1' x2' x4' x5' x6' x7' ⟨rfl, rfl, rfl, rfl, rfl, rfl, rfl, rfl, rfl, rfl, rfl, rfl, rfl, d, rfl, hd, rfl, rfl, hc⟩ ih
  unfold M_readMade_278 M_readMade_340
  by_cases z : r ≤ d
  · have e : d = r := by omega
    subst e
    exact Tt_p (by first | decide | (simp (disch := omega) only [i_0, i_1, i_2, i_3, i_4, i_5, i_6, i_7, i_8, i_9, i_10, i_11, i_13, i_14, i_15, i_16, i_17, i_18, i_19, i_24, i_29, i_30, i_31, i_32, i_138, i_143, i_144, i_254, i_255, i_256, i_257, i_258, i_261, i_264, i_265, i_279, i_280, i_284, i_285, i_286, i_288, i_319, i_320, i_338, i_339, i_575, i_576, i_599, i_600, i_4096, i_8191, i_8192, i_8249, i_8250, i_8256, i_9000, i_16384, i_32767, i_32768, i_65520, i_65521, i_65535, i_65536, i_65999, i_66000, i_1300, i_120, i_156, nI_leI, nI_ltI, nI_eq, nI_add, n_neg, not_false_eq_true, not_true_eq_false] <;> omega)) (hK _ hc)
  · have put : ∀ v, v = nI (rvl g i s) → Tt (M_readMade_330 200000 KK (nI p) (nI 0) RL' n1' T1' LR' n2' T2' n3' T3' x1' x2' (nI (i + d)) (nI s) (nI r) (nI d) (nI (i + d)) v) Q := by
      rintro _ rfl
      unfold M_readMade_330
      refine Tt_g (by omega) (by omega) (Tt_l (Tt_l (Tt_l ?_)))
      rw [nI_1, nI_1, nI_clamp (by omega)]
      refine ih (r - (d + 1)) _ _ _ _ _ _ _ _ _ _ _ _ _ _ _ _ (by omega) ⟨rfl, rfl, rfl, rfl, rfl, rfl, rfl, rfl, rfl, rfl, rfl, rfl, rfl, d + 1, rfl, by omega, rfl, rfl, fun j hj => ?_⟩
      by_cases e : j = i + d
      · rw [e, pk_us]
        unfold rpL
        rw [if_pos (by omega)]
      · rw [pk_un e]
        exact hc j (by omega)
    refine Tt_n (by first | decide | (simp (disch := omega) only [i_0, i_1, i_2, i_3, i_4, i_5, i_6, i_7, i_8, i_9, i_10, i_11, i_13, i_14, i_15, i_16, i_17, i_18, i_19, i_24, i_29, i_30, i_31, i_32, i_138, i_143, i_144, i_254, i_255, i_256, i_257, i_258, i_261, i_264, i_265, i_279, i_280, i_284, i_285, i_286, i_288, i_319, i_320, i_338, i_339, i_575, i_576, i_599, i_600, i_4096, i_8191, i_8192, i_8249, i_8250, i_8256, i_9000, i_16384, i_32767, i_32768, i_65520, i_65521, i_65535, i_65536, i_65999, i_66000, i_1300, i_120, i_156, nI_leI, nI_ltI, nI_eq, nI_add, n_neg, not_false_eq_true, not_true_eq_false] <;> omega)) (Tt_p rfl ?_)
    by_cases s1 : s < 16
    · refine Tt_n (by first | decide | (simp (disch := omega) only [i_0, i_1, i_2, i_3, i_4, i_5, i_6, i_7, i_8, i_9, i_10, i_11, i_13, i_14, i_15, i_16, i_17, i_18, i_19, i_24, i_29, i_30, i_31, i_32, i_138, i_143, i_144, i_254, i_255, i_256, i_257, i_258, i_261, i_264, i_265, i_279, i_280, i_284, i_285, i_286, i_288, i_319, i_320, i_338, i_339, i_575, i_576, i_599, i_600, i_4096, i_8191, i_8192, i_8249, i_8250, i_8256, i_9000, i_16384, i_32767, i_32768, i_65520, i_65521, i_65535, i_65536, i_65999, i_66000, i_1300, i_120, i_156, nI_leI, nI_ltI, nI_eq, nI_add, n_neg, not_false_eq_true, not_true_eq_false] <;> omega)) (put _ ?_)
      unfold rvl
      rw [if_pos s1]
    · refine Tt_p (by first | decide | (simp (disch := omega) only [i_0, i_1, i_2, i_3, i_4, i_5, i_6, i_7, i_8, i_9, i_10, i_11, i_13, i_14, i_15, i_16, i_17, i_18, i_19, i_24, i_29, i_30, i_31, i_32, i_138, i_143, i_144, i_254, i_255, i_256, i_257, i_258, i_261, i_264, i_265, i_279, i_280, i_284, i_285, i_286, i_288, i_319, i_320, i_338, i_339, i_575, i_576, i_599, i_600, i_4096, i_8191, i_8192, i_8249, i_8250, i_8256, i_9000, i_16384, i_32767, i_32768, i_65520, i_65521, i_65535, i_65536, i_65999, i_66000, i_1300, i_120, i_156, nI_leI, nI_ltI, nI_eq, nI_add, n_neg, not_false_eq_true, not_true_eq_false] <;> omega)) ?_
      by_cases s2 : s = 16
      · have e1 : nI (i + d) - 1 = nI (i + d - 1) := n_pred (by omega)
        refine Tt_p (by first | decide | (simp (disch := omega) only [i_0, i_1, i_2, i_3, i_4, i_5, i_6, i_7, i_8, i_9, i_10, i_11, i_13, i_14, i_15, i_16, i_17, i_18, i_19, i_24, i_29, i_30, i_31, i_32, i_138, i_143, i_144, i_254, i_255, i_256, i_257, i_258, i_261, i_264, i_265, i_279, i_280, i_284, i_285, i_286, i_288, i_319, i_320, i_338, i_339, i_575, i_576, i_599, i_600, i_4096, i_8191, i_8192, i_8249, i_8250, i_8256, i_9000, i_16384, i_32767, i_32768, i_65520, i_65521, i_65535, i_65536, i_65999, i_66000, i_1300, i_120, i_156, nI_leI, nI_ltI, nI_eq, nI_add, n_neg, not_false_eq_true, not_true_eq_false] <;> omega)) (Tt_l ?_)
        rw [e1]
        refine Tt_g (by omega) (by omega) (put _ ?_)
        rw [nI_clamp (by omega), hc (i + d - 1) (by omega)]
        unfold rpL
        by_cases d0 : d = 0
        · subst d0
          rw [if_neg (by omega)]
          unfold rvl
          rw [if_neg s1, if_pos s2]
          rfl
        · rw [if_pos (by omega)]
      · refine Tt_n (by first | decide | (simp (disch := omega) only [i_0, i_1, i_2, i_3, i_4, i_5, i_6, i_7, i_8, i_9, i_10, i_11, i_13, i_14, i_15, i_16, i_17, i_18, i_19, i_24, i_29, i_30, i_31, i_32, i_138, i_143, i_144, i_254, i_255, i_256, i_257, i_258, i_261, i_264, i_265, i_279, i_280, i_284, i_285, i_286, i_288, i_319, i_320, i_338, i_339, i_575, i_576, i_599, i_600, i_4096, i_8191, i_8192, i_8249, i_8250, i_8256, i_9000, i_16384, i_32767, i_32768, i_65520, i_65521, i_65535, i_65536, i_65999, i_66000, i_1300, i_120, i_156, nI_leI, nI_ltI, nI_eq, nI_add, n_neg, not_false_eq_true, not_true_eq_false] <;> omega)) (put _ ?_)
        unfold rvl
        rw [if_neg s1, if_neg s2]
        rfl
theorem w_133 {M p : Nat} {R : MkR} {c : Nat → Int32} {vf vb vw n1 n2 n3 x1 x2 : Int32} {RL T1 LR T2 T3 : Nat → Int32} (hp : p ≤ M) (hR : R = none) : Tt (M_readMade_133 200000 66000 vf vb c (nI p) vw RL n1 T1 LR n2 T2 n3 T3 x1 x2 (nI 1)) (QN M R) := by
  unfold M_readMade_133
  refine Tt_z (Or.inr rfl) ?_
  refine Tt_W13 (fun mm a b _ _ _ _ _ _ _ _ _ _ _ => a = nI p ∧ b = nI 1) ?_ 200000 0 _ _ _ _ _ _ _ _ _ _ _ _ _ (by omega) ⟨rfl, rfl⟩
  rintro K mm a b RL n1 T1 LR n2 T2 n3 T3 x1 x2 x4 ⟨rfl, rfl⟩ _
  unfold M_readMade_139
  by_cases g : x1 + x2 ≤ x4
  · exact Tt_p g (w_343 hp hR)
  · exact Tt_n g (Tt_n (by decide) (w_343 hp hR))
theorem t_133 {M p hl hd len a : Nat} {R : MkR} {c : Nat → Int32} {bi f : Nat → Nat} {vw n1 n2 n3 : Int32} {RL T1 LR T2 T3 : Nat → Int32} (hs : Src c len bi a M) (hp : p ≤ M) (hl1 : 257 ≤ hl) (hl2 : hl ≤ 286) (hd2 : hd ≤ 30) (hf : ∀ i, f i ≤ 15) (hT : TreeOK T1 f 19) (hR : mkc2 hl hd (rdl f (sB bi a) M (hl + hd) 400 p 0 (fun _ => 0)) = R) : Tt (M_readMade_133 200000 66000 (nI a) (nI M) c (nI p) vw RL n1 T1 LR n2 T2 n3 T3 (nI hl) (nI hd) (nI 0)) (QN M R) := by
  unfold M_readMade_133
  refine Tt_z (Or.inl rfl) ?_
  refine Tt_W13 (fun mm vr vw _ _ T1' LR _ _ _ _ x1 x2 x4 => (mm = 0 ∧ vw = nI 1 ∧ R = none ∧ ∃ p', p' ≤ M ∧ vr = nI p') ∨ (∃ p i g k, vw = nI 0 ∧ vr = nI p ∧ p ≤ M ∧ T1' = T1 ∧ x1 = nI hl ∧ x2 = nI hd ∧ x4 = nI i ∧ i ≤ hl + hd ∧ (∀ j, g j ≤ 15) ∧ (∀ j, j < i → LR j = nI (g j)) ∧ hl + hd - i < k ∧ mm = hl + hd - i + 1 ∧ mkc2 hl hd (rdl f (sB bi a) M (hl + hd) k p i g) = R)) ?_ 200000 (hl + hd + 1) _ _ _ _ _ _ _ _ _ _ _ _ _ (by omega) (Or.inr ⟨p, 0, fun _ => 0, 400, rfl, rfl, hp, rfl, rfl, rfl, rfl, by omega, fun _ => Nat.zero_le _, fun j hj => absurd hj (by omega), by omega, by omega, hR⟩)
  clear hR hp p
  rintro K mm vr vw RL n1 T1' LR n2 T2 n3 T3 x1 x2 x4 (⟨rfl, rfl, hR, p', hp', rfl⟩ | ⟨p, i, g, k, rfl, rfl, hp, rfl, rfl, rfl, rfl, hi, hg, hL, hk, rfl, hR⟩) ih
  · unfold M_readMade_139
    by_cases g : x1 + x2 ≤ x4
    · exact Tt_p g (w_343 hp' hR)
    · exact Tt_n g (Tt_n (by decide) (w_343 hp' hR))
  · obtain ⟨k', rfl⟩ : ∃ k', k = k' + 1 := ⟨k - 1, by omega⟩
    unfold rdl at hR
    have bad : R = none → ∀ p', p' ≤ M → ∀ RL n1 T1 LR n2 T2 n3 T3 x1 x2 x4, Tt (K (nI p') (nI 1) RL n1 T1 LR n2 T2 n3 T3 x1 x2 x4) (QN M R) := by
      intro e p' hp' RL n1 T1 LR n2 T2 n3 T3 x1 x2 x4
      exact ih 0 _ _ _ _ _ _ _ _ _ _ _ _ _ (by omega) (Or.inl ⟨rfl, rfl, e, p', hp', rfl⟩)
    unfold M_readMade_139
    rw [nI_add]
    by_cases z : hl + hd ≤ i
    · have e : i = hl + hd := by omega
      rw [if_pos z] at hR
      exact Tt_p (by first | decide | (simp (disch := omega) only [i_0, i_1, i_2, i_3, i_4, i_5, i_6, i_7, i_8, i_9, i_10, i_11, i_13, i_14, i_15, i_16, i_17, i_18, i_19, i_24, i_29, i_30, i_31, i_32, i_138, i_143, i_144, i_254, i_255, i_256, i_257, i_258, i_261, i_264, i_265, i_279, i_280, i_284, i_285, i_286, i_288, i_319, i_320, i_338, i_339, i_575, i_576, i_599, i_600, i_4096, i_8191, i_8192, i_8249, i_8250, i_8256, i_9000, i_16384, i_32767, i_32768, i_65520, i_65521, i_65535, i_65536, i_65999, i_66000, i_1300, i_120, i_156, nI_leI, nI_ltI, nI_eq, nI_add, n_neg, not_false_eq_true, not_true_eq_false] <;> omega)) (t_343 hp hg (fun j hj => hL j (by omega)) hl1 hl2 hd2 rfl rfl hR)
    · rw [if_neg z] at hR
      refine Tt_n (by first | decide | (simp (disch := omega) only [i_0, i_1, i_2, i_3, i_4, i_5, i_6, i_7, i_8, i_9, i_10, i_11, i_13, i_14, i_15, i_16, i_17, i_18, i_19, i_24, i_29, i_30, i_31, i_32, i_138, i_143, i_144, i_254, i_255, i_256, i_257, i_258, i_261, i_264, i_265, i_279, i_280, i_284, i_285, i_286, i_288, i_319, i_320, i_338, i_339, i_575, i_576, i_599, i_600, i_4096, i_8191, i_8192, i_8249, i_8250, i_8256, i_9000, i_16384, i_32767, i_32768, i_65520, i_65521, i_65535, i_65536, i_65999, i_66000, i_1300, i_120, i_156, nI_leI, nI_ltI, nI_eq, nI_add, n_neg, not_false_eq_true, not_true_eq_false] <;> omega)) (Tt_p rfl (Tt_R2.2 (Tt_m (t_symM hs.1 hs.2.1 hs.2.2.1 hs.2.2.2 hp (n := 19) (by omega) (fun i _ => hf i) hT rfl rfl rfl rfl) ?_)))
      rintro ⟨r, vr2, vw2⟩ ⟨g1, g2⟩
      dsimp only at g1 g2 ⊢
      cases hd' : dcd f 19 (sB bi a) M p with
      | none =>
        obtain ⟨p', q1, q2, q3⟩ := g2 hd'
        obtain ⟨rfl, rfl, rfl⟩ : r = nI 0 ∧ vr2 = nI p' ∧ vw2 = nI 1 := ⟨congrArg Prod.fst q3, congrArg (fun z => z.2.1) q3, congrArg (fun z => z.2.2) q3⟩
        rw [hd'] at hR
        refine Tt_n (by decide) ?_
        unfold M_readMade_184
        exact w_189 hs q2 (bad hR.symm)
      | some q =>
        obtain ⟨s, p1⟩ := q
        have q3 := g1 s p1 hd'
        obtain ⟨rfl, rfl, rfl⟩ : r = nI s ∧ vr2 = nI p1 ∧ vw2 = nI 0 := ⟨congrArg Prod.fst q3, congrArg (fun z => z.2.1) q3, congrArg (fun z => z.2.2) q3⟩
        have db := dcd_b hd'
        rw [hd'] at hR
        dsimp only at hR
        have nl := num_lt (sB_lt bi a) p1 (rex s)
        have n7 : 2 ^ rex s ≤ 2 ^ 7 := Nat.pow_le_pow_right (by omega) (y_rex s db.1).2.2
        have hrb := rb_b s
        have rest : ¬ (s = 16 ∧ i = 0) → Tt (M_readMade_188 200000 66000 (nI a) (nI M) c K (nI p1) (nI 0) RL n1 T1' LR n2 T2 n3 T3 (nI hl) (nI hd) (nI i) (nI s)) (QN M R) := by
          intro w
          unfold M_readMade_188
          refine t_189 hs db.2.2.1 db.1 (fun y => bad ?_) (fun y => ?_)
          · rw [if_pos (Or.inl y)] at hR
            exact hR.symm
          · generalize num (sB bi a) p1 (rex s) = v at *
            unfold M_readMade_246
            rw [nI_add, nI_add]
            refine Tt_p rfl ?_
            by_cases x : i + (rb s + v) ≤ hl + hd
            · rw [if_neg (by omega)] at hR
              refine Tt_p (by first | decide | (simp (disch := omega) only [i_0, i_1, i_2, i_3, i_4, i_5, i_6, i_7, i_8, i_9, i_10, i_11, i_13, i_14, i_15, i_16, i_17, i_18, i_19, i_24, i_29, i_30, i_31, i_32, i_138, i_143, i_144, i_254, i_255, i_256, i_257, i_258, i_261, i_264, i_265, i_279, i_280, i_284, i_285, i_286, i_288, i_319, i_320, i_338, i_339, i_575, i_576, i_599, i_600, i_4096, i_8191, i_8192, i_8249, i_8250, i_8256, i_9000, i_16384, i_32767, i_32768, i_65520, i_65521, i_65535, i_65536, i_65999, i_66000, i_1300, i_120, i_156, nI_leI, nI_ltI, nI_eq, nI_add, n_neg, not_false_eq_true, not_true_eq_false] <;> omega)) (t_272 db.1 (by omega) w hL ?_)
              intro LR' hL'
              exact ih (hl + hd - (i + (rb s + v)) + 1) _ _ _ _ _ _ _ _ _ _ _ _ _ (by omega) (Or.inr ⟨p1 + rex s, i + (rb s + v), _, k', rfl, rfl, y, rfl, rfl, rfl, rfl, x, rpL_b hg (rvl_b hg), hL', by omega, rfl, hR⟩)
            · rw [if_pos (by omega)] at hR
              refine Tt_n (by first | decide | (simp (disch := omega) only [i_0, i_1, i_2, i_3, i_4, i_5, i_6, i_7, i_8, i_9, i_10, i_11, i_13, i_14, i_15, i_16, i_17, i_18, i_19, i_24, i_29, i_30, i_31, i_32, i_138, i_143, i_144, i_254, i_255, i_256, i_257, i_258, i_261, i_264, i_265, i_279, i_280, i_284, i_285, i_286, i_288, i_319, i_320, i_338, i_339, i_575, i_576, i_599, i_600, i_4096, i_8191, i_8192, i_8249, i_8250, i_8256, i_9000, i_16384, i_32767, i_32768, i_65520, i_65521, i_65535, i_65536, i_65999, i_66000, i_1300, i_120, i_156, nI_leI, nI_ltI, nI_eq, nI_add, n_neg, not_false_eq_true, not_true_eq_false] <;> omega)) ?_
              unfold M_readMade_267
              exact w_272 (bad hR.symm _ y)
        refine Tt_p rfl ?_
        by_cases s2 : s = 16
        · refine Tt_p (by first | decide | (simp (disch := omega) only [i_0, i_1, i_2, i_3, i_4, i_5, i_6, i_7, i_8, i_9, i_10, i_11, i_13, i_14, i_15, i_16, i_17, i_18, i_19, i_24, i_29, i_30, i_31, i_32, i_138, i_143, i_144, i_254, i_255, i_256, i_257, i_258, i_261, i_264, i_265, i_279, i_280, i_284, i_285, i_286, i_288, i_319, i_320, i_338, i_339, i_575, i_576, i_599, i_600, i_4096, i_8191, i_8192, i_8249, i_8250, i_8256, i_9000, i_16384, i_32767, i_32768, i_65520, i_65521, i_65535, i_65536, i_65999, i_66000, i_1300, i_120, i_156, nI_leI, nI_ltI, nI_eq, nI_add, n_neg, not_false_eq_true, not_true_eq_false] <;> omega)) ?_
          by_cases i0 : i = 0
          · rw [if_pos (Or.inr (Or.inl ⟨s2, i0⟩))] at hR
            refine Tt_p (by first | decide | (simp (disch := omega) only [i_0, i_1, i_2, i_3, i_4, i_5, i_6, i_7, i_8, i_9, i_10, i_11, i_13, i_14, i_15, i_16, i_17, i_18, i_19, i_24, i_29, i_30, i_31, i_32, i_138, i_143, i_144, i_254, i_255, i_256, i_257, i_258, i_261, i_264, i_265, i_279, i_280, i_284, i_285, i_286, i_288, i_319, i_320, i_338, i_339, i_575, i_576, i_599, i_600, i_4096, i_8191, i_8192, i_8249, i_8250, i_8256, i_9000, i_16384, i_32767, i_32768, i_65520, i_65521, i_65535, i_65536, i_65999, i_66000, i_1300, i_120, i_156, nI_leI, nI_ltI, nI_eq, nI_add, n_neg, not_false_eq_true, not_true_eq_false] <;> omega)) ?_
            unfold M_readMade_184
            exact w_189 hs db.2.2.1 (bad hR.symm)
          · exact Tt_n (by first | decide | (simp (disch := omega) only [i_0, i_1, i_2, i_3, i_4, i_5, i_6, i_7, i_8, i_9, i_10, i_11, i_13, i_14, i_15, i_16, i_17, i_18, i_19, i_24, i_29, i_30, i_31, i_32, i_138, i_143, i_144, i_254, i_255, i_256, i_257, i_258, i_261, i_264, i_265, i_279, i_280, i_284, i_285, i_286, i_288, i_319, i_320, i_338, i_339, i_575, i_576, i_599, i_600, i_4096, i_8191, i_8192, i_8249, i_8250, i_8256, i_9000, i_16384, i_32767, i_32768, i_65520, i_65521, i_65535, i_65536, i_65999, i_66000, i_1300, i_120, i_156, nI_leI, nI_ltI, nI_eq, nI_add, n_neg, not_false_eq_true, not_true_eq_false] <;> omega)) (rest (fun q => i0 q.2))
        · exact Tt_n (by first | decide | (simp (disch := omega) only [i_0, i_1, i_2, i_3, i_4, i_5, i_6, i_7, i_8, i_9, i_10, i_11, i_13, i_14, i_15, i_16, i_17, i_18, i_19, i_24, i_29, i_30, i_31, i_32, i_138, i_143, i_144, i_254, i_255, i_256, i_257, i_258, i_261, i_264, i_265, i_279, i_280, i_284, i_285, i_286, i_288, i_319, i_320, i_338, i_339, i_575, i_576, i_599, i_600, i_4096, i_8191, i_8192, i_8249, i_8250, i_8256, i_9000, i_16384, i_32767, i_32768, i_65520, i_65521, i_65535, i_65536, i_65999, i_66000, i_1300, i_120, i_156, nI_leI, nI_ltI, nI_eq, nI_add, n_neg, not_false_eq_true, not_true_eq_false] <;> omega)) (rest (fun q => s2 q.1))
theorem w_128 {M p : Nat} {R : MkR} {c : Nat → Int32} {vf vb vw n1 n2 n3 x1 x2 : Int32} {RL T1 LR T2 T3 : Nat → Int32} (hp : p ≤ M) (hR : R = none) : Tt (M_readMade_128 200000 66000 vf vb c (nI p) vw RL n1 T1 LR n2 T2 n3 T3 x1 x2) (QN M R) := by
  unfold M_readMade_128
  exact w_133 hp hR
theorem t_100 {M p hl hd len a w : Nat} {R : MkR} {c : Nat → Int32} {bi f : Nat → Nat} {n1 n2 n3 : Int32} {RL T1 LR T2 T3 : Nat → Int32} (hs : Src c len bi a M) (hp : p ≤ M) (hw : w ≤ 1) (hw1 : w = 1 → R = none) (hw0 : w = 0 → 257 ≤ hl ∧ hl ≤ 286 ∧ hd ≤ 30 ∧ (∀ i, f i ≤ 15) ∧ (∀ i, i < 19 → RL (320 + i) = nI (f i)) ∧ (goodL f 19 0 → mkc2 hl hd (rdl f (sB bi a) M (hl + hd) 400 p 0 (fun _ => 0)) = R) ∧ (¬ goodL f 19 0 → R = none)) : Tt (M_readMade_100 200000 66000 (nI a) (nI M) c (nI p) (nI w) RL n1 T1 LR n2 T2 n3 T3 (nI hl) (nI hd)) (QN M R) := by
  unfold M_readMade_100
  by_cases z : w = 0
  · subst z
    obtain ⟨hl1, hl2, hd2, hf, hRL, hR1, hR0⟩ := hw0 rfl
    refine Tt_p rfl (Tt_R2.2 (Tt_m (t_makeM (a := 320) (n := 19) (mb := 0) (f := f) rfl rfl rfl (by omega) (by omega) (by omega) (by omega) hRL (fun i _ => hf i)) ?_))
    rintro ⟨r28, v26, t27⟩ ⟨g1, g2⟩
    dsimp only at g1 g2 ⊢
    by_cases G : goodL f 19 0
    · obtain ⟨rfl, hT⟩ := g1 G
      exact Tt_n (by decide) (t_133 hs hp hl1 hl2 hd2 hf hT (hR1 G))
    · have e := g2 G
      subst e
      exact Tt_p rfl (w_128 hp (hR0 G))
  · have e : w = 1 := by omega
    subst e
    exact Tt_n (by decide) (w_128 hp (hw1 rfl))
theorem t_52 {M q nl nd nc len a w : Nat} {R : MkR} {c : Nat → Int32} {bi : Nat → Nat} {vw n1 n2 n3 : Int32} {RL T1 LR T2 T3 : Nat → Int32} (hs : Src c len bi a M) (hq : q ≤ M) (hw : w ≤ 1) (hnc : nc < 16) (hw1 : w = 1 → R = none) (hw0 : w = 0 → nl ≤ 29 ∧ nd ≤ 29 ∧ (if M < q + 3 * (nc + 4) ∨ ¬ goodL (fcl (sB bi a) q (nc + 4)) 19 0 then none else mkc2 (nl + 257) (nd + 1) (rdl (fcl (sB bi a) q (nc + 4)) (sB bi a) M (nl + 257 + (nd + 1)) 400 (q + 3 * (nc + 4)) 0 (fun _ => 0))) = R) : Tt (M_readMade_52 200000 66000 (nI a) (nI M) c (nI q) vw RL n1 T1 LR n2 T2 n3 T3 (nI (nl + 257)) (nI (nd + 1)) (nI (nc + 4)) (nI w)) (QN M R) := by
  unfold M_readMade_52
  refine Tt_z (by rcases (show w = 0 ∨ w = 1 by omega) with e | e <;> subst e <;> simp) ?_
  refine Tt_W14 (fun mm vr vw RL _ _ _ _ _ _ _ x1 x2 x3 x4 => x1 = nI (nl + 257) ∧ x2 = nI (nd + 1) ∧ x3 = nI (nc + 4) ∧ ∃ k p' w', x4 = nI k ∧ k ≤ 19 ∧ mm = 19 - k ∧ vr = nI p' ∧ p' ≤ M ∧ vw = nI w' ∧ w' ≤ 1 ∧ (w' = 1 → R = none) ∧ (w' = 0 → w = 0 ∧ p' = q + 3 * (if k < nc + 4 then k else nc + 4) ∧ ∀ j, j < k → RL (320 + ord j) = nI (if j < nc + 4 then num (sB bi a) (q + 3 * j) 3 else 0))) ?_ 200000 19 _ _ _ _ _ _ _ _ _ _ _ _ _ _ (by omega) ⟨rfl, rfl, rfl, 0, q, w, rfl, by omega, rfl, rfl, hq, rfl, hw, hw1, fun e => ⟨e, by rw [if_pos (by omega)]; omega, fun j hj => absurd hj (by omega)⟩⟩
  rintro K mm vr vw RL n1 T1 LR n2 T2 n3 T3 x1 x2 x3 x4 ⟨rfl, rfl, rfl, k, p', w', rfl, hk, rfl, rfl, hp', rfl, hw', hN, hG⟩ ih
  unfold M_readMade_58
  by_cases z : 19 ≤ k
  · have e : k = 19 := by omega
    subst e
    refine Tt_p (by first | decide | (simp (disch := omega) only [i_0, i_1, i_2, i_3, i_4, i_5, i_6, i_7, i_8, i_9, i_10, i_11, i_13, i_14, i_15, i_16, i_17, i_18, i_19, i_24, i_29, i_30, i_31, i_32, i_138, i_143, i_144, i_254, i_255, i_256, i_257, i_258, i_261, i_264, i_265, i_279, i_280, i_284, i_285, i_286, i_288, i_319, i_320, i_338, i_339, i_575, i_576, i_599, i_600, i_4096, i_8191, i_8192, i_8249, i_8250, i_8256, i_9000, i_16384, i_32767, i_32768, i_65520, i_65521, i_65535, i_65536, i_65999, i_66000, i_1300, i_120, i_156, nI_leI, nI_ltI, nI_eq, nI_add, n_neg, not_false_eq_true, not_true_eq_false] <;> omega)) (t_100 (f := fcl (sB bi a) q (nc + 4)) hs hp' hw' hN (fun e => ?_))
    obtain ⟨e1, e2, e3⟩ := hG e
    obtain ⟨k1, k2, hR⟩ := hw0 e1
    rw [if_neg (by omega)] at e2
    subst e2
    refine ⟨by omega, by omega, by omega, fcl_b (sB_lt bi a) q _, fun i hi => ?_, fun G => ?_, fun G => ?_⟩
    · obtain ⟨j, hj⟩ := ord_on i hi
      rw [← hj, e3 j.1 j.2, fcl_o j.2 _ (by omega)]
    · rw [if_neg (by rintro (k | k); omega; exact k G)] at hR
      exact hR
    · rw [if_pos (Or.inr G)] at hR
      exact hR.symm
  · have yo := y_ord k (by omega)
    refine Tt_n (by first | decide | (simp (disch := omega) only [i_0, i_1, i_2, i_3, i_4, i_5, i_6, i_7, i_8, i_9, i_10, i_11, i_13, i_14, i_15, i_16, i_17, i_18, i_19, i_24, i_29, i_30, i_31, i_32, i_138, i_143, i_144, i_254, i_255, i_256, i_257, i_258, i_261, i_264, i_265, i_279, i_280, i_284, i_285, i_286, i_288, i_319, i_320, i_338, i_339, i_575, i_576, i_599, i_600, i_4096, i_8191, i_8192, i_8249, i_8250, i_8256, i_9000, i_16384, i_32767, i_32768, i_65520, i_65521, i_65535, i_65536, i_65999, i_66000, i_1300, i_120, i_156, nI_leI, nI_ltI, nI_eq, nI_add, n_neg, not_false_eq_true, not_true_eq_false] <;> omega)) (Tt_R0.2 (Tt_o yo.2.1 ?_))
    dsimp only
    have e320 : 320 + nI (ord k) = nI (320 + ord k) := nI_add 320 (ord k)
    rw [e320]
    have put : ∀ p2 w2 v, p2 ≤ M → w2 ≤ 1 → (w2 = 1 → R = none) → (w2 = 0 → w' = 0 ∧ p2 = q + 3 * (if k + 1 < nc + 4 then k + 1 else nc + 4) ∧ v = nI (if k < nc + 4 then num (sB bi a) (q + 3 * k) 3 else 0)) → Tt (M_readMade_93 200000 K (nI p2) (nI w2) RL n1 T1 LR n2 T2 n3 T3 (nI (nl + 257)) (nI (nd + 1)) (nI (nc + 4)) (nI k) (nI (320 + ord k)) v) (QN M R) := by
      intro p2 w2 v hp2 hw2 h1 h0
      unfold M_readMade_93
      refine Tt_g (by omega) (by omega) (Tt_l (Tt_l ?_))
      rw [nI_1, nI_clamp (by omega)]
      refine ih (19 - (k + 1)) _ _ _ _ _ _ _ _ _ _ _ _ _ _ (by omega) ⟨rfl, rfl, rfl, k + 1, p2, w2, rfl, by omega, rfl, rfl, hp2, rfl, hw2, h1, fun e => ?_⟩
      obtain ⟨a1, a2, a3⟩ := h0 e
      obtain ⟨b1, b2, b3⟩ := hG a1
      refine ⟨b1, a2, fun j hj => ?_⟩
      by_cases e : j = k
      · rw [e, pk_us, a3]
      · have ne : 320 + ord j ≠ 320 + ord k := fun h => e (ord_inj j (by omega) k (by omega) (by omega))
        rw [pk_un ne]
        exact b3 j (by omega)
    by_cases y : nc + 4 ≤ k
    · refine Tt_p (by first | decide | (simp (disch := omega) only [i_0, i_1, i_2, i_3, i_4, i_5, i_6, i_7, i_8, i_9, i_10, i_11, i_13, i_14, i_15, i_16, i_17, i_18, i_19, i_24, i_29, i_30, i_31, i_32, i_138, i_143, i_144, i_254, i_255, i_256, i_257, i_258, i_261, i_264, i_265, i_279, i_280, i_284, i_285, i_286, i_288, i_319, i_320, i_338, i_339, i_575, i_576, i_599, i_600, i_4096, i_8191, i_8192, i_8249, i_8250, i_8256, i_9000, i_16384, i_32767, i_32768, i_65520, i_65521, i_65535, i_65536, i_65999, i_66000, i_1300, i_120, i_156, nI_leI, nI_ltI, nI_eq, nI_add, n_neg, not_false_eq_true, not_true_eq_false] <;> omega)) (put p' w' _ hp' hw' hN (fun e => ⟨e, ?_, ?_⟩))
      · rw [(hG e).2.1, if_neg (by omega), if_neg (by omega)]
      · rw [if_neg (by omega)]
        rfl
    · refine Tt_n (by first | decide | (simp (disch := omega) only [i_0, i_1, i_2, i_3, i_4, i_5, i_6, i_7, i_8, i_9, i_10, i_11, i_13, i_14, i_15, i_16, i_17, i_18, i_19, i_24, i_29, i_30, i_31, i_32, i_138, i_143, i_144, i_254, i_255, i_256, i_257, i_258, i_261, i_264, i_265, i_279, i_280, i_284, i_285, i_286, i_288, i_319, i_320, i_338, i_339, i_575, i_576, i_599, i_600, i_4096, i_8191, i_8192, i_8249, i_8250, i_8256, i_9000, i_16384, i_32767, i_32768, i_65520, i_65521, i_65535, i_65536, i_65999, i_66000, i_1300, i_120, i_156, nI_leI, nI_ltI, nI_eq, nI_add, n_neg, not_false_eq_true, not_true_eq_false] <;> omega)) (Tt_R2.2 (Tt_m (t_numM hs.1 hs.2.1 hs.2.2.1 hs.2.2.2 hp' (k := 3) (wr := w') (by omega) hw' rfl rfl rfl rfl rfl) ?_))
      rintro _ ⟨v1, p1, w1, rfl, hv1, hp1, hp1', hw1', g1, g2⟩
      dsimp only
      refine put p1 w1 _ hp1' hw1' (fun e => ?_) (fun e => ?_)
      · by_cases e0 : w' = 0
        · obtain ⟨c1, c2, c3⟩ := hG e0
          obtain ⟨k1, k2, hR⟩ := hw0 c1
          rw [if_pos (by omega)] at c2
          by_cases x : p' + 3 ≤ M
          · have := (g1 e0 x).2.2
            omega
          · rw [if_pos (Or.inl (by omega))] at hR
            exact hR.symm
        · exact hN (by omega)
      · have e0 : w' = 0 := by
          rcases (show w' = 0 ∨ w' = 1 by omega) with e0 | e0
          · exact e0
          · rcases g2 (Or.inl e0) with q | q <;> omega
        have x : p' + 3 ≤ M := by
          by_cases x : p' + 3 ≤ M
          · exact x
          · rcases g2 (Or.inr (by omega)) with q | q <;> omega
        obtain ⟨c1, c2, c3⟩ := hG e0
        rw [if_pos (by omega)] at c2
        obtain ⟨rfl, rfl, _⟩ := g1 e0 x
        refine ⟨e0, ?_, ?_⟩
        · by_cases k1 : k + 1 < nc + 4
          · rw [if_pos k1]
            omega
          · rw [if_neg k1]
            omega
        · rw [if_pos (by omega), c2]
theorem t_codesM {c RL T1 LR T2 T3 : Nat → Int32} {bi : Nat → Nat} {len a M p wr : Nat} {R : MkR} {vf vb vr vw n1 n2 n3 : Int32} (hs : Src c len bi a M) (hp : p ≤ M) (hwr : wr ≤ 1) (e1 : vf = nI a) (e2 : vb = nI M) (e3 : vr = nI p) (e4 : vw = nI wr) (hR : (if wr = 0 then mkc (sB bi a) M p else none) = R) : Tt (M_readMade 200000 66000 vf vb c vr vw RL n1 T1 LR n2 T2 n3 T3) (fun u => PN M R u.2.1 u.2.2.1 u.2.2.2.2.2.2.2.2.1 u.2.2.2.2.2.2.2.2.2.2) := by
  subst e1 e2 e3 e4
  show Tt _ (QN M R)
  unfold M_readMade
  refine Tt_R2.2 (Tt_m (t_numM hs.1 hs.2.1 hs.2.2.1 hs.2.2.2 hp (k := 5) (wr := wr) (by omega) hwr rfl rfl rfl rfl rfl) ?_)
  rintro _ ⟨v1, p1, w1, rfl, hv1, hp1, hp1', hw1, g1, g2⟩
  dsimp only
  refine Tt_l ?_
  refine Tt_R2.2 (Tt_m (t_numM hs.1 hs.2.1 hs.2.2.1 hs.2.2.2 hp1' (k := 5) (wr := w1) (by omega) hw1 rfl rfl rfl rfl rfl) ?_)
  rintro _ ⟨v2, p2, w2, rfl, hv2, hp2, hp2', hw2, g3, g4⟩
  dsimp only
  refine Tt_l ?_
  refine Tt_R2.2 (Tt_m (t_numM hs.1 hs.2.1 hs.2.2.1 hs.2.2.2 hp2' (k := 4) (wr := w2) (by omega) hw2 rfl rfl rfl rfl rfl) ?_)
  rintro _ ⟨v3, p3, w3, rfl, hv3, hp3, hp3', hw3, g5, g6⟩
  dsimp only
  refine Tt_l ?_
  have e1 : nI v1 + 257 = nI (v1 + 257) := nI_add v1 257
  have e2 : nI v2 + 1 = nI (v2 + 1) := nI_1 v2
  have e3 : nI v3 + 4 = nI (v3 + 4) := nI_add v3 4
  rw [e1, e2, e3]
  by_cases ok : wr = 0 ∧ p + 14 ≤ M
  · obtain ⟨rfl, z⟩ := ok
    obtain ⟨rfl, rfl, rfl⟩ := g1 rfl (by omega)
    obtain ⟨rfl, rfl, rfl⟩ := g3 rfl (by omega)
    obtain ⟨rfl, rfl, rfl⟩ := g5 rfl (by omega)
    rw [if_pos rfl] at hR
    unfold mkc at hR
    rw [show p + 5 + 5 = p + 10 from rfl] at *
    rw [show p + 10 + 4 = p + 14 from rfl] at *
    clear g1 g2 g3 g4 g5 g6 hp1 hp2 hp3
    generalize num (sB bi a) p 5 = nl at *
    generalize num (sB bi a) (p + 5) 5 = nd at *
    generalize num (sB bi a) (p + 10) 4 = nc at *
    refine Tt_p rfl ?_
    by_cases k1 : 29 < nl
    · rw [if_pos (Or.inr (Or.inl k1))] at hR
      refine Tt_p (by first | decide | (simp (disch := omega) only [i_0, i_1, i_2, i_3, i_4, i_5, i_6, i_7, i_8, i_9, i_10, i_11, i_13, i_14, i_15, i_16, i_17, i_18, i_19, i_24, i_29, i_30, i_31, i_32, i_138, i_143, i_144, i_254, i_255, i_256, i_257, i_258, i_261, i_264, i_265, i_279, i_280, i_284, i_285, i_286, i_288, i_319, i_320, i_338, i_339, i_575, i_576, i_599, i_600, i_4096, i_8191, i_8192, i_8249, i_8250, i_8256, i_9000, i_16384, i_32767, i_32768, i_65520, i_65521, i_65535, i_65536, i_65999, i_66000, i_1300, i_120, i_156, nI_leI, nI_ltI, nI_eq, nI_add, n_neg, not_false_eq_true, not_true_eq_false] <;> omega)) ?_
      unfold M_readMade_47
      exact t_52 (w := 1) hs hp3' (by omega) (by omega) (fun _ => hR.symm) (fun e => absurd e (by omega))
    · refine Tt_n (by first | decide | (simp (disch := omega) only [i_0, i_1, i_2, i_3, i_4, i_5, i_6, i_7, i_8, i_9, i_10, i_11, i_13, i_14, i_15, i_16, i_17, i_18, i_19, i_24, i_29, i_30, i_31, i_32, i_138, i_143, i_144, i_254, i_255, i_256, i_257, i_258, i_261, i_264, i_265, i_279, i_280, i_284, i_285, i_286, i_288, i_319, i_320, i_338, i_339, i_575, i_576, i_599, i_600, i_4096, i_8191, i_8192, i_8249, i_8250, i_8256, i_9000, i_16384, i_32767, i_32768, i_65520, i_65521, i_65535, i_65536, i_65999, i_66000, i_1300, i_120, i_156, nI_leI, nI_ltI, nI_eq, nI_add, n_neg, not_false_eq_true, not_true_eq_false] <;> omega)) ?_
      by_cases k2 : 29 < nd
      · rw [if_pos (Or.inr (Or.inr k2))] at hR
        refine Tt_n (by first | decide | (simp (disch := omega) only [i_0, i_1, i_2, i_3, i_4, i_5, i_6, i_7, i_8, i_9, i_10, i_11, i_13, i_14, i_15, i_16, i_17, i_18, i_19, i_24, i_29, i_30, i_31, i_32, i_138, i_143, i_144, i_254, i_255, i_256, i_257, i_258, i_261, i_264, i_265, i_279, i_280, i_284, i_285, i_286, i_288, i_319, i_320, i_338, i_339, i_575, i_576, i_599, i_600, i_4096, i_8191, i_8192, i_8249, i_8250, i_8256, i_9000, i_16384, i_32767, i_32768, i_65520, i_65521, i_65535, i_65536, i_65999, i_66000, i_1300, i_120, i_156, nI_leI, nI_ltI, nI_eq, nI_add, n_neg, not_false_eq_true, not_true_eq_false] <;> omega)) ?_
        unfold M_readMade_47
        exact t_52 (w := 1) hs hp3' (by omega) (by omega) (fun _ => hR.symm) (fun e => absurd e (by omega))
      · rw [if_neg (by omega)] at hR
        refine Tt_p (by first | decide | (simp (disch := omega) only [i_0, i_1, i_2, i_3, i_4, i_5, i_6, i_7, i_8, i_9, i_10, i_11, i_13, i_14, i_15, i_16, i_17, i_18, i_19, i_24, i_29, i_30, i_31, i_32, i_138, i_143, i_144, i_254, i_255, i_256, i_257, i_258, i_261, i_264, i_265, i_279, i_280, i_284, i_285, i_286, i_288, i_319, i_320, i_338, i_339, i_575, i_576, i_599, i_600, i_4096, i_8191, i_8192, i_8249, i_8250, i_8256, i_9000, i_16384, i_32767, i_32768, i_65520, i_65521, i_65535, i_65536, i_65999, i_66000, i_1300, i_120, i_156, nI_leI, nI_ltI, nI_eq, nI_add, n_neg, not_false_eq_true, not_true_eq_false] <;> omega)) ?_
        exact t_52 (w := 0) hs hp3' (by omega) (by omega) (fun e => absurd e (by omega)) (fun _ => ⟨by omega, by omega, hR⟩)
  · have hN : R = none := by
      rw [← hR]
      by_cases w0 : wr = 0
      · rw [if_pos w0]
        unfold mkc
        rw [if_pos (Or.inl (by omega))]
      · rw [if_neg w0]
    have e4 : w3 = 1 := by
      by_cases w0 : wr = 1 ∨ M < p + 5
      · have : w1 = 1 := by rcases g2 w0 with q | q <;> omega
        have : w2 = 1 := by rcases g4 (Or.inl this) with q | q <;> omega
        rcases g6 (Or.inl this) with q | q <;> omega
      · have a1 := g1 (by omega) (by omega)
        by_cases w1 : M < p1 + 5
        · have : w2 = 1 := by rcases g4 (Or.inr w1) with q | q <;> omega
          rcases g6 (Or.inl this) with q | q <;> omega
        · have a2 := g3 (by omega) (by omega)
          rcases g6 (Or.inr (by omega)) with q | q <;> omega
    subst e4
    refine Tt_n (by decide) ?_
    unfold M_readMade_47
    exact t_52 (w := 1) hs hp3' (by omega) (by omega) (fun _ => hN) (fun e => absurd e (by omega))
/-! a packed piece read whole: what comes out, if it holds -/
def l5 (i : Nat) : Nat := lF (288 + i)
theorem gd_F : goodL lF 288 0 := by decide +kernel
theorem gd_5 : goodL l5 32 0 := by decide +kernel
theorem len_F : LenOK lF l5 := by
  have b1 : ∀ i, i < 288 → lF i ≤ 15 := fun i _ => Nat.le_trans (lF_b i).2 (by omega)
  have b2 : ∀ i, i < 32 → l5 i ≤ 15 := fun i _ => Nat.le_trans (lF_b (288 + i)).2 (by omega)
  exact ⟨b1, b2, gd_k b1 gd_F, gd_k b2 gd_5⟩
abbrev UpR := Option (Nat × (Nat → Nat))
def bes (src : Nat → Nat) (q : Nat) : Nat → Nat
  | 0 => 0
  | j + 1 => 256 * bes src q j + num src (q + 8 * j) 8
theorem bes_lt {src : Nat → Nat} (hs : ∀ i, src i < 2) (q : Nat) : ∀ j, bes src q j < 2 ^ (8 * j) := by
  intro j
  induction j with
  | zero => exact Nat.one_pos
  | succ j ih =>
    show 256 * bes src q j + num src (q + 8 * j) 8 < _
    have h := num_lt hs (q + 8 * j) 8
    have e : 2 ^ (8 * (j + 1)) = 256 * 2 ^ (8 * j) := by
      rw [show 8 * (j + 1) = 8 * j + 8 by omega, Nat.pow_add, Nat.mul_comm]
    omega
abbrev hok (src : Nat → Nat) : Prop := (256 * num src 0 8 + num src 8 8) % 31 = 0 ∧ num src 0 8 % 16 = 8 ∧ num src 0 8 / 16 ≤ 7 ∧ num src 8 8 / 32 % 2 = 0
def prk (src : Nat → Nat) (M win kd p m : Nat) (o : Nat → Nat) : RdR := if kd = 0 then stv src M p m o else if kd = 1 then flw lF 288 l5 32 src M win 8193 p m o else match mkc src M p with
  | none => none
  | some (p', fS, fD) => flw fS 288 fD 32 src M win 8193 p' m o
def pts (src : Nat → Nat) (M win : Nat) : Nat → Nat → Nat → (Nat → Nat) → RdR
  | 0, _, _, _ => none
  | k + 1, p, m, o => if M < p + 3 ∨ num src (p + 1) 2 = 3 then none else match prk src M win (num src (p + 1) 2) (p + 3) m o with
    | none => none
    | some (p', m', o') => if src p = 1 then some (p', m', o') else pts src M win k p' m' o'
def upk2 (src : Nat → Nat) (M : Nat) (r : RdR) : UpR := match r with
  | none => none
  | some (p, m, o) => if al8 p + 32 = M ∧ bes src (al8 p) 4 = adC o m then some (m, o) else none
def upk (src : Nat → Nat) (M : Nat) : UpR := if M < 16 ∨ ¬ hok src then none else upk2 src M (pts src M (256 * 2 ^ (num src 0 8 / 16)) 65536 16 0 (fun _ => 0))
theorem flw_p {fS : Nat → Nat} {nS : Nat} {fD : Nat → Nat} {nD : Nat} {src : Nat → Nat} {M win : Nat} : ∀ k p m o p' m' o', (∀ i, o i < 256) → flw fS nS fD nD src M win k p m o = some (p', m', o') → p ≤ p' := by
  intro k
  induction k with
  | zero => intro p m o p' m' o' _ h; cases h
  | succ k ih =>
    intro p m o p' m' o' ho h
    unfold flw at h
    cases hd : dcd fS nS src M p with
    | none => rw [hd] at h; cases h
    | some q =>
      obtain ⟨s, p1⟩ := q
      have b1 := dcd_b hd
      rw [hd] at h
      dsimp only at h
      by_cases z1 : s = 256
      · rw [if_pos z1] at h
        cases h
        omega
      · rw [if_neg z1] at h
        by_cases z2 : 285 < s ∨ 8192 ≤ m
        · rw [if_pos z2] at h; cases h
        · rw [if_neg z2] at h
          by_cases z3 : s < 256
          · rw [if_pos z3] at h
            have := ih _ _ _ _ _ _ (push_b ho z3) h
            omega
          · rw [if_neg z3] at h
            cases h4 : rep fD nD src M win p1 m o s with
            | none => rw [h4] at h; cases h
            | some q2 =>
              obtain ⟨p2, m2, o2⟩ := q2
              have b2 := rep_b ho h4
              rw [h4] at h
              have := ih _ _ _ _ _ _ b2.2.2.2.2 h
              omega
theorem prk_b {src : Nat → Nat} {M win kd p m : Nat} {o : Nat → Nat} (hs : ∀ i, src i < 2) (hp : p ≤ M) (hm : m ≤ 8192) (ho : ∀ i, o i < 256) : RdB M (prk src M win kd p m o) ∧ ∀ p' m' o', prk src M win kd p m o = some (p', m', o') → p ≤ p' := by
  unfold prk
  by_cases k0 : kd = 0
  · rw [if_pos k0]
    refine ⟨stv_b hs ho, fun p' m' o' h => ?_⟩
    unfold stv at h
    have : p ≤ al8 p := by unfold al8; omega
    by_cases z1 : M < al8 p + 32
    · rw [if_pos z1] at h; cases h
    · rw [if_neg z1] at h
      by_cases z2 : ¬ num src (al8 p + 16) 16 = 65535 - num src (al8 p) 16
      · rw [if_pos z2] at h; cases h
      · rw [if_neg z2] at h
        by_cases z3 : 8192 < m + num src (al8 p) 16 ∨ M < al8 p + 32 + 8 * num src (al8 p) 16
        · rw [if_pos z3] at h; cases h
        · rw [if_neg z3] at h
          have e := congrArg Prod.fst (Option.some.inj h)
          dsimp only at e
          omega
  · rw [if_neg k0]
    by_cases k1 : kd = 1
    · rw [if_pos k1]
      exact ⟨flw_b _ _ _ _ ho hp hm, fun p' m' o' h => flw_p _ _ _ _ _ _ _ ho h⟩
    · rw [if_neg k1]
      cases h : mkc src M p with
      | none => exact ⟨RdB_0, fun _ _ _ q => by cases q⟩
      | some q =>
        obtain ⟨p1, fS, fD⟩ := q
        have b := mkc_b h
        dsimp only
        exact ⟨flw_b _ _ _ _ ho b.2.1 hm, fun p' m' o' h => Nat.le_trans b.1 (flw_p _ _ _ _ _ _ _ ho h)⟩
theorem num_1 (src : Nat → Nat) (p : Nat) : num src p 1 = src p := by
  show 0 + src (p + 0) * 2 ^ 0 = src p
  rw [Nat.add_zero, Nat.pow_zero, Nat.mul_one, Nat.zero_add]
theorem nI_inj {a b : Nat} (ha : a < 2 ^ 32) (hb : b < 2 ^ 32) (h : nI a = nI b) : a = b := by
  have e : BitVec.ofNat 32 a = BitVec.ofNat 32 b := congrArg Int32.toBitVec h
  have e2 := congrArg BitVec.toNat e
  rw [BitVec.toNat_ofNat, BitVec.toNat_ofNat, Nat.mod_eq_of_lt ha, Nat.mod_eq_of_lt hb] at e2
  exact e2
theorem n_rm {a d : Nat} (ha : a < 2 ^ 31) (h0 : 0 < d) (hd : d < 2 ^ 31) : nI a - nI a / nI d * nI d = nI (a % d) := by
  rw [pk_div ha h0 hd]
  exact n_rem a d
theorem y_h1 : ∀ r, r < 256 → nI r >>> ((4 : Int32) &&& 31) = nI (r / 16) ∧ nI r &&& 15 = nI (r % 16) ∧ nI r &&& 32 = nI (r / 32 % 2 * 32) := by decide +kernel
theorem y_h2 : ∀ k, k < 16 → (256 : Int32) <<< (nI k &&& 31) = nI (256 * 2 ^ k) := by decide +kernel
/-! the program: the check behind the parts -/
theorem t_holds {c d d0 : Nat → Int32} {bi o B0 : Nat → Nat} {len a M p L0 m : Nat} {vs ve vl va vo : Int32} (hs : Src c len bi a M) (hp : p ≤ M) (h8 : M % 8 = 0) (hO : OutC vo d L0 m o d0) (ho : ∀ i, o i < 256) (hL : L0 + 8192 ≤ 65536) (hm : m ≤ 8192) (hB : ∀ i, i < L0 → d0 i = sx (B0 i)) (hB' : ∀ i, B0 i < 256) (e1 : vs = nI L0) (e3 : ve = nI (8 * a + M)) (e4 : vl = nI len) (e5 : va = nI (8 * a + p)) : Tt (Unpacker_checkHolds 200000 66000 65536 vs ve vl c vo d va) (fun u => u.1 = nI (if al8 p + 32 = M ∧ bes (sB bi a) (al8 p) 4 = adC o m then 1 else 0)) := by
  subst e1 e3 e4 e5
  have hq := al8_b hp h8
  obtain ⟨h, hlen, hM, ha⟩ := hs
  have hs : Src c len bi a M := ⟨h, hlen, hM, ha⟩
  obtain ⟨rfl, hO1, hO2⟩ := hO
  unfold Unpacker_checkHolds
  refine Tt_R1.2 (Tt_o (t_alignC (by omega) rfl) ?_)
  dsimp only
  generalize al8 p = q at *
  have eb : BitReader_bitsLeft 200000 (nI (8 * a + q)) (nI (8 * a + M)) = some (nI (M - q), ()) := by
    unfold BitReader_bitsLeft
    rw [pk_sub (by omega), show 8 * a + M - (8 * a + q) = M - q by omega]
  refine Tt_R0.2 (Tt_o eb ?_)
  dsimp only
  by_cases z : q + 32 = M
  · refine Tt_p (by first | decide | (simp (disch := omega) only [i_0, i_1, i_2, i_3, i_4, i_5, i_6, i_7, i_8, i_9, i_10, i_11, i_13, i_14, i_15, i_16, i_17, i_18, i_19, i_24, i_29, i_30, i_31, i_32, i_138, i_143, i_144, i_254, i_255, i_256, i_257, i_258, i_261, i_264, i_265, i_279, i_280, i_284, i_285, i_286, i_288, i_319, i_320, i_338, i_339, i_575, i_576, i_599, i_600, i_4096, i_8191, i_8192, i_8249, i_8250, i_8256, i_9000, i_16384, i_32767, i_32768, i_65520, i_65521, i_65535, i_65536, i_65999, i_66000, i_1300, i_120, i_156, nI_leI, nI_ltI, nI_eq, nI_add, n_neg, not_false_eq_true, not_true_eq_false] <;> omega)) ?_
    refine Tt_W3 (fun mm va x1 x2 => ∃ j, x2 = nI j ∧ j ≤ 4 ∧ mm = 4 - j ∧ va = nI (8 * a + (q + 8 * j)) ∧ x1 = nI (bes (sB bi a) q j)) ?_ 200000 4 _ _ _ (by omega) ⟨0, rfl, by omega, rfl, rfl, rfl⟩
    rintro K mm va x1 x2 ⟨j, rfl, hj, rfl, rfl, rfl⟩ ih
    unfold Unpacker_checkHolds_25
    by_cases w : 4 ≤ j
    · have e : j = 4 := by omega
      subst e
      refine Tt_p (by decide) ?_
      unfold Unpacker_checkHolds_51
      have hR : Row d 0 (L0 + m) (fun i => if i < L0 then B0 i else o (i - L0)) := by
        refine ⟨fun i hi => ?_, fun i => ?_⟩
        · rw [Nat.zero_add]
          show d i = sx (if i < L0 then B0 i else o (i - L0))
          by_cases y : i < L0
          · rw [if_pos y, hO1 i y, hB i y]
          · rw [if_neg y]
            have := hO2 (i - L0) (by omega)
            rw [show L0 + (i - L0) = i by omega] at this
            exact this
        · show (if i < L0 then B0 i else o (i - L0)) < 256
          split
          · exact hB' i
          · exact ho _
      refine Tt_R0.2 (Tt_m (t_checkC hR (by omega) (by omega) (f0 := L0) (by omega) rfl rfl) ?_)
      rintro ⟨r, _⟩ hr
      dsimp only at hr ⊢
      have ee : (fun i => (fun i => if i < L0 then B0 i else o (i - L0)) (L0 + i)) = o := by
        funext i
        show (if L0 + i < L0 then _ else _) = _
        rw [if_neg (by omega), show L0 + i - L0 = i by omega]
      rw [ee, show L0 + m - L0 = m by omega] at hr
      subst hr
      have bl := bes_lt (sB_lt bi a) q 4
      have al := adC_lt o m
      by_cases y : bes (sB bi a) q 4 = adC o m
      · rw [if_pos ⟨z, y⟩]
        exact Tt_p (by rw [y]) (Tt_Si rfl)
      · rw [if_neg (fun k => y k.2)]
        exact Tt_n (fun k => y (nI_inj bl al k)) (Tt_Si rfl)
    · refine Tt_n (by first | decide | (simp (disch := omega) only [i_0, i_1, i_2, i_3, i_4, i_5, i_6, i_7, i_8, i_9, i_10, i_11, i_13, i_14, i_15, i_16, i_17, i_18, i_19, i_24, i_29, i_30, i_31, i_32, i_138, i_143, i_144, i_254, i_255, i_256, i_257, i_258, i_261, i_264, i_265, i_279, i_280, i_284, i_285, i_286, i_288, i_319, i_320, i_338, i_339, i_575, i_576, i_599, i_600, i_4096, i_8191, i_8192, i_8249, i_8250, i_8256, i_9000, i_16384, i_32767, i_32768, i_65520, i_65521, i_65535, i_65536, i_65999, i_66000, i_1300, i_120, i_156, nI_leI, nI_ltI, nI_eq, nI_add, n_neg, not_false_eq_true, not_true_eq_false] <;> omega)) (Tt_R1.2 (Tt_m (t_numE hs (p := q + 8 * j) (k := 8) (by omega) (by omega) rfl rfl rfl rfl) ?_))
      rintro _ ⟨r6, q4, rfl, h4a, h4b, h4c, h4d⟩
      obtain ⟨rfl, rfl⟩ := h4c (by omega)
      dsimp only
      refine Tt_l (Tt_l ?_)
      rw [nI_1]
      have bl := bes_lt (sB_lt bi a) q j
      have nl := num_lt (sB_lt bi a) (q + 8 * j) 8
      have b24 : bes (sB bi a) q j < 2 ^ 24 := Nat.lt_of_lt_of_le bl (Nat.pow_le_pow_right (by omega) (by omega))
      have e1 : nI (bes (sB bi a) q j) <<< ((8 : Int32) &&& 31) = nI (bes (sB bi a) q j * 2 ^ 8) := n_shl (k := 8) (by omega) (by omega)
      refine ih (4 - (j + 1)) _ _ _ (by omega) ⟨j + 1, rfl, by omega, rfl, congrArg nI (by omega), ?_⟩
      rw [e1, n_or, Nat.or_comm, ← n_or, n_ord nl]
      show _ = nI (256 * bes (sB bi a) q j + num (sB bi a) (q + 8 * j) 8)
      exact congrArg nI (by omega)
  · rw [if_neg (fun k => z k.1)]
    exact Tt_n (by first | decide | (simp (disch := omega) only [i_0, i_1, i_2, i_3, i_4, i_5, i_6, i_7, i_8, i_9, i_10, i_11, i_13, i_14, i_15, i_16, i_17, i_18, i_19, i_24, i_29, i_30, i_31, i_32, i_138, i_143, i_144, i_254, i_255, i_256, i_257, i_258, i_261, i_264, i_265, i_279, i_280, i_284, i_285, i_286, i_288, i_319, i_320, i_338, i_339, i_575, i_576, i_599, i_600, i_4096, i_8191, i_8192, i_8249, i_8250, i_8256, i_9000, i_16384, i_32767, i_32768, i_65520, i_65521, i_65535, i_65536, i_65999, i_66000, i_1300, i_120, i_156, nI_leI, nI_ltI, nI_eq, nI_add, n_neg, not_false_eq_true, not_true_eq_false] <;> omega)) (Tt_Si rfl)
/-! the program: the beginning -/
theorem t_beginC {c : Nat → Int32} {bi : Nat → Nat} {len a M : Nat} {ve vl va vf : Int32} (hs : Src c len bi a M) (e3 : ve = nI (8 * a + M)) (e4 : vl = nI len) (e5 : va = nI (8 * a)) : Tt (Unpacker_beginningHolds 200000 66000 ve vl c vf va) (fun u => if M < 16 ∨ ¬ hok (sB bi a) then u.1 = nI 0 else u.1 = nI 1 ∧ u.2.1 = nI (256 * 2 ^ (num (sB bi a) 0 8 / 16)) ∧ u.2.2 = nI (8 * a + 16)) := by
  subst e3 e4 e5
  unfold Unpacker_beginningHolds
  refine Tt_R1.2 (Tt_m (t_numE hs (p := 0) (by omega) (k := 8) (by omega) rfl rfl rfl rfl) ?_)
  rintro _ ⟨r2, q1, rfl, h1a, h1b, h1c, h1d⟩
  dsimp only
  refine Tt_R1.2 (Tt_m (t_numE hs h1b (k := 8) (by omega) rfl rfl rfl rfl) ?_)
  rintro _ ⟨r4, q2, rfl, h2a, h2b, h2c, h2d⟩
  dsimp only
  by_cases z : 16 ≤ M
  · obtain ⟨rfl, rfl⟩ := h1c (by omega)
    obtain ⟨rfl, rfl⟩ := h2c (by omega)
    have hb1 := num_lt (sB_lt bi a) 0 8
    have hb2 := num_lt (sB_lt bi a) 8 8
    rw [show 0 + 8 = 8 from rfl] at *
    unfold hok
    clear h1a h1b h1c h1d h2a h2b h2c h2d
    generalize num (sB bi a) 0 8 = b1 at *
    generalize num (sB bi a) 8 8 = b2 at *
    have y1 := y_h1 b1 (by omega)
    have y2 := y_h1 b2 (by omega)
    refine Tt_n (by first | decide | (simp (disch := omega) only [i_0, i_1, i_2, i_3, i_4, i_5, i_6, i_7, i_8, i_9, i_10, i_11, i_13, i_14, i_15, i_16, i_17, i_18, i_19, i_24, i_29, i_30, i_31, i_32, i_138, i_143, i_144, i_254, i_255, i_256, i_257, i_258, i_261, i_264, i_265, i_279, i_280, i_284, i_285, i_286, i_288, i_319, i_320, i_338, i_339, i_575, i_576, i_599, i_600, i_4096, i_8191, i_8192, i_8249, i_8250, i_8256, i_9000, i_16384, i_32767, i_32768, i_65520, i_65521, i_65535, i_65536, i_65999, i_66000, i_1300, i_120, i_156, nI_leI, nI_ltI, nI_eq, nI_add, n_neg, not_false_eq_true, not_true_eq_false] <;> omega)) (Tt_p (nI_pos' (by omega)) (Tt_l (Tt_l ?_)))
    have e1 : (256 : Int32) * nI b1 = nI (256 * b1) := pk_mul 256 b1
    rw [e1, nI_add]
    have e2 : nI (256 * b1 + b2) - nI (256 * b1 + b2) / 31 * 31 = nI ((256 * b1 + b2) % 31) := n_rm (d := 31) (by omega) (by omega) (by omega)
    rw [e2, y1.1, y1.2.1, y2.2.2, y_h2 (b1 / 16) (by omega)]
    have bad : ¬ ((256 * b1 + b2) % 31 = 0 ∧ b1 % 16 = 8 ∧ b1 / 16 ≤ 7 ∧ b2 / 32 % 2 = 0) → ∀ v1 v2 : Int32, (fun u : Int32 × Int32 × Int32 => if M < 16 ∨ ¬ ((256 * b1 + b2) % 31 = 0 ∧ b1 % 16 = 8 ∧ b1 / 16 ≤ 7 ∧ b2 / 32 % 2 = 0) then u.1 = nI 0 else u.1 = nI 1 ∧ u.2.1 = nI (256 * 2 ^ (b1 / 16)) ∧ u.2.2 = nI (8 * a + 16)) (0, v1, v2) := by
      intro k v1 v2
      dsimp only
      rw [if_pos (Or.inr k)]
      rfl
    by_cases c1 : (256 * b1 + b2) % 31 = 0
    · refine Tt_p (by rw [c1]; rfl) ?_
      by_cases c2 : b1 % 16 = 8
      · refine Tt_p (by rw [c2]; rfl) ?_
        by_cases c3 : b1 / 16 ≤ 7
        · refine Tt_n (by first | decide | (simp (disch := omega) only [i_0, i_1, i_2, i_3, i_4, i_5, i_6, i_7, i_8, i_9, i_10, i_11, i_13, i_14, i_15, i_16, i_17, i_18, i_19, i_24, i_29, i_30, i_31, i_32, i_138, i_143, i_144, i_254, i_255, i_256, i_257, i_258, i_261, i_264, i_265, i_279, i_280, i_284, i_285, i_286, i_288, i_319, i_320, i_338, i_339, i_575, i_576, i_599, i_600, i_4096, i_8191, i_8192, i_8249, i_8250, i_8256, i_9000, i_16384, i_32767, i_32768, i_65520, i_65521, i_65535, i_65536, i_65999, i_66000, i_1300, i_120, i_156, nI_leI, nI_ltI, nI_eq, nI_add, n_neg, not_false_eq_true, not_true_eq_false] <;> omega)) ?_
          by_cases c4 : b2 / 32 % 2 = 0
          · refine Tt_p (by rw [c4]; rfl) (Tt_Si ?_)
            dsimp only
            rw [if_neg (by omega)]
            exact ⟨rfl, rfl, rfl⟩
          · refine Tt_n ?_ (Tt_Si (bad (by omega) _ _))
            rw [show b2 / 32 % 2 = 1 by omega]
            decide
        · exact Tt_p (by first | decide | (simp (disch := omega) only [i_0, i_1, i_2, i_3, i_4, i_5, i_6, i_7, i_8, i_9, i_10, i_11, i_13, i_14, i_15, i_16, i_17, i_18, i_19, i_24, i_29, i_30, i_31, i_32, i_138, i_143, i_144, i_254, i_255, i_256, i_257, i_258, i_261, i_264, i_265, i_279, i_280, i_284, i_285, i_286, i_288, i_319, i_320, i_338, i_339, i_575, i_576, i_599, i_600, i_4096, i_8191, i_8192, i_8249, i_8250, i_8256, i_9000, i_16384, i_32767, i_32768, i_65520, i_65521, i_65535, i_65536, i_65999, i_66000, i_1300, i_120, i_156, nI_leI, nI_ltI, nI_eq, nI_add, n_neg, not_false_eq_true, not_true_eq_false] <;> omega)) (Tt_Si (bad (by omega) _ _))
      · exact Tt_n (by first | decide | (simp (disch := omega) only [i_0, i_1, i_2, i_3, i_4, i_5, i_6, i_7, i_8, i_9, i_10, i_11, i_13, i_14, i_15, i_16, i_17, i_18, i_19, i_24, i_29, i_30, i_31, i_32, i_138, i_143, i_144, i_254, i_255, i_256, i_257, i_258, i_261, i_264, i_265, i_279, i_280, i_284, i_285, i_286, i_288, i_319, i_320, i_338, i_339, i_575, i_576, i_599, i_600, i_4096, i_8191, i_8192, i_8249, i_8250, i_8256, i_9000, i_16384, i_32767, i_32768, i_65520, i_65521, i_65535, i_65536, i_65999, i_66000, i_1300, i_120, i_156, nI_leI, nI_ltI, nI_eq, nI_add, n_neg, not_false_eq_true, not_true_eq_false] <;> omega)) (Tt_Si (bad (by omega) _ _))
    · exact Tt_n (by first | decide | (simp (disch := omega) only [i_0, i_1, i_2, i_3, i_4, i_5, i_6, i_7, i_8, i_9, i_10, i_11, i_13, i_14, i_15, i_16, i_17, i_18, i_19, i_24, i_29, i_30, i_31, i_32, i_138, i_143, i_144, i_254, i_255, i_256, i_257, i_258, i_261, i_264, i_265, i_279, i_280, i_284, i_285, i_286, i_288, i_319, i_320, i_338, i_339, i_575, i_576, i_599, i_600, i_4096, i_8191, i_8192, i_8249, i_8250, i_8256, i_9000, i_16384, i_32767, i_32768, i_65520, i_65521, i_65535, i_65536, i_65999, i_66000, i_1300, i_120, i_156, nI_leI, nI_ltI, nI_eq, nI_add, n_neg, not_false_eq_true, not_true_eq_false] <;> omega)) (Tt_Si (bad (by omega) _ _))
  · have fin : ∀ v1 v2 : Int32, (fun u : Int32 × Int32 × Int32 => if M < 16 ∨ ¬ hok (sB bi a) then u.1 = nI 0 else u.1 = nI 1 ∧ u.2.1 = nI (256 * 2 ^ (num (sB bi a) 0 8 / 16)) ∧ u.2.2 = nI (8 * a + 16)) (0, v1, v2) := by
      intro v1 v2
      dsimp only
      rw [if_pos (Or.inl (by omega))]
      rfl
    by_cases w1 : 0 + 8 ≤ M
    · obtain ⟨rfl, rfl⟩ := h1c w1
      have e := h2d (by omega)
      subst e
      have b1 := num_lt (sB_lt bi a) 0 8
      exact Tt_n (by first | decide | (simp (disch := omega) only [i_0, i_1, i_2, i_3, i_4, i_5, i_6, i_7, i_8, i_9, i_10, i_11, i_13, i_14, i_15, i_16, i_17, i_18, i_19, i_24, i_29, i_30, i_31, i_32, i_138, i_143, i_144, i_254, i_255, i_256, i_257, i_258, i_261, i_264, i_265, i_279, i_280, i_284, i_285, i_286, i_288, i_319, i_320, i_338, i_339, i_575, i_576, i_599, i_600, i_4096, i_8191, i_8192, i_8249, i_8250, i_8256, i_9000, i_16384, i_32767, i_32768, i_65520, i_65521, i_65535, i_65536, i_65999, i_66000, i_1300, i_120, i_156, nI_leI, nI_ltI, nI_eq, nI_add, n_neg, not_false_eq_true, not_true_eq_false] <;> omega)) (Tt_n (by decide) (Tt_Si (fin _ _)))
    · have e := h1d (by omega)
      subst e
      exact Tt_p (by decide) (Tt_Si (fin _ _))
/-! the program: all parts -/
def PU (L0 : Nat) (d0 : Nat → Int32) (R : UpR) (r vo : Int32) (d : Nat → Int32) : Prop := match R with
  | none => r = nI 0 ∧ ∃ m', m' ≤ 8192 ∧ vo = nI (L0 + m')
  | some (m, o) => r = nI 1 ∧ OutC vo d L0 m o d0
abbrev UcT := Int32 × Int32 × Int32 × Int32 × Int32 × Int32 × (Nat → Int32) × (Nat → Int32) × (Nat → Int32) × (Nat → Int32) × (Nat → Int32) × (Nat → Int32) × (Nat → Int32) × (Nat → Int32) × (Nat → Int32) × (Nat → Int32) × (Nat → Int32)
def QU (L0 : Nat) (d0 : Nat → Int32) (R : UpR) (u : UcT) : Prop := PU L0 d0 R u.1 u.2.2.2.2.2.1 u.2.2.2.2.2.2.1
theorem t_unpackC {c cF yF cG yG d0 cl y1 c1 o1 y2 c2 o2 y3 c3 o3 : Nat → Int32} {bi B0 : Nat → Nat} {len a n L0 N1 : Nat} {R : UpR} {vl vos vfa vat ven vo x1 x2 : Int32} (hs : Src c len bi a (8 * n)) (hn : n ≤ 8192) (hL : L0 + 8192 ≤ 65536) (hN : 19 ≤ N1) (hN' : N1 ≤ 288) (hF : TabOK cF yF lF 288) (hG : TabOK cG yG l5 32) (hB : ∀ i, i < L0 → d0 i = sx (B0 i)) (hB' : ∀ i, B0 i < 256) (e1 : vl = nI len) (e2 : vo = nI L0) (e3 : x1 = nI a) (e4 : x2 = nI n) (hR : upk (sB bi a) (8 * n) = R) : Tt (Unpacker_unpack 200000 66000 65536 288 32 N1 288 32 vl c cF yF cG yG vos vfa vat ven vo d0 cl y1 c1 o1 y2 c2 o2 y3 c3 o3 x1 x2) (QU L0 d0 R) := by
  subst e1 e2 e3 e4
  have hs' := hs
  obtain ⟨h, hlen, hM, ha⟩ := hs'
  unfold Unpacker_unpack
  have eo : BitReader_open 200000 vat ven (nI a) (nI n) = some ((), nI (8 * a), nI (8 * a + 8 * n)) := by
    unfold BitReader_open
    have q1 : (8 : Int32) * nI a = nI (8 * a) := pk_mul 8 a
    have q2 : (8 : Int32) * nI n = nI (8 * n) := pk_mul 8 n
    rw [q1, q2]
    show some ((), nI (8 * a), nI (8 * a) + nI (8 * n)) = _
    rw [nI_add]
  refine Tt_R2.2 (Tt_o eo ?_)
  dsimp only
  have el : Bytes_length 200000 (nI L0) = some (nI L0, ()) := rfl
  refine Tt_R0.2 (Tt_o el ?_)
  dsimp only
  refine Tt_R2.2 (Tt_m (t_beginC hs rfl rfl rfl) ?_)
  rintro ⟨r7, vf5, va6⟩ hu
  dsimp only at hu ⊢
  unfold upk at hR
  have h8 : 8 * n % 8 = 0 := by omega
  have hM2 : 8 * n ≤ 65536 := by omega
  generalize 8 * n = M at *
  by_cases z : M < 16 ∨ ¬ hok (sB bi a)
  · rw [if_pos z] at hu hR
    subst hu hR
    exact Tt_p rfl (Tt_Si ⟨rfl, 0, by omega, rfl⟩)
  · rw [if_neg z] at hu hR
    obtain ⟨rfl, rfl, rfl⟩ := hu
    have hk : hok (sB bi a) := Decidable.byContradiction (fun k => z (Or.inr k))
    have hwin : 256 * 2 ^ (num (sB bi a) 0 8 / 16) ≤ 32768 := by
      have : 2 ^ (num (sB bi a) 0 8 / 16) ≤ 2 ^ 7 := Nat.pow_le_pow_right (by omega) hk.2.2.1
      omega
    generalize 256 * 2 ^ (num (sB bi a) 0 8 / 16) = win at *
    refine Tt_n (by decide) ?_
    refine Tt_W17 (fun mm vos vfa vat ven vo d _ _ _ _ _ _ _ _ _ _ x3 => vos = nI L0 ∧ vfa = nI win ∧ ven = nI (8 * a + M) ∧ ∃ p m o k j, vat = nI (8 * a + p) ∧ p ≤ M ∧ OutC vo d L0 m o d0 ∧ (∀ i, o i < 256) ∧ m ≤ 8192 ∧ x3 = nI k ∧ 3 * k ≤ p ∧ M - p < j ∧ mm = M - p ∧ upk2 (sB bi a) M (pts (sB bi a) M win j p m o) = R) ?_ 200000 (M - 16) _ _ _ _ _ _ _ _ _ _ _ _ _ _ _ _ _ (by omega) ⟨rfl, rfl, rfl, 16, 0, fun _ => 0, 0, 65536, rfl, by omega, ⟨rfl, fun _ _ => rfl, fun i hi => absurd hi (by omega)⟩, fun _ => (by show 0 < 256; omega), by omega, rfl, by omega, by omega, rfl, hR⟩
    clear hR
    rintro K mm vos vfa vat ven vo d cl y1 c1 o1 y2 c2 o2 y3 c3 o3 x3 ⟨rfl, rfl, rfl, p, m, o, k, j, rfl, hp, hO, ho, hm, rfl, hkp, hj, rfl, hR⟩ ih
    obtain ⟨j', rfl⟩ : ∃ j', j = j' + 1 := ⟨j - 1, by omega⟩
    have hvo := hO.1
    unfold Unpacker_unpack_31
    refine Tt_n (by first | decide | (simp (disch := omega) only [i_0, i_1, i_2, i_3, i_4, i_5, i_6, i_7, i_8, i_9, i_10, i_11, i_13, i_14, i_15, i_16, i_17, i_18, i_19, i_24, i_29, i_30, i_31, i_32, i_138, i_143, i_144, i_254, i_255, i_256, i_257, i_258, i_261, i_264, i_265, i_279, i_280, i_284, i_285, i_286, i_288, i_319, i_320, i_338, i_339, i_575, i_576, i_599, i_600, i_4096, i_8191, i_8192, i_8249, i_8250, i_8256, i_9000, i_16384, i_32767, i_32768, i_65520, i_65521, i_65535, i_65536, i_65999, i_66000, i_1300, i_120, i_156, nI_leI, nI_ltI, nI_eq, nI_add, n_neg, not_false_eq_true, not_true_eq_false] <;> omega)) (Tt_R1.2 (Tt_m (t_numE hs hp (k := 1) (by omega) rfl rfl rfl rfl) ?_))
    rintro _ ⟨r11, q1, rfl, h1a, h1b, h1c, h1d⟩
    dsimp only
    refine Tt_R1.2 (Tt_m (t_numE hs h1b (k := 2) (by omega) rfl rfl rfl rfl) ?_)
    rintro _ ⟨r13, q2, rfl, h2a, h2b, h2c, h2d⟩
    dsimp only
    unfold pts at hR
    by_cases w : p + 3 ≤ M
    · obtain ⟨rfl, rfl⟩ := h1c (by omega)
      obtain ⟨rfl, rfl⟩ := h2c (by omega)
      rw [show p + 1 + 2 = p + 3 from rfl] at *
      rw [num_1] at *
      have sp := sB_lt bi a p
      have b2 := num_lt (sB_lt bi a) (p + 1) 2
      clear h1a h1b h1c h1d h2a h2b h2c h2d
      refine Tt_n (by first | decide | (simp (disch := omega) only [i_0, i_1, i_2, i_3, i_4, i_5, i_6, i_7, i_8, i_9, i_10, i_11, i_13, i_14, i_15, i_16, i_17, i_18, i_19, i_24, i_29, i_30, i_31, i_32, i_138, i_143, i_144, i_254, i_255, i_256, i_257, i_258, i_261, i_264, i_265, i_279, i_280, i_284, i_285, i_286, i_288, i_319, i_320, i_338, i_339, i_575, i_576, i_599, i_600, i_4096, i_8191, i_8192, i_8249, i_8250, i_8256, i_9000, i_16384, i_32767, i_32768, i_65520, i_65521, i_65535, i_65536, i_65999, i_66000, i_1300, i_120, i_156, nI_leI, nI_ltI, nI_eq, nI_add, n_neg, not_false_eq_true, not_true_eq_false] <;> omega)) (Tt_n (by first | decide | (simp (disch := omega) only [i_0, i_1, i_2, i_3, i_4, i_5, i_6, i_7, i_8, i_9, i_10, i_11, i_13, i_14, i_15, i_16, i_17, i_18, i_19, i_24, i_29, i_30, i_31, i_32, i_138, i_143, i_144, i_254, i_255, i_256, i_257, i_258, i_261, i_264, i_265, i_279, i_280, i_284, i_285, i_286, i_288, i_319, i_320, i_338, i_339, i_575, i_576, i_599, i_600, i_4096, i_8191, i_8192, i_8249, i_8250, i_8256, i_9000, i_16384, i_32767, i_32768, i_65520, i_65521, i_65535, i_65536, i_65999, i_66000, i_1300, i_120, i_156, nI_leI, nI_ltI, nI_eq, nI_add, n_neg, not_false_eq_true, not_true_eq_false] <;> omega)) ?_)
      by_cases k3 : num (sB bi a) (p + 1) 2 = 3
      · rw [if_pos (Or.inr k3)] at hR
        subst hR
        refine Tt_n (by first | decide | (simp (disch := omega) only [i_0, i_1, i_2, i_3, i_4, i_5, i_6, i_7, i_8, i_9, i_10, i_11, i_13, i_14, i_15, i_16, i_17, i_18, i_19, i_24, i_29, i_30, i_31, i_32, i_138, i_143, i_144, i_254, i_255, i_256, i_257, i_258, i_261, i_264, i_265, i_279, i_280, i_284, i_285, i_286, i_288, i_319, i_320, i_338, i_339, i_575, i_576, i_599, i_600, i_4096, i_8191, i_8192, i_8249, i_8250, i_8256, i_9000, i_16384, i_32767, i_32768, i_65520, i_65521, i_65535, i_65536, i_65999, i_66000, i_1300, i_120, i_156, nI_leI, nI_ltI, nI_eq, nI_add, n_neg, not_false_eq_true, not_true_eq_false] <;> omega)) (Tt_Si ⟨rfl, m, hm, hvo⟩)
      · rw [if_neg (by omega)] at hR
        refine Tt_p (by first | decide | (simp (disch := omega) only [i_0, i_1, i_2, i_3, i_4, i_5, i_6, i_7, i_8, i_9, i_10, i_11, i_13, i_14, i_15, i_16, i_17, i_18, i_19, i_24, i_29, i_30, i_31, i_32, i_138, i_143, i_144, i_254, i_255, i_256, i_257, i_258, i_261, i_264, i_265, i_279, i_280, i_284, i_285, i_286, i_288, i_319, i_320, i_338, i_339, i_575, i_576, i_599, i_600, i_4096, i_8191, i_8192, i_8249, i_8250, i_8256, i_9000, i_16384, i_32767, i_32768, i_65520, i_65521, i_65535, i_65536, i_65999, i_66000, i_1300, i_120, i_156, nI_leI, nI_ltI, nI_eq, nI_add, n_neg, not_false_eq_true, not_true_eq_false] <;> omega)) ?_
        generalize num (sB bi a) (p + 1) 2 = kd at *
        have pb := prk_b (win := win) (kd := kd) (sB_lt bi a) w hm ho
        generalize hP : prk (sB bi a) M win kd (p + 3) m o = P at *
        have go : ∀ r va vo d cl y1 c1 o1 y2 c2 o2 y3 c3 o3, PC a L0 d0 P r va vo d → Tt (Unpacker_unpack_135 200000 K (Unpacker_unpack_150 200000 66000 65536 (nI len) c) (nI L0) (nI win) va (nI (8 * a + M)) vo d cl y1 c1 o1 y2 c2 o2 y3 c3 o3 (nI k) (nI (sB bi a p)) r) (QU L0 d0 R) := by
          intro r va vo d cl y1 c1 o1 y2 c2 o2 y3 c3 o3 hPC
          unfold Unpacker_unpack_135
          cases P with
          | none =>
            obtain ⟨rfl, m', hm', rfl⟩ := hPC
            subst hR
            exact Tt_p rfl (Tt_Si ⟨rfl, m', hm', rfl⟩)
          | some q =>
            obtain ⟨p', m', o'⟩ := q
            obtain ⟨rfl, rfl, hO'⟩ := hPC
            obtain ⟨b1, b3, b4⟩ := pb.1 p' m' o' rfl
            have b5 := pb.2 p' m' o' rfl
            dsimp only at hR
            refine Tt_n (by decide) ?_
            by_cases fin : sB bi a p = 1
            · rw [if_pos fin] at hR
              refine Tt_p (by rw [fin]; rfl) ?_
              unfold Unpacker_unpack_150
              refine Tt_R1.2 (Tt_m (t_holds hs b1 h8 hO' b4 hL b3 hB hB' rfl rfl rfl rfl) ?_)
              rintro ⟨r9, va8⟩ hu
              dsimp only at hu ⊢
              unfold upk2 at hR
              dsimp only at hR
              by_cases y : al8 p' + 32 = M ∧ bes (sB bi a) (al8 p') 4 = adC o' m'
              · rw [if_pos y] at hu hR
                subst hu hR
                exact Tt_z (Or.inr rfl) (Tt_Si ⟨rfl, hO'⟩)
              · rw [if_neg y] at hu hR
                subst hu hR
                exact Tt_z (Or.inl rfl) (Tt_Si ⟨rfl, m', b3, hO'.1⟩)
            · rw [if_neg fin] at hR
              refine Tt_n (by first | decide | (simp (disch := omega) only [i_0, i_1, i_2, i_3, i_4, i_5, i_6, i_7, i_8, i_9, i_10, i_11, i_13, i_14, i_15, i_16, i_17, i_18, i_19, i_24, i_29, i_30, i_31, i_32, i_138, i_143, i_144, i_254, i_255, i_256, i_257, i_258, i_261, i_264, i_265, i_279, i_280, i_284, i_285, i_286, i_288, i_319, i_320, i_338, i_339, i_575, i_576, i_599, i_600, i_4096, i_8191, i_8192, i_8249, i_8250, i_8256, i_9000, i_16384, i_32767, i_32768, i_65520, i_65521, i_65535, i_65536, i_65999, i_66000, i_1300, i_120, i_156, nI_leI, nI_ltI, nI_eq, nI_add, n_neg, not_false_eq_true, not_true_eq_false] <;> omega)) (Tt_l ?_)
              rw [nI_1]
              exact ih (M - p') _ _ _ _ _ _ _ _ _ _ _ _ _ _ _ _ _ (by omega) ⟨rfl, rfl, rfl, p', m', o', k + 1, j', rfl, b1, hO', b4, b3, rfl, by omega, by omega, rfl, hR⟩
        unfold prk at hP
        by_cases k0 : kd = 0
        · rw [if_pos k0] at hP
          refine Tt_p (by rw [k0]; rfl) (Tt_R3.2 (Tt_m (t_copyC hs w h8 hO hL hm rfl rfl rfl rfl hP) ?_))
          rintro ⟨r, va, vo, d⟩ hu
          exact go _ _ _ _ _ _ _ _ _ _ _ _ _ _ hu
        · rw [if_neg k0] at hP
          refine Tt_n (by first | decide | (simp (disch := omega) only [i_0, i_1, i_2, i_3, i_4, i_5, i_6, i_7, i_8, i_9, i_10, i_11, i_13, i_14, i_15, i_16, i_17, i_18, i_19, i_24, i_29, i_30, i_31, i_32, i_138, i_143, i_144, i_254, i_255, i_256, i_257, i_258, i_261, i_264, i_265, i_279, i_280, i_284, i_285, i_286, i_288, i_319, i_320, i_338, i_339, i_575, i_576, i_599, i_600, i_4096, i_8191, i_8192, i_8249, i_8250, i_8256, i_9000, i_16384, i_32767, i_32768, i_65520, i_65521, i_65535, i_65536, i_65999, i_66000, i_1300, i_120, i_156, nI_leI, nI_ltI, nI_eq, nI_add, n_neg, not_false_eq_true, not_true_eq_false] <;> omega)) ?_
          by_cases k1 : kd = 1
          · rw [if_pos k1] at hP
            refine Tt_p (by rw [k1]; rfl) (Tt_R3.2 (Tt_m (t_followC hs w len_F hF hG hO ho hL hm hwin rfl rfl rfl rfl rfl hP) ?_))
            rintro ⟨r, va, vo, d⟩ hu
            exact go _ _ _ _ _ _ _ _ _ _ _ _ _ _ hu
          · rw [if_neg k1] at hP
            refine Tt_n (by first | decide | (simp (disch := omega) only [i_0, i_1, i_2, i_3, i_4, i_5, i_6, i_7, i_8, i_9, i_10, i_11, i_13, i_14, i_15, i_16, i_17, i_18, i_19, i_24, i_29, i_30, i_31, i_32, i_138, i_143, i_144, i_254, i_255, i_256, i_257, i_258, i_261, i_264, i_265, i_279, i_280, i_284, i_285, i_286, i_288, i_319, i_320, i_338, i_339, i_575, i_576, i_599, i_600, i_4096, i_8191, i_8192, i_8249, i_8250, i_8256, i_9000, i_16384, i_32767, i_32768, i_65520, i_65521, i_65535, i_65536, i_65999, i_66000, i_1300, i_120, i_156, nI_leI, nI_ltI, nI_eq, nI_add, n_neg, not_false_eq_true, not_true_eq_false] <;> omega)) (Tt_R11.2 (Tt_m (t_codesC hs w hN hN' rfl rfl rfl rfl) ?_))
            rintro ⟨r26, va15, cl16, y17, c18, o19, y20, c21, o22, y23, c24, o25⟩ hu
            dsimp only at hu ⊢
            cases hmk : mkc (sB bi a) M (p + 3) with
            | none =>
              rw [hmk] at hu hP
              have hu : r26 = nI 0 := hu
              dsimp only at hP
              subst hu hP
              refine Tt_p rfl ?_
              unfold Unpacker_unpack_134
              exact go _ _ _ _ _ _ _ _ _ _ _ _ _ _ ⟨rfl, m, hm, hvo⟩
            | some q =>
              obtain ⟨p1, fS, fD⟩ := q
              have b := mkc_b hmk
              rw [hmk] at hu hP
              obtain ⟨hu1, hu2, hT1, hT2⟩ := hu
              subst hu1 hu2
              dsimp only at hP
              refine Tt_n (by decide) (Tt_R3.2 (Tt_m (t_followC hs b.2.1 b.2.2 hT1 hT2 hO ho hL hm hwin rfl rfl rfl rfl rfl hP) ?_))
              rintro ⟨r30, va27, vo28, d29⟩ hu
              dsimp only at hu ⊢
              cases P with
              | none =>
                obtain ⟨rfl, _⟩ := id hu
                refine Tt_p rfl ?_
                unfold Unpacker_unpack_134
                exact go _ _ _ _ _ _ _ _ _ _ _ _ _ _ hu
              | some q =>
                obtain ⟨rfl, _⟩ := id hu
                exact Tt_n (by decide) (go _ _ _ _ _ _ _ _ _ _ _ _ _ _ hu)
    · rw [if_pos (Or.inl (by omega))] at hR
      subst hR
      by_cases w1 : p + 1 ≤ M
      · obtain ⟨rfl, rfl⟩ := h1c w1
        have e := h2d (by omega)
        subst e
        have b1 := num_lt (sB_lt bi a) p 1
        exact Tt_n (by first | decide | (simp (disch := omega) only [i_0, i_1, i_2, i_3, i_4, i_5, i_6, i_7, i_8, i_9, i_10, i_11, i_13, i_14, i_15, i_16, i_17, i_18, i_19, i_24, i_29, i_30, i_31, i_32, i_138, i_143, i_144, i_254, i_255, i_256, i_257, i_258, i_261, i_264, i_265, i_279, i_280, i_284, i_285, i_286, i_288, i_319, i_320, i_338, i_339, i_575, i_576, i_599, i_600, i_4096, i_8191, i_8192, i_8249, i_8250, i_8256, i_9000, i_16384, i_32767, i_32768, i_65520, i_65521, i_65535, i_65536, i_65999, i_66000, i_1300, i_120, i_156, nI_leI, nI_ltI, nI_eq, nI_add, n_neg, not_false_eq_true, not_true_eq_false] <;> omega)) (Tt_p (by decide) (Tt_Si ⟨rfl, m, hm, hvo⟩))
      · have e := h1d (by omega)
        subst e
        exact Tt_p (by decide) (Tt_Si ⟨rfl, m, hm, hvo⟩)
/-! the reference reads a packed piece -/
abbrev UmT := Int32 × Int32 × Int32 × Int32 × Int32 × Int32 × Int32 × (Nat → Int32) × (Nat → Int32) × Int32 × (Nat → Int32) × Int32 × (Nat → Int32) × (Nat → Int32) × Int32 × (Nat → Int32) × (Nat → Int32)
def QR (R : UpR) (u : UmT) : Prop := match R with
  | none => u.1 = -1
  | some (m, o) => u.1 = nI m ∧ ∀ i, i < m → u.2.2.2.2.2.2.2.1 i = sx (o i)
theorem t_286 {c t fx T2 T3 RL T1 LR : Nat → Int32} {bi o : Nat → Nat} {len a M p m w : Nat} {R : UpR} {vm n1 n2 n3 : Int32} (hs : Src c len bi a M) (hp : p ≤ M) (h8 : M % 8 = 0) (hw : w ≤ 1) (hw1 : w = 1 → R = none) (hw0 : w = 0 → OutM vm t m o ∧ (∀ i, o i < 256) ∧ m ≤ 8192 ∧ upk2 (sB bi a) M (some (p, m, o)) = R) : Tt (M_unpack_286 200000 66000 8192 c (nI a) (nI M) (nI p) (nI w) vm (nI 8192) t fx n2 T2 n3 T3 RL n1 T1 LR) (QR R) := by
  have hq := al8_b hp h8
  obtain ⟨h, hlen, hM, ha⟩ := hs
  unfold M_unpack_286
  refine Tt_R1.2 (Tt_m (t_toByte (p := p) (by omega) rfl) ?_)
  rintro ⟨_, vr7⟩ e
  dsimp only at e ⊢
  subst e
  refine Tt_W18 (fun mm vsf vsb vr vw vm' rm t' _ _ _ _ _ _ _ _ _ x9 x11 => vsf = nI a ∧ vsb = nI M ∧ vm' = vm ∧ t' = t ∧ ∃ j p' w', x11 = nI j ∧ j ≤ 4 ∧ mm = 4 - j ∧ vr = nI p' ∧ p' ≤ M ∧ vw = nI w' ∧ w' ≤ 1 ∧ (w' = 1 → R = none) ∧ (w' = 0 → w = 0 ∧ p' = al8 p + 8 * j ∧ x9 = lN (bes (sB bi a) (al8 p) j))) ?_ 200000 4 _ _ _ _ _ _ _ _ _ _ _ _ _ _ _ _ _ _ (by omega) ⟨rfl, rfl, rfl, rfl, 0, al8 p, w, rfl, by omega, rfl, rfl, hq.2, rfl, hw, hw1, fun e => ⟨e, rfl, rfl⟩⟩
  rintro K mm vsf vsb vr vw vm' rm t' fx n2 T2 n3 T3 RL n1 T1 LR x9 x11 ⟨rfl, rfl, rfl, rfl, j, p', w', rfl, hj, rfl, rfl, hp', rfl, hw', hN, hG⟩ ih
  unfold M_unpack_296
  by_cases z : 4 ≤ j
  · have e : j = 4 := by omega
    subst e
    refine Tt_p (by decide) ?_
    unfold M_unpack_324
    by_cases e0 : w' = 0
    · obtain ⟨e1, e2, e3⟩ := hG e0
      subst e0 e2 e3
      obtain ⟨hO, ho, hm, hR⟩ := hw0 e1
      obtain ⟨rfl, hO2⟩ := hO
      unfold upk2 at hR
      dsimp only at hR
      have bl := bes_lt (sB_lt bi a) (al8 p) 4
      have al := adC_lt o m
      refine Tt_p rfl ?_
      by_cases y : al8 p + 32 = M
      · have hr : Row t' 0 m o := ⟨fun i hi => by rw [Nat.zero_add]; exact hO2 i hi, ho⟩
        refine Tt_p (congrArg nI (by omega)) (Tt_R0.2 (Tt_m (t_checkM hr (by omega) (by omega) rfl rfl) ?_))
        rintro ⟨r1, _⟩ hr1
        dsimp only at hr1 ⊢
        subst hr1
        by_cases x : bes (sB bi a) (al8 p) 4 = adC o m
        · rw [if_pos ⟨y, x⟩] at hR
          subst hR
          exact Tt_p ((lg_cmp_eq _ _).2 (by rw [x])) (Tt_Si ⟨rfl, hO2⟩)
        · rw [if_neg (fun k => x k.2)] at hR
          subst hR
          exact Tt_n (fun k => x ((pk_lEQ (by omega) (by omega)).1 ((lg_cmp_eq _ _).1 k))) (Tt_Si rfl)
      · rw [if_neg (fun k => y k.1)] at hR
        subst hR
        exact Tt_n (by rw [nI_eq (by omega) (by omega)]; omega) (Tt_Si rfl)
    · have e1 : w' = 1 := by omega
      subst e1
      have hR := hN rfl
      subst hR
      exact Tt_n (by decide) (Tt_Si rfl)
  · refine Tt_n (by first | decide | (simp (disch := omega) only [i_0, i_1, i_2, i_3, i_4, i_5, i_6, i_7, i_8, i_9, i_10, i_11, i_13, i_14, i_15, i_16, i_17, i_18, i_19, i_24, i_29, i_30, i_31, i_32, i_138, i_143, i_144, i_254, i_255, i_256, i_257, i_258, i_261, i_264, i_265, i_279, i_280, i_284, i_285, i_286, i_288, i_319, i_320, i_338, i_339, i_575, i_576, i_599, i_600, i_4096, i_8191, i_8192, i_8249, i_8250, i_8256, i_9000, i_16384, i_32767, i_32768, i_65520, i_65521, i_65535, i_65536, i_65999, i_66000, i_1300, i_120, i_156, nI_leI, nI_ltI, nI_eq, nI_add, n_neg, not_false_eq_true, not_true_eq_false] <;> omega)) (Tt_R2.2 (Tt_m (t_numM h hlen hM ha hp' (k := 8) (wr := w') (by omega) hw' rfl rfl rfl rfl rfl) ?_))
    rintro _ ⟨v1, p1, w1, rfl, hv1, hp1, hp1', hw1', g1, g2⟩
    dsimp only
    refine Tt_l (Tt_l ?_)
    rw [nI_1]
    refine ih (4 - (j + 1)) _ _ _ _ _ _ _ _ _ _ _ _ _ _ _ _ _ _ (by omega) ⟨rfl, rfl, rfl, rfl, j + 1, p1, w1, rfl, by omega, rfl, rfl, hp1', rfl, hw1', fun e => ?_, fun e => ?_⟩
    · by_cases e0 : w' = 0
      · obtain ⟨c1, c2, c3⟩ := hG e0
        obtain ⟨hO, ho, hm, hR⟩ := hw0 c1
        by_cases x : p' + 8 ≤ M
        · have := (g1 e0 x).2.2
          omega
        · unfold upk2 at hR
          dsimp only at hR
          rw [if_neg (fun k => by omega)] at hR
          exact hR.symm
      · exact hN (by omega)
    · have e0 : w' = 0 := by
        rcases (show w' = 0 ∨ w' = 1 by omega) with e0 | e0
        · exact e0
        · rcases g2 (Or.inl e0) with q | q <;> omega
      have x : p' + 8 ≤ M := by
        by_cases x : p' + 8 ≤ M
        · exact x
        · rcases g2 (Or.inr (by omega)) with q | q <;> omega
      obtain ⟨c1, c2, c3⟩ := hG e0
      obtain ⟨rfl, rfl, _⟩ := g1 e0 x
      refine ⟨c1, by omega, ?_⟩
      rw [c3, nI_l (by omega), c2]
      show lN 256 * lN (bes (sB bi a) (al8 p) j) + lN (num (sB bi a) (al8 p + 8 * j) 8) = lN (256 * bes (sB bi a) (al8 p) j + num (sB bi a) (al8 p + 8 * j) 8)
      rw [lN_mul, lN_add]
abbrev UmK := Int32 → Int32 → Int32 → Int32 → Int32 → Int32 → (Nat → Int32) → (Nat → Int32) → Int32 → (Nat → Int32) → Int32 → (Nat → Int32) → (Nat → Int32) → Int32 → (Nat → Int32) → (Nat → Int32) → Int32 → Int32 → Option UmT
theorem t_179 {K : UmK} {Q : UmT → Prop} {c t fx T2 T3 RL T1 LR : Nat → Int32} {bi o : Nat → Nat} {len a M p m w kd b1 : Nat} {R' : RdR} {vw vm n1 n2 n3 x8 : Int32} (hs : Src c len bi a M) (hp : p ≤ M) (h8 : M % 8 = 0) (hw : w ≤ 1) (hb1 : b1 / 16 ≤ 7) (hkd : kd < 4) (hO : OutM vm t m o) (ho : ∀ i, o i < 256) (hm : m ≤ 8192) (hR : (if w = 0 then prk (sB bi a) M (256 * 2 ^ (b1 / 16)) kd p m o else none) = R') (hK : ∀ vr vw vm t fx n2 T2 n3 T3 RL n1 T1 LR, PM M R' vr vw vm t → Tt (K (nI a) (nI M) vr vw vm (nI 8192) t fx n2 T2 n3 T3 RL n1 T1 LR (nI b1) x8) Q) : Tt (M_unpack_179 200000 66000 8192 c K (nI a) (nI M) (nI p) vw vm (nI 8192) t fx n2 T2 n3 T3 RL n1 T1 LR (nI b1) x8 (nI kd) (nI w)) Q := by
  have ewin : (256 : Int32) <<< ((nI b1 / 16) &&& 31) = nI (256 * 2 ^ (b1 / 16)) := by
    have e : nI b1 / 16 = nI (b1 / 16) := pk_div (d := 16) (by omega) (by decide) (by decide)
    rw [e]
    exact y_h2 _ (by omega)
  have hwin : 256 * 2 ^ (b1 / 16) ≤ 32768 := by
    have : 2 ^ (b1 / 16) ≤ 2 ^ 7 := Nat.pow_le_pow_right (by omega) hb1
    omega
  generalize 256 * 2 ^ (b1 / 16) = win at *
  unfold M_unpack_179
  refine Tt_z (by rcases (show w = 0 ∨ w = 1 by omega) with e | e <;> subst e <;> simp) ?_
  unfold prk at hR
  by_cases k0 : kd = 0
  · rw [if_pos k0] at hR
    refine Tt_p (by rw [k0]; rfl) (Tt_R4.2 (Tt_m (t_copyM hs hp h8 (fun _ => ⟨hO, hm⟩) hw rfl rfl rfl rfl rfl hR) ?_))
    rintro ⟨_, vr, vw, vm, t⟩ hu
    unfold M_unpack_283
    exact hK _ _ _ _ _ _ _ _ _ _ _ _ _ hu
  · rw [if_neg k0] at hR
    refine Tt_n (by first | decide | (simp (disch := omega) only [i_0, i_1, i_2, i_3, i_4, i_5, i_6, i_7, i_8, i_9, i_10, i_11, i_13, i_14, i_15, i_16, i_17, i_18, i_19, i_24, i_29, i_30, i_31, i_32, i_138, i_143, i_144, i_254, i_255, i_256, i_257, i_258, i_261, i_264, i_265, i_279, i_280, i_284, i_285, i_286, i_288, i_319, i_320, i_338, i_339, i_575, i_576, i_599, i_600, i_4096, i_8191, i_8192, i_8249, i_8250, i_8256, i_9000, i_16384, i_32767, i_32768, i_65520, i_65521, i_65535, i_65536, i_65999, i_66000, i_1300, i_120, i_156, nI_leI, nI_ltI, nI_eq, nI_add, n_neg, not_false_eq_true, not_true_eq_false] <;> omega)) ?_
    by_cases k1 : kd = 1
    · rw [if_pos k1] at hR
      refine Tt_p (by rw [k1]; rfl) (Tt_R1.2 (Tt_m t_makeFixed ?_))
      rintro ⟨_, fx2⟩ hf
      dsimp only at hf ⊢
      refine Tt_R2.2 (Tt_m (t_makeM (a := 0) (n := 288) (mb := 0) (f := lF) rfl rfl rfl (by omega) (by omega) (by omega) (by omega) (fun i hi => by rw [Nat.zero_add]; exact hf i (by omega)) (len_F.1)) ?_)
      rintro ⟨r36, v34, t35⟩ ⟨g1, _⟩
      dsimp only at g1 ⊢
      obtain ⟨rfl, hT⟩ := g1 gd_F
      refine Tt_n (by decide) (Tt_R2.2 (Tt_m (t_makeM (a := 288) (n := 32) (mb := 0) (f := l5) rfl rfl rfl (by omega) (by omega) (by omega) (by omega) (fun i hi => hf (288 + i) (by omega)) (len_F.2.1)) ?_))
      rintro ⟨r39, v37, t38⟩ ⟨g3, _⟩
      dsimp only at g3 ⊢
      obtain ⟨rfl, hT2⟩ := g3 gd_5
      refine Tt_n (by decide) ?_
      unfold M_unpack_248
      refine Tt_l ?_
      rw [ewin]
      refine Tt_R4.2 (Tt_m (t_followM hs hp (fun _ => ⟨len_F, hT, hT2, hO, ho, hm⟩) hw hwin rfl rfl rfl rfl rfl rfl hR) ?_)
      rintro ⟨_, vr, vw, vm, t⟩ hu
      unfold M_unpack_283
      exact hK _ _ _ _ _ _ _ _ _ _ _ _ _ hu
    · rw [if_neg k1] at hR
      refine Tt_n (by first | decide | (simp (disch := omega) only [i_0, i_1, i_2, i_3, i_4, i_5, i_6, i_7, i_8, i_9, i_10, i_11, i_13, i_14, i_15, i_16, i_17, i_18, i_19, i_24, i_29, i_30, i_31, i_32, i_138, i_143, i_144, i_254, i_255, i_256, i_257, i_258, i_261, i_264, i_265, i_279, i_280, i_284, i_285, i_286, i_288, i_319, i_320, i_338, i_339, i_575, i_576, i_599, i_600, i_4096, i_8191, i_8192, i_8249, i_8250, i_8256, i_9000, i_16384, i_32767, i_32768, i_65520, i_65521, i_65535, i_65536, i_65999, i_66000, i_1300, i_120, i_156, nI_leI, nI_ltI, nI_eq, nI_add, n_neg, not_false_eq_true, not_true_eq_false] <;> omega)) (Tt_R10.2 (Tt_m (t_codesM hs hp hw rfl rfl rfl rfl rfl) ?_))
      rintro ⟨_, vr9, vw10, RL11, n12, T13, LR14, n15, T16, n17, T18⟩ hu
      dsimp only at hu ⊢
      refine Tt_l ?_
      rw [ewin]
      have bad : R' = none → ∀ p1, p1 ≤ M → Tt (mR4 (M_readSymbols 200000 66000 8192 (nI a) (nI M) (nI 8192) c T16 T18 (nI p1) (nI 1) vm t (nI win)) fun _ vr vw vm t => M_unpack_283 200000 K (nI a) (nI M) vr vw vm (nI 8192) t fx n15 T16 n17 T18 RL11 n12 T13 LR14 (nI b1) x8) Q := by
        intro e p1 hp1
        refine Tt_R4.2 (Tt_m (t_followM (wr := 1) (m := 0) (o := o) (fS := lF) (fD := l5) hs hp1 (fun k => absurd k (by omega)) (by omega) hwin rfl rfl rfl rfl rfl rfl (if_neg (by omega))) ?_)
        rintro ⟨_, vr, vw, vm, t⟩ hu
        unfold M_unpack_283
        rw [← e] at hu
        exact hK _ _ _ _ _ _ _ _ _ _ _ _ _ hu
      by_cases e0 : w = 0
      · rw [if_pos e0] at hu hR
        cases hmk : mkc (sB bi a) M p with
        | none =>
          rw [hmk] at hu hR
          obtain ⟨rfl, p1, hp1, rfl⟩ := hu
          exact bad hR.symm p1 hp1
        | some q =>
          obtain ⟨p1, fS, fD⟩ := q
          have b := mkc_b hmk
          rw [hmk] at hu hR
          obtain ⟨rfl, rfl, hT1, hT2⟩ := hu
          dsimp only at hR
          refine Tt_R4.2 (Tt_m (t_followM (wr := 0) hs b.2.1 (fun _ => ⟨b.2.2, hT1, hT2, hO, ho, hm⟩) (by omega) hwin rfl rfl rfl rfl rfl rfl ((if_pos rfl).trans hR)) ?_)
          rintro ⟨_, vr, vw, vm, t⟩ hu
          unfold M_unpack_283
          exact hK _ _ _ _ _ _ _ _ _ _ _ _ _ hu
      · rw [if_neg e0] at hu hR
        obtain ⟨rfl, p1, hp1, rfl⟩ := hu
        exact bad hR.symm p1 hp1
theorem t_120 {c t fx T2 T3 RL T1 LR : Nat → Int32} {bi : Nat → Nat} {len a M p b1 w : Nat} {R : UpR} {vw n1 n2 n3 : Int32} (hs : Src c len bi a M) (hp : p ≤ M) (h8 : M % 8 = 0) (hM2 : M ≤ 65536) (hw : w ≤ 1) (hw1 : w = 1 → R = none) (hw0 : w = 0 → b1 / 16 ≤ 7 ∧ upk2 (sB bi a) M (pts (sB bi a) M (256 * 2 ^ (b1 / 16)) 65536 p 0 (fun _ => 0)) = R) (hp16 : 16 ≤ p ∨ w = 1) : Tt (M_unpack_120 200000 66000 8192 c (nI a) (nI M) (nI p) vw (nI 0) (nI 8192) t fx n2 T2 n3 T3 RL n1 T1 LR (nI b1) (nI w)) (QR R) := by
  unfold M_unpack_120
  refine Tt_z (by rcases (show w = 0 ∨ w = 1 by omega) with e | e <;> subst e <;> simp) ?_
  refine Tt_W18 (fun mm vsf vsb vr vw vm rm t _ _ _ _ _ _ _ _ _ x6 x8 => vsf = nI a ∧ vsb = nI M ∧ rm = nI 8192 ∧ x6 = nI b1 ∧ ∃ p', p' ≤ M ∧ vr = nI p' ∧ ((mm = 0 ∧ vw = nI 1 ∧ R = none) ∨ (vw = nI 0 ∧ b1 / 16 ≤ 7 ∧ ∃ m o, OutM vm t m o ∧ (∀ i, o i < 256) ∧ m ≤ 8192 ∧ ((mm = 0 ∧ x8 = nI 1 ∧ upk2 (sB bi a) M (some (p', m, o)) = R) ∨ (mm = M - p' + 1 ∧ x8 = nI 0 ∧ ∃ j, M - p' < j ∧ upk2 (sB bi a) M (pts (sB bi a) M (256 * 2 ^ (b1 / 16)) j p' m o) = R))))) ?_ 200000 (if w = 0 then M - p + 1 else 0) _ _ _ _ _ _ _ _ _ _ _ _ _ _ _ _ _ _ (by split <;> omega) ⟨rfl, rfl, rfl, rfl, p, hp, rfl, ?_⟩
  · rintro K mm vsf vsb vr vw vm rm t fx n2 T2 n3 T3 RL n1 T1 LR x6 x8 ⟨rfl, rfl, rfl, rfl, p', hp', rfl, (⟨rfl, rfl, hR⟩ | ⟨rfl, hb1, m, o, hO, ho, hm, (⟨rfl, rfl, hR⟩ | ⟨rfl, rfl, j, hj, hR⟩)⟩)⟩ ih
    · have fin : ∀ vm t fx n2 T2 n3 T3 RL n1 T1 LR, Tt (M_unpack_286 200000 66000 8192 c (nI a) (nI M) (nI p') (nI 1) vm (nI 8192) t fx n2 T2 n3 T3 RL n1 T1 LR) (QR R) := by
        intro vm t fx n2 T2 n3 T3 RL n1 T1 LR
        exact t_286 (w := 1) (m := 0) (o := fun _ => 0) hs hp' h8 (by omega) (fun _ => hR) (fun k => absurd k (by omega))
      unfold M_unpack_126
      by_cases g : x8 = 0
      · exact Tt_p g (Tt_n (by decide) (fin _ _ _ _ _ _ _ _ _ _ _))
      · exact Tt_n g (fin _ _ _ _ _ _ _ _ _ _ _)
    · unfold M_unpack_126
      exact Tt_n (by decide) (t_286 (w := 0) hs hp' h8 (by omega) (fun k => absurd k (by omega)) (fun _ => ⟨hO, ho, hm, hR⟩))
    · obtain ⟨j', rfl⟩ : ∃ j', j = j' + 1 := ⟨j - 1, by omega⟩
      unfold pts at hR
      unfold M_unpack_126
      have bad : R = none → ∀ p1 vm t fx n2 T2 n3 T3 RL n1 T1 LR x8, p1 ≤ M → Tt (K (nI a) (nI M) (nI p1) (nI 1) vm (nI 8192) t fx n2 T2 n3 T3 RL n1 T1 LR (nI b1) x8) (QR R) := by
        intro e p1 vm t fx n2 T2 n3 T3 RL n1 T1 LR x8 hp1
        exact ih 0 _ _ _ _ _ _ _ _ _ _ _ _ _ _ _ _ _ _ (by omega) ⟨rfl, rfl, rfl, rfl, p1, hp1, rfl, Or.inl ⟨rfl, rfl, e⟩⟩
      have r151 : ∀ bit p1 w1, p1 ≤ M → w1 ≤ 1 → (w1 = 0 → p1 = p' + 1 ∧ p' + 1 ≤ M ∧ bit = sB bi a p') → (w1 = 1 → M < p' + 1) → bit ≤ 1 → Tt (M_unpack_151 200000 66000 8192 c K (nI a) (nI M) (nI p1) (nI w1) vm (nI 8192) t fx n2 T2 n3 T3 RL n1 T1 LR (nI b1) (nI bit)) (QR R) := by
        intro bit p1 w1 hp1 hw1 a0 a1 hbit
        unfold M_unpack_151
        refine Tt_R2.2 (Tt_m (t_numM hs.1 hs.2.1 hs.2.2.1 hs.2.2.2 hp1 (k := 2) (wr := w1) (by omega) hw1 rfl rfl rfl rfl rfl) ?_)
        rintro _ ⟨v2, p2, w2, rfl, hv2, hp2, hp2', hw2, g1, g2⟩
        dsimp only
        have fin : ∀ w3, w3 ≤ 1 → (w3 = 1 → R = none) → (w3 = 0 → p2 = p' + 3 ∧ p' + 3 ≤ M ∧ v2 = num (sB bi a) (p' + 1) 2 ∧ ¬ v2 = 3 ∧ bit = sB bi a p') → ∀ vw, Tt (M_unpack_179 200000 66000 8192 c K (nI a) (nI M) (nI p2) vw vm (nI 8192) t fx n2 T2 n3 T3 RL n1 T1 LR (nI b1) (nI bit) (nI v2) (nI w3)) (QR R) := by
          intro w3 hw3 f1 f0 vw
          refine t_179 hs hp2' h8 hw3 hb1 (by omega) hO ho hm rfl ?_
          intro vr vw vm t fx n2 T2 n3 T3 RL n1 T1 LR hPM
          by_cases e0 : w3 = 0
          · obtain ⟨rfl, q2, rfl, q4, rfl⟩ := f0 e0
            rw [if_pos e0] at hPM
            rw [if_neg (by omega)] at hR
            have pb := prk_b (win := 256 * 2 ^ (b1 / 16)) (kd := num (sB bi a) (p' + 1) 2) (sB_lt bi a) q2 hm ho
            cases hP : prk (sB bi a) M (256 * 2 ^ (b1 / 16)) (num (sB bi a) (p' + 1) 2) (p' + 3) m o with
            | none =>
              rw [hP] at hPM hR
              obtain ⟨rfl, p3, hp3, rfl⟩ := hPM
              exact bad hR.symm _ _ _ _ _ _ _ _ _ _ _ _ _ hp3
            | some q =>
              obtain ⟨p3, m3, o3⟩ := q
              obtain ⟨d1, d2, d3⟩ := pb.1 _ _ _ hP
              have d4 := pb.2 _ _ _ hP
              rw [hP] at hPM hR
              obtain ⟨rfl, rfl, hO3⟩ := hPM
              dsimp only at hR
              by_cases y : sB bi a p' = 1
              · rw [if_pos y] at hR
                exact ih 0 _ _ _ _ _ _ _ _ _ _ _ _ _ _ _ _ _ _ (by omega) ⟨rfl, rfl, rfl, rfl, p3, d1, rfl, Or.inr ⟨rfl, hb1, m3, o3, hO3, d3, d2, Or.inl ⟨rfl, by rw [y], hR⟩⟩⟩
              · rw [if_neg y] at hR
                exact ih (M - p3 + 1) _ _ _ _ _ _ _ _ _ _ _ _ _ _ _ _ _ _ (by omega) ⟨rfl, rfl, rfl, rfl, p3, d1, rfl, Or.inr ⟨rfl, hb1, m3, o3, hO3, d3, d2, Or.inr ⟨rfl, by rw [show sB bi a p' = 0 by omega], j', by omega, hR⟩⟩⟩
          · rw [if_neg e0] at hPM
            obtain ⟨rfl, p3, hp3, rfl⟩ := hPM
            exact bad (f1 (by omega)) _ _ _ _ _ _ _ _ _ _ _ _ _ hp3
        by_cases ok : w1 = 0 ∧ p' + 3 ≤ M
        · obtain ⟨rfl, z⟩ := ok
          obtain ⟨rfl, _, a5⟩ := a0 rfl
          obtain ⟨rfl, rfl, rfl⟩ := g1 rfl (by omega)
          refine Tt_p rfl ?_
          by_cases y : num (sB bi a) (p' + 1) 2 = 3
          · refine Tt_p (by rw [y]; rfl) ?_
            unfold M_unpack_174
            rw [if_pos (Or.inr y)] at hR
            exact fin 1 (by omega) (fun _ => hR.symm) (fun k => absurd k (by omega)) _
          · exact Tt_n (by first | decide | (simp (disch := omega) only [i_0, i_1, i_2, i_3, i_4, i_5, i_6, i_7, i_8, i_9, i_10, i_11, i_13, i_14, i_15, i_16, i_17, i_18, i_19, i_24, i_29, i_30, i_31, i_32, i_138, i_143, i_144, i_254, i_255, i_256, i_257, i_258, i_261, i_264, i_265, i_279, i_280, i_284, i_285, i_286, i_288, i_319, i_320, i_338, i_339, i_575, i_576, i_599, i_600, i_4096, i_8191, i_8192, i_8249, i_8250, i_8256, i_9000, i_16384, i_32767, i_32768, i_65520, i_65521, i_65535, i_65536, i_65999, i_66000, i_1300, i_120, i_156, nI_leI, nI_ltI, nI_eq, nI_add, n_neg, not_false_eq_true, not_true_eq_false] <;> omega)) (fin 0 (by omega) (fun k => absurd k (by omega)) (fun _ => ⟨rfl, z, rfl, y, a5⟩) _)
        · have e2 : w2 = 1 := by
            by_cases w0 : w1 = 1
            · rcases g2 (Or.inl w0) with q | q <;> omega
            · have := a0 (by omega)
              rcases g2 (Or.inr (by omega)) with q | q <;> omega
          subst e2
          have hM3 : M < p' + 3 := by
            by_cases w0 : w1 = 1
            · have := a1 w0
              omega
            · omega
          rw [if_pos (Or.inl hM3)] at hR
          refine Tt_n (by decide) ?_
          unfold M_unpack_174
          exact fin 1 (by omega) (fun _ => hR.symm) (fun k => absurd k (by omega)) _
      refine Tt_p rfl (Tt_p rfl (Tt_R2.2 (Tt_m (t_bitM hs.1 hs.2.1 hs.2.2.1 hs.2.2.2 hp' (wr := 0) (by omega) rfl rfl rfl rfl) ?_)))
      intro u hu
      by_cases x : p' < M
      · rw [if_pos ⟨rfl, x⟩] at hu
        subst hu
        dsimp only
        have sp := sB_lt bi a p'
        by_cases y : sB bi a p' = 1
        · refine Tt_p (by rw [y]; rfl) (r151 1 (p' + 1) 0 (by omega) (by omega) (fun _ => ⟨rfl, by omega, y.symm⟩) (fun k => absurd k (by omega)) (by omega))
        · refine Tt_n (by first | decide | (simp (disch := omega) only [i_0, i_1, i_2, i_3, i_4, i_5, i_6, i_7, i_8, i_9, i_10, i_11, i_13, i_14, i_15, i_16, i_17, i_18, i_19, i_24, i_29, i_30, i_31, i_32, i_138, i_143, i_144, i_254, i_255, i_256, i_257, i_258, i_261, i_264, i_265, i_279, i_280, i_284, i_285, i_286, i_288, i_319, i_320, i_338, i_339, i_575, i_576, i_599, i_600, i_4096, i_8191, i_8192, i_8249, i_8250, i_8256, i_9000, i_16384, i_32767, i_32768, i_65520, i_65521, i_65535, i_65536, i_65999, i_66000, i_1300, i_120, i_156, nI_leI, nI_ltI, nI_eq, nI_add, n_neg, not_false_eq_true, not_true_eq_false] <;> omega)) (r151 0 (p' + 1) 0 (by omega) (by omega) (fun _ => ⟨rfl, by omega, by omega⟩) (fun k => absurd k (by omega)) (by omega))
      · rw [if_neg (fun k => x k.2)] at hu
        subst hu
        dsimp only
        exact Tt_n (by decide) (r151 0 p' 1 hp' (by omega) (fun k => absurd k (by omega)) (fun _ => by omega) (by omega))
  · by_cases e : w = 0
    · subst e
      obtain ⟨b, hR⟩ := hw0 rfl
      refine Or.inr ⟨rfl, b, 0, fun _ => 0, ⟨rfl, fun i hi => absurd hi (by omega)⟩, fun _ => (by show 0 < 256; omega), by omega, Or.inr ⟨if_pos rfl, rfl, 65536, by omega, hR⟩⟩
    · exact Or.inl ⟨if_neg e, by rw [show w = 1 by omega], hw1 (by omega)⟩
theorem t_unpackM {c t fx T2 T3 RL T1 LR : Nat → Int32} {bi : Nat → Nat} {len a n : Nat} {R : UpR} {vsf vsb vr vw vm rm n1 n2 n3 x2 x3 x5 : Int32} (hs : Src c len bi a (8 * n)) (hn : n ≤ 8192) (e1 : x2 = nI a) (e2 : x3 = nI n) (e3 : x5 = nI 8192) (hR : upk (sB bi a) (8 * n) = R) : Tt (M_unpack 200000 66000 8192 c vsf vsb vr vw vm rm t fx n2 T2 n3 T3 RL n1 T1 LR x2 x3 x5) (QR R) := by
  subst e1 e2 e3
  unfold M_unpack
  refine Tt_l ?_
  have q2 : (8 : Int32) * nI n = nI (8 * n) := pk_mul 8 n
  rw [q2]
  have h8 : 8 * n % 8 = 0 := by omega
  have hM2 : 8 * n ≤ 65536 := by omega
  generalize 8 * n = M at *
  refine Tt_R2.2 (Tt_m (t_numM hs.1 hs.2.1 hs.2.2.1 hs.2.2.2 (Nat.zero_le M) (k := 8) (wr := 0) (by omega) (by omega) rfl rfl rfl rfl rfl) ?_)
  rintro _ ⟨v1, p1, w1, rfl, hv1, hp1, hp1', hw1, g1, g2⟩
  dsimp only
  refine Tt_R2.2 (Tt_m (t_numM hs.1 hs.2.1 hs.2.2.1 hs.2.2.2 hp1' (k := 8) (wr := w1) (by omega) hw1 rfl rfl rfl rfl rfl) ?_)
  rintro _ ⟨v2, p2, w2, rfl, hv2, hp2, hp2', hw2, g3, g4⟩
  dsimp only
  unfold upk at hR
  have bad : R = none → Tt (M_unpack_115 200000 66000 8192 c (nI a) (nI M) (nI p2) (nI w2) 0 (nI 8192) t fx n2 T2 n3 T3 RL n1 T1 LR (nI v1)) (QR R) := by
    intro e
    unfold M_unpack_115
    exact t_120 (w := 1) hs hp2' h8 hM2 (by omega) (fun _ => e) (fun k => absurd k (by omega)) (Or.inr rfl)
  by_cases z : 16 ≤ M
  · obtain ⟨rfl, rfl, rfl⟩ := g1 rfl (by omega)
    obtain ⟨rfl, rfl, rfl⟩ := g3 rfl (by omega)
    rw [show 0 + 8 = 8 from rfl] at *
    rw [show 8 + 8 = 16 from rfl] at *
    unfold hok at hR
    clear g1 g2 g3 g4
    generalize num (sB bi a) 0 8 = b1 at *
    generalize num (sB bi a) 8 8 = b2 at *
    have e1 : (256 : Int32) * nI b1 = nI (256 * b1) := pk_mul 256 b1
    have e2 : nI (256 * b1 + b2) - nI (256 * b1 + b2) / 31 * 31 = nI ((256 * b1 + b2) % 31) := n_rm (d := 31) (by omega) (by omega) (by omega)
    have e3 : nI b1 - nI b1 / 16 * 16 = nI (b1 % 16) := n_rm (d := 16) (by omega) (by omega) (by omega)
    have e4 : nI b1 / 16 = nI (b1 / 16) := pk_div (d := 16) (by omega) (by decide) (by decide)
    have e5 : nI b2 / 32 = nI (b2 / 32) := pk_div (d := 32) (by omega) (by decide) (by decide)
    have e6 : nI (b2 / 32) - nI (b2 / 32) / 2 * 2 = nI (b2 / 32 % 2) := n_rm (d := 2) (by omega) (by omega) (by omega)
    have bad2 : ¬ ((256 * b1 + b2) % 31 = 0 ∧ b1 % 16 = 8 ∧ b1 / 16 ≤ 7 ∧ b2 / 32 % 2 = 0) → R = none := by
      intro k
      rw [if_pos (Or.inr k)] at hR
      exact hR.symm
    refine Tt_p rfl (Tt_l ?_)
    rw [e1, nI_add, e2, e3, e4]
    by_cases c1 : (256 * b1 + b2) % 31 = 0
    · refine Tt_p (by rw [c1]; rfl) ?_
      by_cases c2 : b1 % 16 = 8
      · refine Tt_p (by rw [c2]; rfl) ?_
        by_cases c3 : b1 / 16 ≤ 7
        · refine Tt_n (by first | decide | (simp (disch := omega) only [i_0, i_1, i_2, i_3, i_4, i_5, i_6, i_7, i_8, i_9, i_10, i_11, i_13, i_14, i_15, i_16, i_17, i_18, i_19, i_24, i_29, i_30, i_31, i_32, i_138, i_143, i_144, i_254, i_255, i_256, i_257, i_258, i_261, i_264, i_265, i_279, i_280, i_284, i_285, i_286, i_288, i_319, i_320, i_338, i_339, i_575, i_576, i_599, i_600, i_4096, i_8191, i_8192, i_8249, i_8250, i_8256, i_9000, i_16384, i_32767, i_32768, i_65520, i_65521, i_65535, i_65536, i_65999, i_66000, i_1300, i_120, i_156, nI_leI, nI_ltI, nI_eq, nI_add, n_neg, not_false_eq_true, not_true_eq_false] <;> omega)) (Tt_l ?_)
          rw [e5, e6]
          by_cases c4 : b2 / 32 % 2 = 0
          · refine Tt_n (by rw [c4]; decide) ?_
            rw [if_neg (by omega)] at hR
            exact t_120 (w := 0) hs hp2' h8 hM2 (by omega) (fun k => absurd k (by omega)) (fun _ => ⟨c3, hR⟩) (Or.inl (by omega))
          · exact Tt_p (by rw [show b2 / 32 % 2 = 1 by omega]; rfl) (bad (bad2 (by omega)))
        · exact Tt_p (by first | decide | (simp (disch := omega) only [i_0, i_1, i_2, i_3, i_4, i_5, i_6, i_7, i_8, i_9, i_10, i_11, i_13, i_14, i_15, i_16, i_17, i_18, i_19, i_24, i_29, i_30, i_31, i_32, i_138, i_143, i_144, i_254, i_255, i_256, i_257, i_258, i_261, i_264, i_265, i_279, i_280, i_284, i_285, i_286, i_288, i_319, i_320, i_338, i_339, i_575, i_576, i_599, i_600, i_4096, i_8191, i_8192, i_8249, i_8250, i_8256, i_9000, i_16384, i_32767, i_32768, i_65520, i_65521, i_65535, i_65536, i_65999, i_66000, i_1300, i_120, i_156, nI_leI, nI_ltI, nI_eq, nI_add, n_neg, not_false_eq_true, not_true_eq_false] <;> omega)) (bad (bad2 (by omega)))
      · exact Tt_n (by first | decide | (simp (disch := omega) only [i_0, i_1, i_2, i_3, i_4, i_5, i_6, i_7, i_8, i_9, i_10, i_11, i_13, i_14, i_15, i_16, i_17, i_18, i_19, i_24, i_29, i_30, i_31, i_32, i_138, i_143, i_144, i_254, i_255, i_256, i_257, i_258, i_261, i_264, i_265, i_279, i_280, i_284, i_285, i_286, i_288, i_319, i_320, i_338, i_339, i_575, i_576, i_599, i_600, i_4096, i_8191, i_8192, i_8249, i_8250, i_8256, i_9000, i_16384, i_32767, i_32768, i_65520, i_65521, i_65535, i_65536, i_65999, i_66000, i_1300, i_120, i_156, nI_leI, nI_ltI, nI_eq, nI_add, n_neg, not_false_eq_true, not_true_eq_false] <;> omega)) (bad (bad2 (by omega)))
    · exact Tt_n (by first | decide | (simp (disch := omega) only [i_0, i_1, i_2, i_3, i_4, i_5, i_6, i_7, i_8, i_9, i_10, i_11, i_13, i_14, i_15, i_16, i_17, i_18, i_19, i_24, i_29, i_30, i_31, i_32, i_138, i_143, i_144, i_254, i_255, i_256, i_257, i_258, i_261, i_264, i_265, i_279, i_280, i_284, i_285, i_286, i_288, i_319, i_320, i_338, i_339, i_575, i_576, i_599, i_600, i_4096, i_8191, i_8192, i_8249, i_8250, i_8256, i_9000, i_16384, i_32767, i_32768, i_65520, i_65521, i_65535, i_65536, i_65999, i_66000, i_1300, i_120, i_156, nI_leI, nI_ltI, nI_eq, nI_add, n_neg, not_false_eq_true, not_true_eq_false] <;> omega)) (bad (bad2 (by omega)))
  · have e2 : w2 = 1 := by
      by_cases w0 : M < 0 + 8
      · have : w1 = 1 := by rcases g2 (Or.inr w0) with q | q <;> omega
        rcases g4 (Or.inl this) with q | q <;> omega
      · have := g1 rfl (by omega)
        rcases g4 (Or.inr (by omega)) with q | q <;> omega
    subst e2
    rw [if_pos (Or.inl (by omega))] at hR
    exact Tt_n (by decide) (bad hR.symm)
/-! bytes read as pieces: heads -/
def hdA (bi : Nat → Nat) (x : Nat) : Nat := bi x + 256 * bi (x + 1)
def hnA (bi : Nat → Nat) (x : Nat) : Nat := hdA bi x % 32768
def stA (bi : Nat → Nat) : Nat → Nat
  | 0 => 0
  | i + 1 => stA bi i + 2 + hnA bi (stA bi i)
def okH (len : Nat) (bi : Nat → Nat) (i : Nat) : Prop := stA bi i + 2 ≤ len ∧ 1 ≤ hnA bi (stA bi i) ∧ hnA bi (stA bi i) ≤ 8192 ∧ stA bi i + 2 + hnA bi (stA bi i) ≤ len
def HdN (len : Nat) (bi : Nat → Nat) (n : Nat) : Prop := (∀ i, i < n → stA bi i < len ∧ okH len bi i) ∧ (stA bi n = len ∨ (stA bi n < len ∧ ¬ okH len bi n))
theorem st_b {len : Nat} {bi : Nat → Nat} : ∀ n, (∀ i, i < n → stA bi i < len ∧ okH len bi i) → 3 * n ≤ stA bi n ∧ stA bi n ≤ len := by
  intro n
  induction n with
  | zero => intro _; exact ⟨by show 3 * 0 ≤ 0; omega, Nat.zero_le _⟩
  | succ n ih =>
    intro h
    have g := ih (fun i hi => h i (by omega))
    have k := (h n (by omega)).2
    unfold okH at k
    show 3 * (n + 1) ≤ stA bi n + 2 + hnA bi (stA bi n) ∧ stA bi n + 2 + hnA bi (stA bi n) ≤ len
    omega
theorem st_lt {len : Nat} {bi : Nat → Nat} {n : Nat} (h : ∀ i, i < n → stA bi i < len ∧ okH len bi i) : ∀ j, j ≤ n → ∀ i, i < j → stA bi i < stA bi j := by
  intro j
  induction j with
  | zero => intro _ i hi; omega
  | succ j ih =>
    intro hj i hi
    have k := (h j (by omega)).2
    unfold okH at k
    show stA bi i < stA bi j + 2 + hnA bi (stA bi j)
    by_cases e : i = j
    · subst e
      omega
    · have := ih (by omega) i (by omega)
      omega
theorem hd_ex (len : Nat) (bi : Nat → Nat) : ∃ n, HdN len bi n := by
  have key : ∀ k, (∃ n, HdN len bi n) ∨ (∀ i, i < k → stA bi i < len ∧ okH len bi i) := by
    intro k
    induction k with
    | zero => exact Or.inr (fun i hi => absurd hi (by omega))
    | succ k ih =>
      rcases ih with h | h
      · exact Or.inl h
      · have le := (st_b k h).2
        by_cases e : stA bi k = len
        · exact Or.inl ⟨k, h, Or.inl e⟩
        · by_cases o : okH len bi k
          · refine Or.inr (fun i hi => ?_)
            by_cases e2 : i = k
            · subst e2
              exact ⟨by omega, o⟩
            · exact h i (by omega)
          · exact Or.inl ⟨k, h, Or.inr ⟨by omega, o⟩⟩
  rcases key (len + 1) with h | h
  · exact h
  · have := st_b _ h
    omega
theorem e_atB {c : Nat → Int32} {bi : Nat → Nat} {len x N : Nat} (h : Row c 0 len bi) (hlen : len ≤ N) (hN : N ≤ 100000) (hx : x < 2 ^ 31) : Bytes_at 200000 N (nI len) c (nI x) = some (nI (if x < len then bi x else 0), ()) := by
  unfold Bytes_at mC
  rw [if_neg (nI_pos hx)]
  by_cases z : x < len
  · rw [if_neg (by rw [nI_leI (by omega) hx]; omega), if_pos z]
    unfold mG
    have c0 := h.1 x z
    rw [Nat.zero_add] at c0
    have e : sx (bi x) &&& (255 : Int32) = nI (bi x) := sx_k _ (h.2 x)
    rw [if_neg (nI_in (by omega) (by omega)), nI_clamp hx, c0, e]
  · rw [if_pos (by rw [nI_leI (by omega) hx]; omega), if_neg z]
    rfl
theorem n_hd {a b : Nat} (ha : a < 256) (hb : b < 256) : nI a ||| (nI b <<< ((8 : Int32) &&& 31)) = nI (a + 256 * b) := by
  have e1 : nI b <<< ((8 : Int32) &&& 31) = nI (b * 2 ^ 8) := n_shl (k := 8) (by omega) (by omega)
  rw [e1, n_ord (by omega)]
  exact congrArg nI (by omega)
theorem t_headC {c : Nat → Int32} {bi : Nat → Nat} {len x : Nat} (h : Row c 0 len bi) (hlen : len ≤ 66000) (hx : x < len) : Tt (P_headAt 200000 66000 (nI len) c (nI x)) (fun u => u = (nI (bi x + 256 * (if x + 1 < len then bi (x + 1) else 0)), ())) := by
  unfold P_headAt
  have a := e_atB h hlen (by omega) (x := x) (by omega)
  have b := e_atB h hlen (by omega) (x := x + 1) (by omega)
  rw [if_pos hx] at a
  refine Tt_R0.2 (Tt_o a (Tt_l ?_))
  rw [nI_1]
  refine Tt_R0.2 (Tt_o b (Tt_Si ?_))
  dsimp only
  rw [n_hd (h.2 x) (by split; exact h.2 _; omega)]
theorem t_headM {c : Nat → Int32} {bi : Nat → Nat} {len x : Nat} (h : Row c 0 len bi) (hlen : len ≤ 66000) (hx : x + 2 ≤ len) : Tt (M_headAt 200000 c (nI x)) (fun u => u = (nI (hdA bi x), ())) := by
  unfold M_headAt
  have a := h.1 x (by omega)
  have b := h.1 (x + 1) (by omega)
  rw [Nat.zero_add] at a b
  have ea : sx (bi x) &&& (255 : Int32) = nI (bi x) := sx_k _ (h.2 x)
  have eb : sx (bi (x + 1)) &&& (255 : Int32) = nI (bi (x + 1)) := sx_k _ (h.2 (x + 1))
  refine Tt_g (by omega) (by omega) (Tt_l ?_)
  rw [nI_1]
  refine Tt_g (by omega) (by omega) (Tt_Si ?_)
  rw [nI_clamp (by omega), nI_clamp (by omega), a, b, ea, eb, n_hd (h.2 x) (h.2 (x + 1))]
  rfl
theorem e_told (v : Nat) : P_bytesTold 200000 (nI v) = some (nI (v % 32768), ()) := by
  unfold P_bytesTold
  have e : nI v &&& (32767 : Int32) = nI (v % 32768) := n_32767 v
  rw [e]
theorem hdA_lt {bi : Nat → Nat} (hb : ∀ i, bi i < 256) (x : Nat) : hdA bi x < 65536 := by
  have h1 := hb x
  have h2 := hb (x + 1)
  unfold hdA
  omega
theorem t_findC {c ks : Nat → Int32} {bi : Nat → Nat} {len n : Nat} (h : Row c 0 len bi) (hlen : len ≤ 66000) (hn : HdN len bi n) : Tt (P_findPieces 200000 66000 (nI len) c ks) (fun u => (stA bi n = len → u.1 = nI n ∧ ∀ i, i < n → i < 8 → u.2 i = nI (stA bi i)) ∧ (stA bi n ≠ len → u.1 = -1)) := by
  have hb := st_b n hn.1
  unfold P_findPieces
  refine Tt_W3 (fun mm ks x1 x2 => ∃ k, k ≤ n ∧ mm = n - k ∧ x1 = nI k ∧ x2 = nI (stA bi k) ∧ ∀ i, i < k → i < 8 → ks i = nI (stA bi i)) ?_ 200000 n _ _ _ (by omega) ⟨0, by omega, by omega, rfl, rfl, fun i hi => absurd hi (by omega)⟩
  rintro K mm ks x1 x2 ⟨k, hk, rfl, rfl, rfl, hks⟩ ih
  have hbk := st_b k (fun i hi => hn.1 i (by omega))
  have el : Bytes_length 200000 (nI len) = some (nI len, ()) := rfl
  unfold P_findPieces_4
  refine Tt_R0.2 (Tt_o el ?_)
  dsimp only
  by_cases e : stA bi k = len
  · have ek : k = n := by
      by_cases q : k < n
      · have := (hn.1 k q).1
        omega
      · omega
    subst ek
    exact Tt_p (by first | decide | (simp (disch := omega) only [i_0, i_1, i_2, i_3, i_4, i_5, i_6, i_7, i_8, i_9, i_10, i_11, i_13, i_14, i_15, i_16, i_17, i_18, i_19, i_24, i_29, i_30, i_31, i_32, i_138, i_143, i_144, i_254, i_255, i_256, i_257, i_258, i_261, i_264, i_265, i_279, i_280, i_284, i_285, i_286, i_288, i_319, i_320, i_338, i_339, i_575, i_576, i_599, i_600, i_4096, i_8191, i_8192, i_8249, i_8250, i_8256, i_9000, i_16384, i_32767, i_32768, i_65520, i_65521, i_65535, i_65536, i_65999, i_66000, i_1300, i_120, i_156, nI_leI, nI_ltI, nI_eq, nI_add, n_neg, not_false_eq_true, not_true_eq_false] <;> omega)) (Tt_Si ⟨fun _ => ⟨rfl, hks⟩, fun q => absurd e q⟩)
  · refine Tt_n (by first | decide | (simp (disch := omega) only [i_0, i_1, i_2, i_3, i_4, i_5, i_6, i_7, i_8, i_9, i_10, i_11, i_13, i_14, i_15, i_16, i_17, i_18, i_19, i_24, i_29, i_30, i_31, i_32, i_138, i_143, i_144, i_254, i_255, i_256, i_257, i_258, i_261, i_264, i_265, i_279, i_280, i_284, i_285, i_286, i_288, i_319, i_320, i_338, i_339, i_575, i_576, i_599, i_600, i_4096, i_8191, i_8192, i_8249, i_8250, i_8256, i_9000, i_16384, i_32767, i_32768, i_65520, i_65521, i_65535, i_65536, i_65999, i_66000, i_1300, i_120, i_156, nI_leI, nI_ltI, nI_eq, nI_add, n_neg, not_false_eq_true, not_true_eq_false] <;> omega)) (Tt_R0.2 (Tt_m (t_headC h hlen (x := stA bi k) (by omega)) ?_))
    rintro _ rfl
    dsimp only
    refine Tt_R0.2 (Tt_o (e_told _) ?_)
    dsimp only
    have b1 := h.2 (stA bi k)
    have b2 := h.2 (stA bi k + 1)
    obtain ⟨r, hr, hr1, hr2⟩ : ∃ r, (bi (stA bi k) + 256 * (if stA bi k + 1 < len then bi (stA bi k + 1) else 0)) % 32768 = r ∧ r < 32768 ∧ (stA bi k + 2 ≤ len → r = hnA bi (stA bi k)) := by
      refine ⟨_, rfl, by omega, fun q => ?_⟩
      rw [if_pos (by omega)]
      rfl
    rw [hr]
    by_cases ok : 1 ≤ r ∧ r ≤ 8192 ∧ stA bi k + 2 + r ≤ len
    · have er := hr2 (by omega)
      have hok : okH len bi k := ⟨by omega, by omega, by omega, by omega⟩
      have kn : k < n := by
        rcases (show k < n ∨ k = n by omega) with q | q
        · exact q
        · subst q
          rcases hn.2 with w | w
          · exact absurd w e
          · exact absurd hok w.2
      refine Tt_n (by first | decide | (simp (disch := omega) only [i_0, i_1, i_2, i_3, i_4, i_5, i_6, i_7, i_8, i_9, i_10, i_11, i_13, i_14, i_15, i_16, i_17, i_18, i_19, i_24, i_29, i_30, i_31, i_32, i_138, i_143, i_144, i_254, i_255, i_256, i_257, i_258, i_261, i_264, i_265, i_279, i_280, i_284, i_285, i_286, i_288, i_319, i_320, i_338, i_339, i_575, i_576, i_599, i_600, i_4096, i_8191, i_8192, i_8249, i_8250, i_8256, i_9000, i_16384, i_32767, i_32768, i_65520, i_65521, i_65535, i_65536, i_65999, i_66000, i_1300, i_120, i_156, nI_leI, nI_ltI, nI_eq, nI_add, n_neg, not_false_eq_true, not_true_eq_false] <;> omega)) (Tt_n (by first | decide | (simp (disch := omega) only [i_0, i_1, i_2, i_3, i_4, i_5, i_6, i_7, i_8, i_9, i_10, i_11, i_13, i_14, i_15, i_16, i_17, i_18, i_19, i_24, i_29, i_30, i_31, i_32, i_138, i_143, i_144, i_254, i_255, i_256, i_257, i_258, i_261, i_264, i_265, i_279, i_280, i_284, i_285, i_286, i_288, i_319, i_320, i_338, i_339, i_575, i_576, i_599, i_600, i_4096, i_8191, i_8192, i_8249, i_8250, i_8256, i_9000, i_16384, i_32767, i_32768, i_65520, i_65521, i_65535, i_65536, i_65999, i_66000, i_1300, i_120, i_156, nI_leI, nI_ltI, nI_eq, nI_add, n_neg, not_false_eq_true, not_true_eq_false] <;> omega)) (Tt_R0.2 (Tt_o el ?_)))
      dsimp only
      have e2 : nI (stA bi k) + 2 + nI r = nI (stA bi k + 2 + r) := by
        have : nI (stA bi k) + 2 = nI (stA bi k + 2) := nI_add _ 2
        rw [this, nI_add]
      have e3 : nI (stA bi k) + (2 + nI r) = nI (stA bi k + (2 + r)) := by
        have : 2 + nI r = nI (2 + r) := nI_add 2 r
        rw [this, nI_add]
      rw [e2]
      have fin : ∀ ks', (∀ i, i < k + 1 → i < 8 → ks' i = nI (stA bi i)) → Tt (P_findPieces_66 200000 K ks' (nI k) (nI (stA bi k)) (nI r)) (fun u => (stA bi n = len → u.1 = nI n ∧ ∀ i, i < n → i < 8 → u.2 i = nI (stA bi i)) ∧ (stA bi n ≠ len → u.1 = -1)) := by
        intro ks' hks'
        unfold P_findPieces_66
        refine Tt_l (Tt_l ?_)
        rw [nI_1, e3]
        refine ih (n - (k + 1)) _ _ _ (by omega) ⟨k + 1, by omega, rfl, rfl, ?_, hks'⟩
        show _ = nI (stA bi k + 2 + hnA bi (stA bi k))
        exact congrArg nI (by omega)
      refine Tt_p (by first | decide | (simp (disch := omega) only [i_0, i_1, i_2, i_3, i_4, i_5, i_6, i_7, i_8, i_9, i_10, i_11, i_13, i_14, i_15, i_16, i_17, i_18, i_19, i_24, i_29, i_30, i_31, i_32, i_138, i_143, i_144, i_254, i_255, i_256, i_257, i_258, i_261, i_264, i_265, i_279, i_280, i_284, i_285, i_286, i_288, i_319, i_320, i_338, i_339, i_575, i_576, i_599, i_600, i_4096, i_8191, i_8192, i_8249, i_8250, i_8256, i_9000, i_16384, i_32767, i_32768, i_65520, i_65521, i_65535, i_65536, i_65999, i_66000, i_1300, i_120, i_156, nI_leI, nI_ltI, nI_eq, nI_add, n_neg, not_false_eq_true, not_true_eq_false] <;> omega)) ?_
      by_cases k8 : 8 ≤ k
      · exact Tt_p (by first | decide | (simp (disch := omega) only [i_0, i_1, i_2, i_3, i_4, i_5, i_6, i_7, i_8, i_9, i_10, i_11, i_13, i_14, i_15, i_16, i_17, i_18, i_19, i_24, i_29, i_30, i_31, i_32, i_138, i_143, i_144, i_254, i_255, i_256, i_257, i_258, i_261, i_264, i_265, i_279, i_280, i_284, i_285, i_286, i_288, i_319, i_320, i_338, i_339, i_575, i_576, i_599, i_600, i_4096, i_8191, i_8192, i_8249, i_8250, i_8256, i_9000, i_16384, i_32767, i_32768, i_65520, i_65521, i_65535, i_65536, i_65999, i_66000, i_1300, i_120, i_156, nI_leI, nI_ltI, nI_eq, nI_add, n_neg, not_false_eq_true, not_true_eq_false] <;> omega)) (fin _ (fun i hi h8 => hks i (by omega) h8))
      · refine Tt_n (by first | decide | (simp (disch := omega) only [i_0, i_1, i_2, i_3, i_4, i_5, i_6, i_7, i_8, i_9, i_10, i_11, i_13, i_14, i_15, i_16, i_17, i_18, i_19, i_24, i_29, i_30, i_31, i_32, i_138, i_143, i_144, i_254, i_255, i_256, i_257, i_258, i_261, i_264, i_265, i_279, i_280, i_284, i_285, i_286, i_288, i_319, i_320, i_338, i_339, i_575, i_576, i_599, i_600, i_4096, i_8191, i_8192, i_8249, i_8250, i_8256, i_9000, i_16384, i_32767, i_32768, i_65520, i_65521, i_65535, i_65536, i_65999, i_66000, i_1300, i_120, i_156, nI_leI, nI_ltI, nI_eq, nI_add, n_neg, not_false_eq_true, not_true_eq_false] <;> omega)) (Tt_g (by omega) (by omega) (Tt_l ?_))
        rw [nI_clamp (by omega)]
        refine fin _ (fun i hi h8 => ?_)
        by_cases q : i = k
        · rw [q, pk_us]
        · rw [pk_un q]
          exact hks i (by omega) h8
    · have kn : k = n := by
        rcases (show k < n ∨ k = n by omega) with q | q
        · have o := (hn.1 k q).2
          unfold okH at o
          have := hr2 (by omega)
          omega
        · exact q
      subst kn
      have fail : (stA bi k = len → (-1 : Int32) = nI k ∧ ∀ i, i < k → i < 8 → ks i = nI (stA bi i)) ∧ (stA bi k ≠ len → (-1 : Int32) = -1) := ⟨fun q => absurd q e, fun _ => rfl⟩
      by_cases z1 : r < 1
      · exact Tt_p (by first | decide | (simp (disch := omega) only [i_0, i_1, i_2, i_3, i_4, i_5, i_6, i_7, i_8, i_9, i_10, i_11, i_13, i_14, i_15, i_16, i_17, i_18, i_19, i_24, i_29, i_30, i_31, i_32, i_138, i_143, i_144, i_254, i_255, i_256, i_257, i_258, i_261, i_264, i_265, i_279, i_280, i_284, i_285, i_286, i_288, i_319, i_320, i_338, i_339, i_575, i_576, i_599, i_600, i_4096, i_8191, i_8192, i_8249, i_8250, i_8256, i_9000, i_16384, i_32767, i_32768, i_65520, i_65521, i_65535, i_65536, i_65999, i_66000, i_1300, i_120, i_156, nI_leI, nI_ltI, nI_eq, nI_add, n_neg, not_false_eq_true, not_true_eq_false] <;> omega)) (Tt_Si fail)
      · refine Tt_n (by first | decide | (simp (disch := omega) only [i_0, i_1, i_2, i_3, i_4, i_5, i_6, i_7, i_8, i_9, i_10, i_11, i_13, i_14, i_15, i_16, i_17, i_18, i_19, i_24, i_29, i_30, i_31, i_32, i_138, i_143, i_144, i_254, i_255, i_256, i_257, i_258, i_261, i_264, i_265, i_279, i_280, i_284, i_285, i_286, i_288, i_319, i_320, i_338, i_339, i_575, i_576, i_599, i_600, i_4096, i_8191, i_8192, i_8249, i_8250, i_8256, i_9000, i_16384, i_32767, i_32768, i_65520, i_65521, i_65535, i_65536, i_65999, i_66000, i_1300, i_120, i_156, nI_leI, nI_ltI, nI_eq, nI_add, n_neg, not_false_eq_true, not_true_eq_false] <;> omega)) ?_
        by_cases z2 : 8192 < r
        · exact Tt_p (by first | decide | (simp (disch := omega) only [i_0, i_1, i_2, i_3, i_4, i_5, i_6, i_7, i_8, i_9, i_10, i_11, i_13, i_14, i_15, i_16, i_17, i_18, i_19, i_24, i_29, i_30, i_31, i_32, i_138, i_143, i_144, i_254, i_255, i_256, i_257, i_258, i_261, i_264, i_265, i_279, i_280, i_284, i_285, i_286, i_288, i_319, i_320, i_338, i_339, i_575, i_576, i_599, i_600, i_4096, i_8191, i_8192, i_8249, i_8250, i_8256, i_9000, i_16384, i_32767, i_32768, i_65520, i_65521, i_65535, i_65536, i_65999, i_66000, i_1300, i_120, i_156, nI_leI, nI_ltI, nI_eq, nI_add, n_neg, not_false_eq_true, not_true_eq_false] <;> omega)) (Tt_Si fail)
        · refine Tt_n (by first | decide | (simp (disch := omega) only [i_0, i_1, i_2, i_3, i_4, i_5, i_6, i_7, i_8, i_9, i_10, i_11, i_13, i_14, i_15, i_16, i_17, i_18, i_19, i_24, i_29, i_30, i_31, i_32, i_138, i_143, i_144, i_254, i_255, i_256, i_257, i_258, i_261, i_264, i_265, i_279, i_280, i_284, i_285, i_286, i_288, i_319, i_320, i_338, i_339, i_575, i_576, i_599, i_600, i_4096, i_8191, i_8192, i_8249, i_8250, i_8256, i_9000, i_16384, i_32767, i_32768, i_65520, i_65521, i_65535, i_65536, i_65999, i_66000, i_1300, i_120, i_156, nI_leI, nI_ltI, nI_eq, nI_add, n_neg, not_false_eq_true, not_true_eq_false] <;> omega)) (Tt_R0.2 (Tt_o el ?_))
          dsimp only
          have e2 : nI (stA bi k) + 2 + nI r = nI (stA bi k + 2 + r) := by
            have : nI (stA bi k) + 2 = nI (stA bi k + 2) := nI_add _ 2
            rw [this, nI_add]
          rw [e2]
          exact Tt_n (by first | decide | (simp (disch := omega) only [i_0, i_1, i_2, i_3, i_4, i_5, i_6, i_7, i_8, i_9, i_10, i_11, i_13, i_14, i_15, i_16, i_17, i_18, i_19, i_24, i_29, i_30, i_31, i_32, i_138, i_143, i_144, i_254, i_255, i_256, i_257, i_258, i_261, i_264, i_265, i_279, i_280, i_284, i_285, i_286, i_288, i_319, i_320, i_338, i_339, i_575, i_576, i_599, i_600, i_4096, i_8191, i_8192, i_8249, i_8250, i_8256, i_9000, i_16384, i_32767, i_32768, i_65520, i_65521, i_65535, i_65536, i_65999, i_66000, i_1300, i_120, i_156, nI_leI, nI_ltI, nI_eq, nI_add, n_neg, not_false_eq_true, not_true_eq_false] <;> omega)) (Tt_Si fail)
theorem t_headsM {c : Nat → Int32} {bi : Nat → Nat} {len n : Nat} (h : Row c 0 len bi) (hlen : len ≤ 66000) (hn : HdN len bi n) : Tt (M_areHeads 200000 (nI len) c) (fun u => u.1 = nI (if stA bi n = len then 1 else 0)) := by
  have hb := st_b n hn.1
  unfold M_areHeads
  refine Tt_W1 (fun mm x1 => ∃ k, k ≤ n ∧ mm = n - k ∧ x1 = nI (stA bi k)) ?_ 200000 n _ (by omega) ⟨0, by omega, by omega, rfl⟩
  rintro K mm x1 ⟨k, hk, rfl, rfl⟩ ih
  have hbk := st_b k (fun i hi => hn.1 i (by omega))
  have g33 : ∀ r, r < 32768 → (stA bi k + 2 ≤ len → r = hnA bi (stA bi k)) → (¬ stA bi k + 2 ≤ len → r = 0) → stA bi k ≠ len → Tt (M_areHeads_33 200000 (nI len) K (nI (stA bi k)) (nI r)) (fun u => u.1 = nI (if stA bi n = len then 1 else 0)) := by
    intro r hr1 hr2 hr3 e
    unfold M_areHeads_33
    have e2 : nI (stA bi k) + 2 + nI r = nI (stA bi k + 2 + r) := by
      have : nI (stA bi k) + 2 = nI (stA bi k + 2) := nI_add _ 2
      rw [this, nI_add]
    rw [e2]
    by_cases ok : 1 ≤ r ∧ r ≤ 8192 ∧ stA bi k + 2 + r ≤ len
    · have er := hr2 (by omega)
      have hok : okH len bi k := ⟨by omega, by omega, by omega, by omega⟩
      have kn : k < n := by
        rcases (show k < n ∨ k = n by omega) with q | q
        · exact q
        · subst q
          rcases hn.2 with w | w
          · exact absurd w e
          · exact absurd hok w.2
      refine Tt_n (by first | decide | (simp (disch := omega) only [i_0, i_1, i_2, i_3, i_4, i_5, i_6, i_7, i_8, i_9, i_10, i_11, i_13, i_14, i_15, i_16, i_17, i_18, i_19, i_24, i_29, i_30, i_31, i_32, i_138, i_143, i_144, i_254, i_255, i_256, i_257, i_258, i_261, i_264, i_265, i_279, i_280, i_284, i_285, i_286, i_288, i_319, i_320, i_338, i_339, i_575, i_576, i_599, i_600, i_4096, i_8191, i_8192, i_8249, i_8250, i_8256, i_9000, i_16384, i_32767, i_32768, i_65520, i_65521, i_65535, i_65536, i_65999, i_66000, i_1300, i_120, i_156, nI_leI, nI_ltI, nI_eq, nI_add, n_neg, not_false_eq_true, not_true_eq_false] <;> omega)) (Tt_n (by first | decide | (simp (disch := omega) only [i_0, i_1, i_2, i_3, i_4, i_5, i_6, i_7, i_8, i_9, i_10, i_11, i_13, i_14, i_15, i_16, i_17, i_18, i_19, i_24, i_29, i_30, i_31, i_32, i_138, i_143, i_144, i_254, i_255, i_256, i_257, i_258, i_261, i_264, i_265, i_279, i_280, i_284, i_285, i_286, i_288, i_319, i_320, i_338, i_339, i_575, i_576, i_599, i_600, i_4096, i_8191, i_8192, i_8249, i_8250, i_8256, i_9000, i_16384, i_32767, i_32768, i_65520, i_65521, i_65535, i_65536, i_65999, i_66000, i_1300, i_120, i_156, nI_leI, nI_ltI, nI_eq, nI_add, n_neg, not_false_eq_true, not_true_eq_false] <;> omega)) (Tt_p (by first | decide | (simp (disch := omega) only [i_0, i_1, i_2, i_3, i_4, i_5, i_6, i_7, i_8, i_9, i_10, i_11, i_13, i_14, i_15, i_16, i_17, i_18, i_19, i_24, i_29, i_30, i_31, i_32, i_138, i_143, i_144, i_254, i_255, i_256, i_257, i_258, i_261, i_264, i_265, i_279, i_280, i_284, i_285, i_286, i_288, i_319, i_320, i_338, i_339, i_575, i_576, i_599, i_600, i_4096, i_8191, i_8192, i_8249, i_8250, i_8256, i_9000, i_16384, i_32767, i_32768, i_65520, i_65521, i_65535, i_65536, i_65999, i_66000, i_1300, i_120, i_156, nI_leI, nI_ltI, nI_eq, nI_add, n_neg, not_false_eq_true, not_true_eq_false] <;> omega)) (Tt_l ?_)))
      refine ih (n - (k + 1)) _ (by omega) ⟨k + 1, by omega, rfl, ?_⟩
      show _ = nI (stA bi k + 2 + hnA bi (stA bi k))
      rw [er]
    · have kn : k = n := by
        rcases (show k < n ∨ k = n by omega) with q | q
        · have o := (hn.1 k q).2
          unfold okH at o
          have := hr2 (by omega)
          omega
        · exact q
      subst kn
      rw [if_neg e]
      by_cases z1 : r < 1
      · exact Tt_p (by first | decide | (simp (disch := omega) only [i_0, i_1, i_2, i_3, i_4, i_5, i_6, i_7, i_8, i_9, i_10, i_11, i_13, i_14, i_15, i_16, i_17, i_18, i_19, i_24, i_29, i_30, i_31, i_32, i_138, i_143, i_144, i_254, i_255, i_256, i_257, i_258, i_261, i_264, i_265, i_279, i_280, i_284, i_285, i_286, i_288, i_319, i_320, i_338, i_339, i_575, i_576, i_599, i_600, i_4096, i_8191, i_8192, i_8249, i_8250, i_8256, i_9000, i_16384, i_32767, i_32768, i_65520, i_65521, i_65535, i_65536, i_65999, i_66000, i_1300, i_120, i_156, nI_leI, nI_ltI, nI_eq, nI_add, n_neg, not_false_eq_true, not_true_eq_false] <;> omega)) (Tt_Si rfl)
      · refine Tt_n (by first | decide | (simp (disch := omega) only [i_0, i_1, i_2, i_3, i_4, i_5, i_6, i_7, i_8, i_9, i_10, i_11, i_13, i_14, i_15, i_16, i_17, i_18, i_19, i_24, i_29, i_30, i_31, i_32, i_138, i_143, i_144, i_254, i_255, i_256, i_257, i_258, i_261, i_264, i_265, i_279, i_280, i_284, i_285, i_286, i_288, i_319, i_320, i_338, i_339, i_575, i_576, i_599, i_600, i_4096, i_8191, i_8192, i_8249, i_8250, i_8256, i_9000, i_16384, i_32767, i_32768, i_65520, i_65521, i_65535, i_65536, i_65999, i_66000, i_1300, i_120, i_156, nI_leI, nI_ltI, nI_eq, nI_add, n_neg, not_false_eq_true, not_true_eq_false] <;> omega)) ?_
        by_cases z2 : 8192 < r
        · exact Tt_p (by first | decide | (simp (disch := omega) only [i_0, i_1, i_2, i_3, i_4, i_5, i_6, i_7, i_8, i_9, i_10, i_11, i_13, i_14, i_15, i_16, i_17, i_18, i_19, i_24, i_29, i_30, i_31, i_32, i_138, i_143, i_144, i_254, i_255, i_256, i_257, i_258, i_261, i_264, i_265, i_279, i_280, i_284, i_285, i_286, i_288, i_319, i_320, i_338, i_339, i_575, i_576, i_599, i_600, i_4096, i_8191, i_8192, i_8249, i_8250, i_8256, i_9000, i_16384, i_32767, i_32768, i_65520, i_65521, i_65535, i_65536, i_65999, i_66000, i_1300, i_120, i_156, nI_leI, nI_ltI, nI_eq, nI_add, n_neg, not_false_eq_true, not_true_eq_false] <;> omega)) (Tt_Si rfl)
        · exact Tt_n (by first | decide | (simp (disch := omega) only [i_0, i_1, i_2, i_3, i_4, i_5, i_6, i_7, i_8, i_9, i_10, i_11, i_13, i_14, i_15, i_16, i_17, i_18, i_19, i_24, i_29, i_30, i_31, i_32, i_138, i_143, i_144, i_254, i_255, i_256, i_257, i_258, i_261, i_264, i_265, i_279, i_280, i_284, i_285, i_286, i_288, i_319, i_320, i_338, i_339, i_575, i_576, i_599, i_600, i_4096, i_8191, i_8192, i_8249, i_8250, i_8256, i_9000, i_16384, i_32767, i_32768, i_65520, i_65521, i_65535, i_65536, i_65999, i_66000, i_1300, i_120, i_156, nI_leI, nI_ltI, nI_eq, nI_add, n_neg, not_false_eq_true, not_true_eq_false] <;> omega)) (Tt_n (by first | decide | (simp (disch := omega) only [i_0, i_1, i_2, i_3, i_4, i_5, i_6, i_7, i_8, i_9, i_10, i_11, i_13, i_14, i_15, i_16, i_17, i_18, i_19, i_24, i_29, i_30, i_31, i_32, i_138, i_143, i_144, i_254, i_255, i_256, i_257, i_258, i_261, i_264, i_265, i_279, i_280, i_284, i_285, i_286, i_288, i_319, i_320, i_338, i_339, i_575, i_576, i_599, i_600, i_4096, i_8191, i_8192, i_8249, i_8250, i_8256, i_9000, i_16384, i_32767, i_32768, i_65520, i_65521, i_65535, i_65536, i_65999, i_66000, i_1300, i_120, i_156, nI_leI, nI_ltI, nI_eq, nI_add, n_neg, not_false_eq_true, not_true_eq_false] <;> omega)) (Tt_Si rfl))
  unfold M_areHeads_2
  by_cases e : stA bi k = len
  · have ek : k = n := by
      by_cases q : k < n
      · have := (hn.1 k q).1
        omega
      · omega
    subst ek
    rw [if_pos e]
    exact Tt_p (by first | decide | (simp (disch := omega) only [i_0, i_1, i_2, i_3, i_4, i_5, i_6, i_7, i_8, i_9, i_10, i_11, i_13, i_14, i_15, i_16, i_17, i_18, i_19, i_24, i_29, i_30, i_31, i_32, i_138, i_143, i_144, i_254, i_255, i_256, i_257, i_258, i_261, i_264, i_265, i_279, i_280, i_284, i_285, i_286, i_288, i_319, i_320, i_338, i_339, i_575, i_576, i_599, i_600, i_4096, i_8191, i_8192, i_8249, i_8250, i_8256, i_9000, i_16384, i_32767, i_32768, i_65520, i_65521, i_65535, i_65536, i_65999, i_66000, i_1300, i_120, i_156, nI_leI, nI_ltI, nI_eq, nI_add, n_neg, not_false_eq_true, not_true_eq_false] <;> omega)) (Tt_Si rfl)
  · refine Tt_n (by first | decide | (simp (disch := omega) only [i_0, i_1, i_2, i_3, i_4, i_5, i_6, i_7, i_8, i_9, i_10, i_11, i_13, i_14, i_15, i_16, i_17, i_18, i_19, i_24, i_29, i_30, i_31, i_32, i_138, i_143, i_144, i_254, i_255, i_256, i_257, i_258, i_261, i_264, i_265, i_279, i_280, i_284, i_285, i_286, i_288, i_319, i_320, i_338, i_339, i_575, i_576, i_599, i_600, i_4096, i_8191, i_8192, i_8249, i_8250, i_8256, i_9000, i_16384, i_32767, i_32768, i_65520, i_65521, i_65535, i_65536, i_65999, i_66000, i_1300, i_120, i_156, nI_leI, nI_ltI, nI_eq, nI_add, n_neg, not_false_eq_true, not_true_eq_false] <;> omega)) ?_
    by_cases y : stA bi k + 2 ≤ len
    · refine Tt_p (by first | decide | (simp (disch := omega) only [i_0, i_1, i_2, i_3, i_4, i_5, i_6, i_7, i_8, i_9, i_10, i_11, i_13, i_14, i_15, i_16, i_17, i_18, i_19, i_24, i_29, i_30, i_31, i_32, i_138, i_143, i_144, i_254, i_255, i_256, i_257, i_258, i_261, i_264, i_265, i_279, i_280, i_284, i_285, i_286, i_288, i_319, i_320, i_338, i_339, i_575, i_576, i_599, i_600, i_4096, i_8191, i_8192, i_8249, i_8250, i_8256, i_9000, i_16384, i_32767, i_32768, i_65520, i_65521, i_65535, i_65536, i_65999, i_66000, i_1300, i_120, i_156, nI_leI, nI_ltI, nI_eq, nI_add, n_neg, not_false_eq_true, not_true_eq_false] <;> omega)) (Tt_R0.2 (Tt_m (t_headM h hlen y) ?_))
      rintro _ rfl
      dsimp only
      have e1 : nI (hdA bi (stA bi k)) &&& (32767 : Int32) = nI (hnA bi (stA bi k)) := n_32767 _
      rw [e1]
      exact g33 _ (Nat.mod_lt _ (by omega)) (fun _ => rfl) (fun q => absurd y q) e
    · exact Tt_n (by first | decide | (simp (disch := omega) only [i_0, i_1, i_2, i_3, i_4, i_5, i_6, i_7, i_8, i_9, i_10, i_11, i_13, i_14, i_15, i_16, i_17, i_18, i_19, i_24, i_29, i_30, i_31, i_32, i_138, i_143, i_144, i_254, i_255, i_256, i_257, i_258, i_261, i_264, i_265, i_279, i_280, i_284, i_285, i_286, i_288, i_319, i_320, i_338, i_339, i_575, i_576, i_599, i_600, i_4096, i_8191, i_8192, i_8249, i_8250, i_8256, i_9000, i_16384, i_32767, i_32768, i_65520, i_65521, i_65535, i_65536, i_65999, i_66000, i_1300, i_120, i_156, nI_leI, nI_ltI, nI_eq, nI_add, n_neg, not_false_eq_true, not_true_eq_false] <;> omega)) (g33 0 (by omega) (fun q => absurd q y) (fun _ => rfl) e)
/-! bytes read as pieces: what stands in them -/
theorem pts_b {src : Nat → Nat} {M win : Nat} (hs : ∀ i, src i < 2) : ∀ k p m o, m ≤ 8192 → (∀ i, o i < 256) → RdB M (pts src M win k p m o) := by
  intro k
  induction k with
  | zero => intro p m o _ _; exact RdB_0
  | succ k ih =>
    intro p m o hm ho
    unfold pts
    by_cases z : M < p + 3 ∨ num src (p + 1) 2 = 3
    · rw [if_pos z]; exact RdB_0
    · rw [if_neg z]
      have pb := prk_b (win := win) (kd := num src (p + 1) 2) hs (show p + 3 ≤ M by omega) hm ho
      cases hP : prk src M win (num src (p + 1) 2) (p + 3) m o with
      | none => exact RdB_0
      | some q =>
        obtain ⟨p', m', o'⟩ := q
        have b := pb.1 _ _ _ hP
        dsimp only
        by_cases y : src p = 1
        · rw [if_pos y]; exact RdB_s b.1 b.2.1 b.2.2
        · rw [if_neg y]; exact ih _ _ _ b.2.1 b.2.2
theorem upk_b {src : Nat → Nat} {M m : Nat} {o : Nat → Nat} (hs : ∀ i, src i < 2) (h : upk src M = some (m, o)) : m ≤ 8192 ∧ ∀ i, o i < 256 := by
  unfold upk at h
  by_cases z : M < 16 ∨ ¬ hok src
  · rw [if_pos z] at h; cases h
  · rw [if_neg z] at h
    have pb := @pts_b src M (256 * 2 ^ (num src 0 8 / 16)) hs 65536 16 0 (fun _ => 0) (by omega) (fun _ => (by show 0 < 256; omega))
    cases hP : pts src M (256 * 2 ^ (num src 0 8 / 16)) 65536 16 0 (fun _ => 0) with
    | none => rw [hP] at h; cases h
    | some q =>
      obtain ⟨p', m', o'⟩ := q
      have b := pb _ _ _ hP
      rw [hP] at h
      unfold upk2 at h
      dsimp only at h
      by_cases y : al8 p' + 32 = M ∧ bes src (al8 p') 4 = adC o' m'
      · rw [if_pos y] at h
        have e := Option.some.inj h
        obtain ⟨rfl, rfl⟩ : m' = m ∧ o' = o := ⟨congrArg Prod.fst e, congrArg Prod.snd e⟩
        exact ⟨b.2.1, b.2.2⟩
      · rw [if_neg y] at h; cases h
def pcA (bi : Nat → Nat) (i : Nat) : UpR := if 32768 ≤ hdA bi (stA bi i) then some (hnA bi (stA bi i), fun j => bi (stA bi i + 2 + j)) else upk (sB bi (stA bi i + 2)) (8 * hnA bi (stA bi i))
def mlA (bi : Nat → Nat) (i : Nat) : Nat := match pcA bi i with
  | none => 0
  | some (m, _) => m
def oA (bi : Nat → Nat) (i : Nat) : Nat → Nat := match pcA bi i with
  | none => fun _ => 0
  | some (_, o) => o
theorem pcA_s {bi : Nat → Nat} {i m : Nat} {o : Nat → Nat} (h : pcA bi i = some (m, o)) : mlA bi i = m ∧ oA bi i = o := by
  unfold mlA oA
  rw [h]
  exact ⟨rfl, rfl⟩
theorem pcA_n {bi : Nat → Nat} {i : Nat} (h : pcA bi i = none) : mlA bi i = 0 := by
  unfold mlA
  rw [h]
theorem pcA_b {bi : Nat → Nat} {i m : Nat} {o : Nat → Nat} (hb : ∀ i, bi i < 256) (h1 : hnA bi (stA bi i) ≤ 8192) (h : pcA bi i = some (m, o)) : m ≤ 8192 ∧ ∀ j, o j < 256 := by
  unfold pcA at h
  by_cases z : 32768 ≤ hdA bi (stA bi i)
  · rw [if_pos z] at h
    have e := Option.some.inj h
    obtain ⟨rfl, rfl⟩ : hnA bi (stA bi i) = m ∧ (fun j => bi (stA bi i + 2 + j)) = o := ⟨congrArg Prod.fst e, congrArg Prod.snd e⟩
    exact ⟨h1, fun j => hb _⟩
  · rw [if_neg z] at h
    exact upk_b (sB_lt bi _) h
theorem oA_b {bi : Nat → Nat} (hb : ∀ i, bi i < 256) (i j : Nat) : oA bi i j < 256 := by
  unfold oA
  cases h : pcA bi i with
  | none => exact Nat.zero_lt_succ _
  | some q =>
    obtain ⟨m, o⟩ := q
    show o j < 256
    unfold pcA at h
    by_cases z : 32768 ≤ hdA bi (stA bi i)
    · rw [if_pos z] at h
      have e := congrArg Prod.snd (Option.some.inj h)
      dsimp only at e
      rw [← e]
      exact hb _
    · rw [if_neg z] at h
      exact (upk_b (sB_lt bi _) h).2 j
def okP (bi : Nat → Nat) (n i : Nat) : Prop := 1 ≤ mlA bi i ∧ (8192 ≤ mlA bi i ∨ n ≤ i + 1)
def lnA (bi : Nat → Nat) : Nat → Nat
  | 0 => 0
  | k + 1 => 8192 * k + mlA bi k
def rwA (bi : Nat → Nat) (x : Nat) : Nat := oA bi (x / 8192) (x % 8192)
theorem rwA_i {bi : Nat → Nat} {i j : Nat} (h : j < 8192) : rwA bi (8192 * i + j) = oA bi i j := by
  unfold rwA
  rw [show (8192 * i + j) / 8192 = i by omega, show (8192 * i + j) % 8192 = j by omega]
def RdN (bi : Nat → Nat) (n e : Nat) : Prop := e ≤ n ∧ (∀ i, i < e → okP bi n i) ∧ (e = n ∨ ¬ okP bi n e)
theorem rd_ex (bi : Nat → Nat) (n : Nat) : ∃ e, RdN bi n e := by
  have key : ∀ k, k ≤ n → (∃ e, RdN bi n e) ∨ (∀ i, i < k → okP bi n i) := by
    intro k
    induction k with
    | zero => intro _; exact Or.inr (fun i hi => absurd hi (by omega))
    | succ k ih =>
      intro hk
      rcases ih (by omega) with h | h
      · exact Or.inl h
      · by_cases o : okP bi n k
        · refine Or.inr (fun i hi => ?_)
          by_cases e2 : i = k
          · subst e2; exact o
          · exact h i (by omega)
        · exact Or.inl ⟨k, by omega, h, Or.inr o⟩
  rcases key n (Nat.le_refl n) with h | h
  · exact h
  · exact ⟨n, Nat.le_refl n, h, Or.inl rfl⟩
theorem mlA_b {len n : Nat} {bi : Nat → Nat} (hb : ∀ i, bi i < 256) (hn : HdN len bi n) {i : Nat} (hi : i < n) : mlA bi i ≤ 8192 := by
  have o := (hn.1 i hi).2
  unfold okH at o
  cases h : pcA bi i with
  | none => rw [pcA_n h]; omega
  | some q =>
    obtain ⟨m, oo⟩ := q
    rw [(pcA_s h).1]
    exact (pcA_b hb (by omega) h).1
theorem ln_full {len n i : Nat} {bi : Nat → Nat} (hb : ∀ i, bi i < 256) (hn : HdN len bi n) (hP : ∀ j, j < i → okP bi n j) (hi : i < n) : lnA bi i = 8192 * i := by
  cases i with
  | zero => rfl
  | succ i =>
    show 8192 * i + mlA bi i = 8192 * (i + 1)
    have o := hP i (by omega)
    have b := mlA_b hb hn (i := i) (by omega)
    unfold okP at o
    omega
theorem sx_fit : ∀ n, n < 256 → fits .byte (.int (sx n)) = true := by decide +kernel
theorem t_addAll {c d : Nat → Int32} {bi : Nat → Nat} {len a L k ND NS : Nat} (h : Row c 0 len bi) (hlen : len ≤ NS) (hNS : NS ≤ 100000) (hND : ND ≤ 100000) (ha : a + k ≤ len) (hL : L + k ≤ ND) : Tt (Bytes_addAll 200000 ND NS (nI len) c (nI L) d (nI a) (nI k)) (fun u => u.2.1 = nI (L + k) ∧ ∀ i, u.2.2 i = if L ≤ i ∧ i < L + k then sx (bi (a + (i - L))) else d i) := by
  unfold Bytes_addAll
  refine Tt_n (nI_pos (by omega)) (Tt_n (nI_pos (by omega)) ?_)
  rw [pk_sub (by omega)]
  refine Tt_n (by rw [nI_ltI (by omega) (by omega)]; omega) ?_
  unfold Bytes_addAll_23
  rw [pk_sub (by omega)]
  refine Tt_n (by decide) (Tt_n (by rw [nI_ltI (by omega) (by omega)]; omega) (Tt_A.2 ⟨?_, Tt_l (Tt_l (Tt_Si ⟨nI_add _ _, fun i => ?_⟩))⟩))
  · rw [nI_clamp (by omega), nI_clamp (by omega), nI_clamp (by omega)]
    refine ⟨nI_pos (by omega), nI_pos (by omega), nI_pos (by omega), by omega, hL, fun i hi => ?_⟩
    have := h.1 (a + i) (by omega)
    rw [Nat.zero_add] at this
    rw [this]
    exact sx_fit _ (h.2 _)
  · dsimp only
    rw [nI_clamp (by omega), nI_clamp (by omega), nI_clamp (by omega)]
    unfold va_cpy
    by_cases z : L ≤ i ∧ i < L + k
    · rw [if_pos z, if_pos z]
      have := h.1 (a + (i - L)) (by omega)
      rw [Nat.zero_add] at this
      exact this
    · rw [if_neg z, if_neg z]
abbrev RcT := Int32 × Int32 × (Nat → Int32) × Int32 × Int32 × Int32 × Int32 × (Nat → Int32) × (Nat → Int32) × (Nat → Int32) × (Nat → Int32) × (Nat → Int32) × (Nat → Int32) × (Nat → Int32) × (Nat → Int32) × (Nat → Int32) × (Nat → Int32)
def QC (bi : Nat → Nat) (n e : Nat) (u : RcT) : Prop := ∃ kl, kl ≤ 65536 ∧ u.2.1 = nI kl ∧ ((n ≤ 8 ∧ e = n) → u.1 = nI 1 ∧ kl = lnA bi n ∧ ∀ x, x < lnA bi n → u.2.2.1 x = sx (rwA bi x)) ∧ (¬ (n ≤ 8 ∧ e = n) → u.1 = nI 0)
theorem QC_0 {bi : Nat → Nat} {n e kl : Nat} {d : Nat → Int32} {r : Int32 × Int32 × Int32 × Int32 × (Nat → Int32) × (Nat → Int32) × (Nat → Int32) × (Nat → Int32) × (Nat → Int32) × (Nat → Int32) × (Nat → Int32) × (Nat → Int32) × (Nat → Int32) × (Nat → Int32)} (h1 : kl ≤ 65536) (h : ¬ (n ≤ 8 ∧ e = n)) : QC bi n e (nI 0, nI kl, d, r) := ⟨kl, h1, rfl, fun k => absurd k h, fun _ => rfl⟩
theorem t_readC {c ks d cF yF cG yG : Nat → Int32} {vos vfa vat ven : Int32} {cl y1 c1 o1 y2 c2 o2 y3 c3 o3 : Nat → Int32} {bi : Nat → Nat} {len n e N1 : Nat} (h : Row c 0 len bi) (hlen : len ≤ 66000) (hn : HdN len bi n) (hst : stA bi n = len) (he : RdN bi n e) (hks : ∀ i, i < n → i < 8 → ks i = nI (stA bi i)) (hN : 19 ≤ N1) (hN' : N1 ≤ 288) (hF : TabOK cF yF lF 288) (hG : TabOK cG yG l5 32) : Tt (P_readPieces 200000 66000 65536 288 32 N1 288 32 ks (nI len) c cF yF cG yG (nI 0) d vos vfa vat ven cl y1 c1 o1 y2 c2 o2 y3 c3 o3 (nI n)) (QC bi n e) := by
  have hb := st_b n hn.1
  unfold P_readPieces
  by_cases n8 : n ≤ 8
  · refine Tt_p (by first | decide | (simp (disch := omega) only [i_0, i_1, i_2, i_3, i_4, i_5, i_6, i_7, i_8, i_9, i_10, i_11, i_13, i_14, i_15, i_16, i_17, i_18, i_19, i_24, i_29, i_30, i_31, i_32, i_138, i_143, i_144, i_254, i_255, i_256, i_257, i_258, i_261, i_264, i_265, i_279, i_280, i_284, i_285, i_286, i_288, i_319, i_320, i_338, i_339, i_575, i_576, i_599, i_600, i_4096, i_8191, i_8192, i_8249, i_8250, i_8256, i_9000, i_16384, i_32767, i_32768, i_65520, i_65521, i_65535, i_65536, i_65999, i_66000, i_1300, i_120, i_156, nI_leI, nI_ltI, nI_eq, nI_add, n_neg, not_false_eq_true, not_true_eq_false] <;> omega)) ?_
    refine Tt_W17 (fun mm vl d _ _ _ _ _ _ _ _ _ _ _ _ _ _ x2 => ∃ i, x2 = nI i ∧ i ≤ e ∧ mm = n - i ∧ vl = nI (lnA bi i) ∧ ∀ x, x < lnA bi i → d x = sx (rwA bi x)) ?_ 200000 n _ _ _ _ _ _ _ _ _ _ _ _ _ _ _ _ _ (by omega) ⟨0, rfl, by omega, by omega, rfl, fun x hx => absurd hx (by show ¬ x < 0; omega)⟩
    rintro K mm vl d vos vfa vat ven cl y1 c1 o1 y2 c2 o2 y3 c3 o3 x2 ⟨i, rfl, hie, rfl, rfl, hd⟩ ih
    unfold P_readPieces_10
    by_cases z : n ≤ i
    · have ein : i = n := by have := he.1; omega
      subst ein
      have ee : e = i := by have := he.1; omega
      refine Tt_p (by first | decide | (simp (disch := omega) only [i_0, i_1, i_2, i_3, i_4, i_5, i_6, i_7, i_8, i_9, i_10, i_11, i_13, i_14, i_15, i_16, i_17, i_18, i_19, i_24, i_29, i_30, i_31, i_32, i_138, i_143, i_144, i_254, i_255, i_256, i_257, i_258, i_261, i_264, i_265, i_279, i_280, i_284, i_285, i_286, i_288, i_319, i_320, i_338, i_339, i_575, i_576, i_599, i_600, i_4096, i_8191, i_8192, i_8249, i_8250, i_8256, i_9000, i_16384, i_32767, i_32768, i_65520, i_65521, i_65535, i_65536, i_65999, i_66000, i_1300, i_120, i_156, nI_leI, nI_ltI, nI_eq, nI_add, n_neg, not_false_eq_true, not_true_eq_false] <;> omega)) (Tt_Si ⟨lnA bi i, ?_, rfl, fun _ => ⟨rfl, rfl, hd⟩, fun k => absurd ⟨n8, ee⟩ k⟩)
      cases i with
      | zero => exact Nat.zero_le _
      | succ j =>
        show 8192 * j + mlA bi j ≤ 65536
        have := mlA_b h.2 hn (i := j) (by omega)
        omega
    · have full := ln_full h.2 hn (fun j hj => he.2.1 j (by omega)) (i := i) (by omega)
      have oH := hn.1 i (by omega)
      obtain ⟨hsl, j1, j2, j3, j4⟩ := oH
      have hA := hdA_lt h.2 (stA bi i)
      have el : ∀ v, Bytes_length 200000 v = some (v, ()) := fun _ => rfl
      rw [full] at hd ⊢
      have e2 : nI (stA bi i) + 2 = nI (stA bi i + 2) := nI_add _ 2
      refine Tt_n (by first | decide | (simp (disch := omega) only [i_0, i_1, i_2, i_3, i_4, i_5, i_6, i_7, i_8, i_9, i_10, i_11, i_13, i_14, i_15, i_16, i_17, i_18, i_19, i_24, i_29, i_30, i_31, i_32, i_138, i_143, i_144, i_254, i_255, i_256, i_257, i_258, i_261, i_264, i_265, i_279, i_280, i_284, i_285, i_286, i_288, i_319, i_320, i_338, i_339, i_575, i_576, i_599, i_600, i_4096, i_8191, i_8192, i_8249, i_8250, i_8256, i_9000, i_16384, i_32767, i_32768, i_65520, i_65521, i_65535, i_65536, i_65999, i_66000, i_1300, i_120, i_156, nI_leI, nI_ltI, nI_eq, nI_add, n_neg, not_false_eq_true, not_true_eq_false] <;> omega)) (Tt_R0.2 (Tt_o (el _) ?_))
      dsimp only
      refine Tt_g (by omega) (by omega) (Tt_l ?_)
      rw [nI_clamp (by omega), hks i (by omega) (by omega), e2]
      refine Tt_g (by omega) (by omega) (Tt_l (Tt_R0.2 (Tt_m (t_headC h hlen (x := stA bi i) (by omega)) ?_)))
      rintro _ rfl
      dsimp only
      rw [if_pos (show stA bi i + 1 < len by omega)]
      have eh : bi (stA bi i) + 256 * bi (stA bi i + 1) = hdA bi (stA bi i) := rfl
      rw [eh]
      have fin : ∀ m o vl' d' vos vfa vat ven cl y1 c1 o1 y2 c2 o2 y3 c3 o3, pcA bi i = some (m, o) → OutC vl' d' (8192 * i) m o d → Tt (P_readPieces_92 200000 (nI n) K vl' d' vos vfa vat ven cl y1 c1 o1 y2 c2 o2 y3 c3 o3 (nI i) (nI (8192 * i))) (QC bi n e) := by
        intro m o vl' d' vos vfa vat ven cl y1 c1 o1 y2 c2 o2 y3 c3 o3 hpc hO
        have pm := pcA_s hpc
        have pb := pcA_b h.2 j3 hpc
        obtain ⟨rfl, hO1, hO2⟩ := hO
        unfold P_readPieces_92
        refine Tt_R0.2 (Tt_o (el _) (Tt_l ?_))
        dsimp only
        rw [pk_sub (by omega), show 8192 * i + m - 8192 * i = m by omega]
        by_cases ok : okP bi n i
        · have ok' := ok
          unfold okP at ok'
          rw [pm.1] at ok'
          have lt : i < e := by
            rcases he.2.2 with q | q
            · omega
            · rcases (show i < e ∨ i = e by omega) with w | w
              · exact w
              · rw [← w] at q
                exact absurd ok q
          have go : Tt (P_readPieces_126 200000 K (nI (8192 * i + m)) d' vos vfa vat ven cl y1 c1 o1 y2 c2 o2 y3 c3 o3 (nI i)) (QC bi n e) := by
            unfold P_readPieces_126
            refine Tt_l ?_
            rw [nI_1]
            refine ih (n - (i + 1)) _ _ _ _ _ _ _ _ _ _ _ _ _ _ _ _ _ (by omega) ⟨i + 1, rfl, lt, rfl, ?_, fun x hx => ?_⟩
            · show _ = nI (8192 * i + mlA bi i)
              rw [pm.1]
            · have hx : x < 8192 * i + mlA bi i := hx
              rw [pm.1] at hx
              by_cases w : x < 8192 * i
              · rw [hO1 x w]
                exact hd x w
              · have := hO2 (x - 8192 * i) (by omega)
                rw [show 8192 * i + (x - 8192 * i) = x by omega] at this
                rw [this]
                have e5 := @rwA_i bi i (x - 8192 * i) (by omega)
                rw [show 8192 * i + (x - 8192 * i) = x by omega] at e5
                rw [e5, pm.2]
          refine Tt_n (by first | decide | (simp (disch := omega) only [i_0, i_1, i_2, i_3, i_4, i_5, i_6, i_7, i_8, i_9, i_10, i_11, i_13, i_14, i_15, i_16, i_17, i_18, i_19, i_24, i_29, i_30, i_31, i_32, i_138, i_143, i_144, i_254, i_255, i_256, i_257, i_258, i_261, i_264, i_265, i_279, i_280, i_284, i_285, i_286, i_288, i_319, i_320, i_338, i_339, i_575, i_576, i_599, i_600, i_4096, i_8191, i_8192, i_8249, i_8250, i_8256, i_9000, i_16384, i_32767, i_32768, i_65520, i_65521, i_65535, i_65536, i_65999, i_66000, i_1300, i_120, i_156, nI_leI, nI_ltI, nI_eq, nI_add, n_neg, not_false_eq_true, not_true_eq_false] <;> omega)) ?_
          by_cases w : 8192 ≤ m
          · exact Tt_p (by first | decide | (simp (disch := omega) only [i_0, i_1, i_2, i_3, i_4, i_5, i_6, i_7, i_8, i_9, i_10, i_11, i_13, i_14, i_15, i_16, i_17, i_18, i_19, i_24, i_29, i_30, i_31, i_32, i_138, i_143, i_144, i_254, i_255, i_256, i_257, i_258, i_261, i_264, i_265, i_279, i_280, i_284, i_285, i_286, i_288, i_319, i_320, i_338, i_339, i_575, i_576, i_599, i_600, i_4096, i_8191, i_8192, i_8249, i_8250, i_8256, i_9000, i_16384, i_32767, i_32768, i_65520, i_65521, i_65535, i_65536, i_65999, i_66000, i_1300, i_120, i_156, nI_leI, nI_ltI, nI_eq, nI_add, n_neg, not_false_eq_true, not_true_eq_false] <;> omega)) go
          · have e6 : nI n - 1 = nI (n - 1) := n_pred (by omega)
            rw [e6]
            exact Tt_n (by first | decide | (simp (disch := omega) only [i_0, i_1, i_2, i_3, i_4, i_5, i_6, i_7, i_8, i_9, i_10, i_11, i_13, i_14, i_15, i_16, i_17, i_18, i_19, i_24, i_29, i_30, i_31, i_32, i_138, i_143, i_144, i_254, i_255, i_256, i_257, i_258, i_261, i_264, i_265, i_279, i_280, i_284, i_285, i_286, i_288, i_319, i_320, i_338, i_339, i_575, i_576, i_599, i_600, i_4096, i_8191, i_8192, i_8249, i_8250, i_8256, i_9000, i_16384, i_32767, i_32768, i_65520, i_65521, i_65535, i_65536, i_65999, i_66000, i_1300, i_120, i_156, nI_leI, nI_ltI, nI_eq, nI_add, n_neg, not_false_eq_true, not_true_eq_false] <;> omega)) (Tt_p (by first | decide | (simp (disch := omega) only [i_0, i_1, i_2, i_3, i_4, i_5, i_6, i_7, i_8, i_9, i_10, i_11, i_13, i_14, i_15, i_16, i_17, i_18, i_19, i_24, i_29, i_30, i_31, i_32, i_138, i_143, i_144, i_254, i_255, i_256, i_257, i_258, i_261, i_264, i_265, i_279, i_280, i_284, i_285, i_286, i_288, i_319, i_320, i_338, i_339, i_575, i_576, i_599, i_600, i_4096, i_8191, i_8192, i_8249, i_8250, i_8256, i_9000, i_16384, i_32767, i_32768, i_65520, i_65521, i_65535, i_65536, i_65999, i_66000, i_1300, i_120, i_156, nI_leI, nI_ltI, nI_eq, nI_add, n_neg, not_false_eq_true, not_true_eq_false] <;> omega)) go)
        · have ne : ¬ (n ≤ 8 ∧ e = n) := by
            rintro ⟨_, q⟩
            exact ok (he.2.1 i (by omega))
          unfold okP at ok
          rw [pm.1] at ok
          by_cases w : m < 1
          · exact Tt_p (by first | decide | (simp (disch := omega) only [i_0, i_1, i_2, i_3, i_4, i_5, i_6, i_7, i_8, i_9, i_10, i_11, i_13, i_14, i_15, i_16, i_17, i_18, i_19, i_24, i_29, i_30, i_31, i_32, i_138, i_143, i_144, i_254, i_255, i_256, i_257, i_258, i_261, i_264, i_265, i_279, i_280, i_284, i_285, i_286, i_288, i_319, i_320, i_338, i_339, i_575, i_576, i_599, i_600, i_4096, i_8191, i_8192, i_8249, i_8250, i_8256, i_9000, i_16384, i_32767, i_32768, i_65520, i_65521, i_65535, i_65536, i_65999, i_66000, i_1300, i_120, i_156, nI_leI, nI_ltI, nI_eq, nI_add, n_neg, not_false_eq_true, not_true_eq_false] <;> omega)) (Tt_Si (QC_0 (by omega) ne))
          · have e6 : nI n - 1 = nI (n - 1) := n_pred (by omega)
            rw [e6]
            exact Tt_n (by first | decide | (simp (disch := omega) only [i_0, i_1, i_2, i_3, i_4, i_5, i_6, i_7, i_8, i_9, i_10, i_11, i_13, i_14, i_15, i_16, i_17, i_18, i_19, i_24, i_29, i_30, i_31, i_32, i_138, i_143, i_144, i_254, i_255, i_256, i_257, i_258, i_261, i_264, i_265, i_279, i_280, i_284, i_285, i_286, i_288, i_319, i_320, i_338, i_339, i_575, i_576, i_599, i_600, i_4096, i_8191, i_8192, i_8249, i_8250, i_8256, i_9000, i_16384, i_32767, i_32768, i_65520, i_65521, i_65535, i_65536, i_65999, i_66000, i_1300, i_120, i_156, nI_leI, nI_ltI, nI_eq, nI_add, n_neg, not_false_eq_true, not_true_eq_false] <;> omega)) (Tt_n (by first | decide | (simp (disch := omega) only [i_0, i_1, i_2, i_3, i_4, i_5, i_6, i_7, i_8, i_9, i_10, i_11, i_13, i_14, i_15, i_16, i_17, i_18, i_19, i_24, i_29, i_30, i_31, i_32, i_138, i_143, i_144, i_254, i_255, i_256, i_257, i_258, i_261, i_264, i_265, i_279, i_280, i_284, i_285, i_286, i_288, i_319, i_320, i_338, i_339, i_575, i_576, i_599, i_600, i_4096, i_8191, i_8192, i_8249, i_8250, i_8256, i_9000, i_16384, i_32767, i_32768, i_65520, i_65521, i_65535, i_65536, i_65999, i_66000, i_1300, i_120, i_156, nI_leI, nI_ltI, nI_eq, nI_add, n_neg, not_false_eq_true, not_true_eq_false] <;> omega)) (Tt_n (by first | decide | (simp (disch := omega) only [i_0, i_1, i_2, i_3, i_4, i_5, i_6, i_7, i_8, i_9, i_10, i_11, i_13, i_14, i_15, i_16, i_17, i_18, i_19, i_24, i_29, i_30, i_31, i_32, i_138, i_143, i_144, i_254, i_255, i_256, i_257, i_258, i_261, i_264, i_265, i_279, i_280, i_284, i_285, i_286, i_288, i_319, i_320, i_338, i_339, i_575, i_576, i_599, i_600, i_4096, i_8191, i_8192, i_8249, i_8250, i_8256, i_9000, i_16384, i_32767, i_32768, i_65520, i_65521, i_65535, i_65536, i_65999, i_66000, i_1300, i_120, i_156, nI_leI, nI_ltI, nI_eq, nI_add, n_neg, not_false_eq_true, not_true_eq_false] <;> omega)) (Tt_Si (QC_0 (by omega) ne))))
      by_cases y : 32768 ≤ hdA bi (stA bi i)
      · have hpc : pcA bi i = some (hnA bi (stA bi i), fun j => bi (stA bi i + 2 + j)) := if_pos y
        refine Tt_n (by first | decide | (simp (disch := omega) only [i_0, i_1, i_2, i_3, i_4, i_5, i_6, i_7, i_8, i_9, i_10, i_11, i_13, i_14, i_15, i_16, i_17, i_18, i_19, i_24, i_29, i_30, i_31, i_32, i_138, i_143, i_144, i_254, i_255, i_256, i_257, i_258, i_261, i_264, i_265, i_279, i_280, i_284, i_285, i_286, i_288, i_319, i_320, i_338, i_339, i_575, i_576, i_599, i_600, i_4096, i_8191, i_8192, i_8249, i_8250, i_8256, i_9000, i_16384, i_32767, i_32768, i_65520, i_65521, i_65535, i_65536, i_65999, i_66000, i_1300, i_120, i_156, nI_leI, nI_ltI, nI_eq, nI_add, n_neg, not_false_eq_true, not_true_eq_false] <;> omega)) (Tt_R0.2 (Tt_o (e_told _) ?_))
        dsimp only
        have e7 : hdA bi (stA bi i) % 32768 = hnA bi (stA bi i) := rfl
        rw [e7]
        refine Tt_R2.2 (Tt_m (t_addAll h hlen (by omega) (by omega) (a := stA bi i + 2) (L := 8192 * i) (k := hnA bi (stA bi i)) (by omega) (by omega)) ?_)
        rintro ⟨_, vl', d'⟩ ⟨g1, g2⟩
        dsimp only at g1 g2 ⊢
        refine fin _ _ _ _ _ _ _ _ _ _ _ _ _ _ _ _ _ _ hpc ⟨g1, fun j hj => ?_, fun j hj => ?_⟩
        · rw [g2 j, if_neg (by omega)]
        · rw [g2 (8192 * i + j), if_pos (by omega), show 8192 * i + j - 8192 * i = j by omega]
      · have hpc : pcA bi i = upk (sB bi (stA bi i + 2)) (8 * hnA bi (stA bi i)) := if_neg y
        refine Tt_p (by first | decide | (simp (disch := omega) only [i_0, i_1, i_2, i_3, i_4, i_5, i_6, i_7, i_8, i_9, i_10, i_11, i_13, i_14, i_15, i_16, i_17, i_18, i_19, i_24, i_29, i_30, i_31, i_32, i_138, i_143, i_144, i_254, i_255, i_256, i_257, i_258, i_261, i_264, i_265, i_279, i_280, i_284, i_285, i_286, i_288, i_319, i_320, i_338, i_339, i_575, i_576, i_599, i_600, i_4096, i_8191, i_8192, i_8249, i_8250, i_8256, i_9000, i_16384, i_32767, i_32768, i_65520, i_65521, i_65535, i_65536, i_65999, i_66000, i_1300, i_120, i_156, nI_leI, nI_ltI, nI_eq, nI_add, n_neg, not_false_eq_true, not_true_eq_false] <;> omega)) (Tt_R0.2 (Tt_o (e_told _) ?_))
        dsimp only
        have e7 : hdA bi (stA bi i) % 32768 = hnA bi (stA bi i) := rfl
        rw [e7]
        refine Tt_R16.2 (Tt_m (t_unpackC (L0 := 8192 * i) (B0 := rwA bi) (R := pcA bi i) ⟨h, hlen, by omega, by omega⟩ j3 (by omega) hN hN' hF hG hd (fun x => oA_b h.2 _ _) rfl rfl rfl rfl hpc.symm) ?_)
        rintro ⟨r25, vos, vfa, vat, ven, vl', d', cl, y1, c1, o1, y2, c2, o2', y3, c3, o3'⟩ hu
        dsimp only
        cases hp : pcA bi i with
        | none =>
          rw [hp] at hu
          obtain ⟨g1, m', g2, g3⟩ := hu
          dsimp only at g1 g3
          subst g1 g3
          refine Tt_p rfl (Tt_Si (QC_0 (by omega) ?_))
          rintro ⟨_, q⟩
          have := he.2.1 i (by omega)
          unfold okP at this
          rw [pcA_n hp] at this
          omega
        | some q =>
          obtain ⟨m, o⟩ := q
          rw [hp] at hu
          obtain ⟨g1, g2⟩ := hu
          dsimp only at g1 g2
          subst g1
          exact Tt_n (by decide) (fin m o _ _ _ _ _ _ _ _ _ _ _ _ _ _ _ _ hp g2)
  · exact Tt_n (by first | decide | (simp (disch := omega) only [i_0, i_1, i_2, i_3, i_4, i_5, i_6, i_7, i_8, i_9, i_10, i_11, i_13, i_14, i_15, i_16, i_17, i_18, i_19, i_24, i_29, i_30, i_31, i_32, i_138, i_143, i_144, i_254, i_255, i_256, i_257, i_258, i_261, i_264, i_265, i_279, i_280, i_284, i_285, i_286, i_288, i_319, i_320, i_338, i_339, i_575, i_576, i_599, i_600, i_4096, i_8191, i_8192, i_8249, i_8250, i_8256, i_9000, i_16384, i_32767, i_32768, i_65520, i_65521, i_65535, i_65536, i_65999, i_66000, i_1300, i_120, i_156, nI_leI, nI_ltI, nI_eq, nI_add, n_neg, not_false_eq_true, not_true_eq_false] <;> omega)) (Tt_Si (QC_0 (by omega) (fun k => n8 k.1)))
