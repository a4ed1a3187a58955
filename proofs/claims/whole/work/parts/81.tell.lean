/-! how a row of lengths is told: program and reference -/
abbrev Lg := Nat × (Nat → Nat) × (Nat → Nat)
def psh (L : Lg) (a b : Nat) : Lg := (L.1 + 1, (fun t => if t = L.1 then a else L.2.1 t), (fun t => if t = L.1 then b else L.2.2 t))
def wht (v left : Nat) : Nat := if left < 3 then v else if 0 < v then 16 else if left < 11 then 17 else 18
def tms (v left : Nat) : Nat := if left < 3 then 1 else if 0 < v then min 6 left else if left < 11 then left else min 138 left
def mor (v left : Nat) : Nat := if left < 3 then 0 else if 0 < v then tms v left - 3 else if left < 11 then left - 3 else tms v left - 11
def tls (v : Nat) : Nat → Nat → Lg → Lg
  | 0, _, L => L
  | fu + 1, left, L => if left = 0 then L else tls v fu (left - tms v left) (psh L (wht v left) (mor v left))
theorem tms_b {v left : Nat} (h : 0 < left) : 1 ≤ tms v left ∧ tms v left ≤ left := by
  unfold tms
  split
  · omega
  · split
    · omega
    · split <;> omega
theorem tls_f (v : Nat) : ∀ N fu left L, fu ≤ N → left ≤ fu → tls v fu left L = tls v left left L := by
  intro N
  induction N with
  | zero =>
    intro fu left L h1 h2
    have e1 : fu = 0 := by omega
    have e2 : left = 0 := by omega
    rw [e1, e2]
  | succ N ih =>
    intro fu left L h1 h2
    cases left with
    | zero =>
      cases fu with
      | zero => rfl
      | succ fu => rfl
    | succ l =>
      cases fu with
      | zero => omega
      | succ fu =>
        have b := @tms_b v (l + 1) (by omega)
        show tls v fu (l + 1 - tms v (l + 1)) (psh L (wht v (l + 1)) (mor v (l + 1))) = tls v l (l + 1 - tms v (l + 1)) (psh L (wht v (l + 1)) (mor v (l + 1)))
        rw [ih fu _ _ (by omega) (by omega), ih l _ _ (by omega) (by omega)]
theorem tls_s {v left : Nat} {L : Lg} (h : 0 < left) : tls v left left L = tls v (left - tms v left) (left - tms v left) (psh L (wht v left) (mor v left)) := by
  obtain ⟨l, rfl⟩ : ∃ l, left = l + 1 := ⟨left - 1, by omega⟩
  have b := @tms_b v (l + 1) (by omega)
  show tls v l (l + 1 - tms v (l + 1)) (psh L (wht v (l + 1)) (mor v (l + 1))) = _
  exact tls_f v l _ _ _ (Nat.le_refl l) (by omega)
theorem cn_psh (g : Nat → Nat) (a s S : Nat) : cn (fun t => if t = S then a else g t) s (S + 1) = cn g s S + (if a = s then 1 else 0) := by
  show cn (fun t => if t = S then a else g t) s S + (if (if S = S then a else g S) = s then 1 else 0) = _
  rw [if_pos rfl, @cn_ext g (fun t => if t = S then a else g t) s S S (Nat.le_refl S) (fun i hi => by rw [if_neg (by omega)]) (fun i a b => by omega)]
def rex (w : Nat) : Nat := if w = 16 then 2 else if w = 17 then 3 else if w = 18 then 7 else 0
def LgB (L : Lg) : Prop := ∀ t, t < L.1 → L.2.1 t < 19 ∧ L.2.2 t < 2 ^ rex (L.2.1 t)
theorem LgB_p {L : Lg} {a b : Nat} (h : LgB L) (ha : a < 19) (hb : b < 2 ^ rex a) : LgB (psh L a b) := by
  intro t ht
  have ht' : t < L.1 + 1 := ht
  show (if t = L.1 then a else L.2.1 t) < 19 ∧ (if t = L.1 then b else L.2.2 t) < 2 ^ rex (if t = L.1 then a else L.2.1 t)
  by_cases e : t = L.1
  · rw [if_pos e, if_pos e]; exact ⟨ha, hb⟩
  · rw [if_neg e, if_neg e]; exact h t (by omega)
def CT (tc : Int32) (told counts : Nat → Int32) (L : Lg) : Prop := tc = nI L.1 ∧ (∀ t, t < L.1 → told t = nI (L.2.1 t + 32 * L.2.2 t)) ∧ (∀ s, s < 19 → counts s = nI (cn L.2.1 s L.1)) ∧ LgB L
def RT (st : Int32) (step more counts c0 : Nat → Int32) (L : Lg) : Prop := st = nI L.1 ∧ (∀ t, t < L.1 → step t = nI (L.2.1 t) ∧ more t = nI (L.2.2 t)) ∧ (∀ s, s < 19 → counts (320 + s) = nI (cn L.2.1 s L.1)) ∧ (∀ j, j < 320 → counts j = c0 j) ∧ LgB L
theorem t_tellC {tc x1 x2 : Int32} {told counts : Nat → Int32} {L : Lg} {a b : Nat} (h : CT tc told counts L) (hL : L.1 < 320) (ha : a < 19) (hb : b < 2 ^ rex a) (h1 : x1 = nI a) (h2 : x2 = nI b) : Tt (Header_tell 200000 tc told counts x1 x2) (fun u => CT u.2.1 u.2.2.1 u.2.2.2 (psh L a b)) := by
  obtain ⟨rfl, h3, h4, h5⟩ := h
  subst h1 h2
  unfold Header_tell
  simp (disch := omega) only [Tt_L, Tt_S, Tt_C, Tt_Z, Tt_R0, Tt_R1, Tt_R2, Tt_R3, Tt_R4, Tt_R5, q10, eq_self, if_true, if_false, i_0, i_1, i_2, i_3, i_4, i_5, i_6, i_7, i_8, i_9, i_10, i_11, i_13, i_14, i_15, i_16, i_17, i_18, i_19, i_24, i_29, i_30, i_31, i_32, i_138, i_143, i_144, i_254, i_255, i_256, i_257, i_258, i_261, i_264, i_265, i_279, i_280, i_284, i_285, i_286, i_288, i_319, i_320, i_338, i_339, i_575, i_576, i_599, i_600, i_4096, i_8191, i_8192, i_8249, i_8250, i_8256, i_9000, i_16384, i_32767, i_32768, i_65520, i_65521, i_65535, i_65536, i_65999, i_66000, i_1300, i_120, i_156, nI_leI, n_neg, pk_mul, nI_add, Tt_N, nI_clamp]
  rw [if_neg (by omega), if_neg (by omega)]
  refine ⟨hL, ha, ha, rfl, fun t ht => ?_, fun s hs => ?_, LgB_p h5 ha hb⟩
  · have ht' : t < L.1 + 1 := ht
    show _ = nI ((if t = L.1 then a else L.2.1 t) + 32 * (if t = L.1 then b else L.2.2 t))
    by_cases e : t = L.1
    · rw [e, pk_us, if_pos rfl, if_pos rfl]
    · rw [pk_un e, if_neg e, if_neg e]; exact h3 t (by omega)
  · show _ = nI (cn (fun t => if t = L.1 then a else L.2.1 t) s (L.1 + 1))
    rw [cn_psh]
    by_cases e : s = a
    · rw [← e, pk_us, if_pos rfl, h4 s hs]; exact nI_1 _
    · rw [pk_un e, if_neg (fun q => e q.symm), h4 s hs]; rfl
theorem t_tellM {st x1 x2 : Int32} {step more counts c0 : Nat → Int32} {L : Lg} {a b : Nat} (h : RT st step more counts c0 L) (hL : L.1 < 320) (ha : a < 19) (hb : b < 2 ^ rex a) (h1 : x1 = nI a) (h2 : x2 = nI b) : Tt (M_tell 200000 st step more counts x1 x2) (fun u => RT u.2.1 u.2.2.1 u.2.2.2.1 u.2.2.2.2 c0 (psh L a b)) := by
  obtain ⟨rfl, h3, h4, h6, h5⟩ := h
  subst h1 h2
  unfold M_tell
  simp (disch := omega) only [Tt_L, Tt_S, Tt_C, Tt_Z, Tt_R0, Tt_R1, Tt_R2, Tt_R3, Tt_R4, Tt_R5, q10, eq_self, if_true, if_false, i_0, i_1, i_2, i_3, i_4, i_5, i_6, i_7, i_8, i_9, i_10, i_11, i_13, i_14, i_15, i_16, i_17, i_18, i_19, i_24, i_29, i_30, i_31, i_32, i_138, i_143, i_144, i_254, i_255, i_256, i_257, i_258, i_261, i_264, i_265, i_279, i_280, i_284, i_285, i_286, i_288, i_319, i_320, i_338, i_339, i_575, i_576, i_599, i_600, i_4096, i_8191, i_8192, i_8249, i_8250, i_8256, i_9000, i_16384, i_32767, i_32768, i_65520, i_65521, i_65535, i_65536, i_65999, i_66000, i_1300, i_120, i_156, nI_add, Tt_N, nI_clamp]
  refine ⟨hL, hL, by omega, by omega, rfl, fun t ht => ?_, fun s hs => ?_, fun j hj => ?_, LgB_p h5 ha hb⟩
  · have ht' : t < L.1 + 1 := ht
    show _ = nI (if t = L.1 then a else L.2.1 t) ∧ _ = nI (if t = L.1 then b else L.2.2 t)
    by_cases e : t = L.1
    · rw [e, pk_us, pk_us, if_pos rfl, if_pos rfl]; exact ⟨rfl, rfl⟩
    · rw [pk_un e, pk_un e, if_neg e, if_neg e]; exact h3 t (by omega)
  · show _ = nI (cn (fun t => if t = L.1 then a else L.2.1 t) s (L.1 + 1))
    rw [cn_psh]
    by_cases e : s = a
    · rw [← e, pk_us, if_pos rfl, h4 s hs]; exact nI_1 _
    · rw [pk_un (by omega), if_neg (fun q => e q.symm), h4 s hs]; rfl
  · rw [pk_un (by omega)]; exact h6 j hj
def rb (w : Nat) : Nat := if w < 16 then 1 else if w = 18 then 11 else 3
theorem y_rb : ∀ w, w < 19 → P_repeatBase 200000 (nI w) = some (nI (rb w), ()) := by decide +kernel
abbrev HtR := Option (Unit × Int32 × (Nat → Int32) × (Nat → Int32))
theorem t_90 {tc x3 x4 s0 : Int32} {told counts : Nat → Int32} {L : Lg} {left w mx : Nat} {K : Int32 → (Nat → Int32) → (Nat → Int32) → Int32 → HtR} {Q : Unit × Int32 × (Nat → Int32) × (Nat → Int32) → Prop} (h : CT tc told counts L) (hL : L.1 < 320) (hw : w < 19) (h3 : x3 = nI left) (h4 : x4 = nI w) (h0 : s0 = nI mx) (hl : left ≤ 320) (hmx : mx ≤ 138) (hr : rb w ≤ min mx left) (hb : min mx left - rb w < 2 ^ rex w) (hK : ∀ tc2 told2 counts2, CT tc2 told2 counts2 (psh L w (min mx left - rb w)) → Tt (K tc2 told2 counts2 (nI (left - min mx left))) Q) : Tt (Header_tellStretch_90 200000 K tc told counts x3 x4 s0) Q := by
  subst h3 h4 h0
  have e1 : (if nI mx < nI left then nI mx else nI left) = nI (min mx left) := by
    by_cases z : mx < left
    · rw [if_pos (by rw [nI_ltI (by omega) (by omega)]; exact z)]; congr 1; omega
    · rw [if_neg (by rw [nI_ltI (by omega) (by omega)]; exact z)]; congr 1; omega
  unfold Header_tellStretch_90
  simp only [Tt_L, e1, y_rb w hw, Tt_R0, Tt_S, Tt_R3]
  rw [pk_sub hr]
  refine Tt_m (t_tellC h hL hw hb rfl rfl) ?_
  rintro ⟨_, tc2, told2, counts2⟩ h2
  rw [pk_sub (by omega)]
  exact hK _ _ _ h2
theorem t_stretch15 {tc x1 x3 : Int32} {told counts : Nat → Int32} {L : Lg} {left v : Nat} (h : CT tc told counts L) (hv : v ≤ 15) (hL : L.1 + left ≤ 320) (h1 : x1 = nI v) (h3 : x3 = nI left) : Tt (mW4 (Header_tellStretch_15 200000 x1) 200000 tc told counts x3) (fun u => CT u.2.1 u.2.2.1 u.2.2.2 (tls v left left L)) := by
  subst h1 h3
  refine Tt_W4 (fun mm tc told counts x3 => ∃ le L', x3 = nI le ∧ mm = le ∧ CT tc told counts L' ∧ L'.1 + le ≤ 320 ∧ tls v le le L' = tls v left left L) ?_ 200000 left tc told counts (nI left) (by omega) ⟨left, L, rfl, rfl, h, hL, rfl⟩
  rintro K mm tc told counts x3 ⟨le, L', rfl, rfl, h', hL', hT⟩ ih
  unfold Header_tellStretch_15
  by_cases z : le = 0
  · subst z
    simp only [Tt_C]
    rw [if_pos (by decide), ← hT]
    exact h'
  · have ht := @tls_s v le L' (by omega)
    have tb := @tms_b v le (by omega)
    have step : ∀ w mx, w = wht v le → min mx le = tms v le → min mx le - rb w = mor v le → ∀ tc2 told2 counts2, CT tc2 told2 counts2 (psh L' w (min mx le - rb w)) → Tt (K tc2 told2 counts2 (nI (le - min mx le))) (fun u => CT u.2.1 u.2.2.1 u.2.2.2 (tls v left left L)) := by
      intro w mx e1 e2 e3 tc2 told2 counts2 h2
      refine ih (le - min mx le) _ _ _ _ (by omega) ⟨le - min mx le, _, rfl, rfl, h2, ?_, ?_⟩
      · show L'.1 + 1 + (le - min mx le) ≤ 320
        omega
      · rw [e3, e1, e2, ← ht]; exact hT
    unfold Header_tellStretch_50
    simp (disch := omega) only [Tt_C, i_0, i_1, i_2, i_3, i_4, i_5, i_6, i_7, i_8, i_9, i_10, i_11, i_13, i_14, i_15, i_16, i_17, i_18, i_19, i_24, i_29, i_30, i_31, i_32, i_138, i_143, i_144, i_254, i_255, i_256, i_257, i_258, i_261, i_264, i_265, i_279, i_280, i_284, i_285, i_286, i_288, i_319, i_320, i_338, i_339, i_575, i_576, i_599, i_600, i_4096, i_8191, i_8192, i_8249, i_8250, i_8256, i_9000, i_16384, i_32767, i_32768, i_65520, i_65521, i_65535, i_65536, i_65999, i_66000, i_1300, i_120, i_156, nI_leI, nI_eq]
    rw [if_neg (by omega)]
    by_cases y1 : 3 ≤ le
    · rw [if_pos y1]
      by_cases y2 : v ≤ 0
      · rw [if_pos y2]
        by_cases y3 : 11 ≤ le
        · rw [if_pos y3, if_pos (by omega), if_neg (by omega), if_neg (by omega)]
          have w1 : (18 : Nat) = wht v le := by unfold wht; rw [if_neg (by omega), if_neg (by omega), if_neg (by omega)]
          have w2 : min 138 le = tms v le := by unfold tms; rw [if_neg (by omega), if_neg (by omega), if_neg (by omega)]
          have w3 : min 138 le - rb 18 = mor v le := by
            unfold mor
            rw [if_neg (by omega), if_neg (by omega), if_neg (by omega), ← w2]
            rfl
          have r1 : rb 18 = 11 := rfl
          exact t_90 h' (by omega) (by omega) rfl rfl rfl (by omega) (by omega) (by omega) (by show _ < 128; omega) (step 18 138 w1 w2 w3)
        · rw [if_neg y3, if_pos (by omega), if_neg (by omega), if_pos rfl]
          have w1 : (17 : Nat) = wht v le := by unfold wht; rw [if_neg (by omega), if_neg (by omega), if_pos (by omega)]
          have w2 : min 10 le = tms v le := by unfold tms; rw [if_neg (by omega), if_neg (by omega), if_pos (by omega)]; omega
          have w3 : min 10 le - rb 17 = mor v le := by
            unfold mor
            rw [if_neg (by omega), if_neg (by omega), if_pos (by omega)]
            show min 10 le - 3 = le - 3
            omega
          have r1 : rb 17 = 3 := rfl
          exact t_90 h' (by omega) (by omega) rfl rfl rfl (by omega) (by omega) (by omega) (by show _ < 8; omega) (step 17 10 w1 w2 w3)
      · rw [if_neg y2, if_pos (by omega), if_pos rfl]
        have w1 : (16 : Nat) = wht v le := by unfold wht; rw [if_neg (by omega), if_pos (by omega)]
        have w2 : min 6 le = tms v le := by unfold tms; rw [if_neg (by omega), if_pos (by omega)]
        have w3 : min 6 le - rb 16 = mor v le := by
          unfold mor
          rw [if_neg (by omega), if_pos (by omega), ← w2]
          rfl
        have r1 : rb 16 = 3 := rfl
        exact t_90 h' (by omega) (by omega) rfl rfl rfl (by omega) (by omega) (by omega) (by show _ < 4; omega) (step 16 6 w1 w2 w3)
    · rw [if_neg y1, if_neg (by omega)]
      have r1 : rb v = 1 := if_pos (by omega)
      have w1 : v = wht v le := by unfold wht; rw [if_pos (by omega)]
      have w2 : min 1 le = tms v le := by unfold tms; rw [if_pos (by omega)]; omega
      have w3 : min 1 le - rb v = mor v le := by
        unfold mor
        rw [if_pos (by omega), r1]
        omega
      exact t_90 h' (by omega) (by omega) rfl rfl rfl (by omega) (by omega) (by omega) (Nat.lt_of_lt_of_le (show min 1 le - rb v < 1 by omega) (Nat.two_pow_pos _)) (step v 1 w1 w2 w3)
def tlv (v len : Nat) (L : Lg) : Lg := if 0 < v then tls v (len - 1) (len - 1) (psh L v 0) else tls v len len L
theorem t_stretch {tc x1 x2 : Int32} {told counts : Nat → Int32} {L : Lg} {len v : Nat} (h : CT tc told counts L) (hv : v ≤ 15) (hl : 1 ≤ len) (hL : L.1 + len ≤ 320) (h1 : x1 = nI v) (h2 : x2 = nI len) : Tt (Header_tellStretch 200000 tc told counts x1 x2) (fun u => CT u.2.1 u.2.2.1 u.2.2.2 (tlv v len L)) := by
  subst h1 h2
  unfold Header_tellStretch tlv
  by_cases z : v ≤ 0
  · simp (disch := omega) only [Tt_C, i_0, i_1, i_2, i_3, i_4, i_5, i_6, i_7, i_8, i_9, i_10, i_11, i_13, i_14, i_15, i_16, i_17, i_18, i_19, i_24, i_29, i_30, i_31, i_32, i_138, i_143, i_144, i_254, i_255, i_256, i_257, i_258, i_261, i_264, i_265, i_279, i_280, i_284, i_285, i_286, i_288, i_319, i_320, i_338, i_339, i_575, i_576, i_599, i_600, i_4096, i_8191, i_8192, i_8249, i_8250, i_8256, i_9000, i_16384, i_32767, i_32768, i_65520, i_65521, i_65535, i_65536, i_65999, i_66000, i_1300, i_120, i_156, nI_leI]
    rw [if_pos z, if_neg (by omega)]
    exact t_stretch15 h hv hL rfl rfl
  · simp (disch := omega) only [Tt_C, Tt_L, i_0, i_1, i_2, i_3, i_4, i_5, i_6, i_7, i_8, i_9, i_10, i_11, i_13, i_14, i_15, i_16, i_17, i_18, i_19, i_24, i_29, i_30, i_31, i_32, i_138, i_143, i_144, i_254, i_255, i_256, i_257, i_258, i_261, i_264, i_265, i_279, i_280, i_284, i_285, i_286, i_288, i_319, i_320, i_338, i_339, i_575, i_576, i_599, i_600, i_4096, i_8191, i_8192, i_8249, i_8250, i_8256, i_9000, i_16384, i_32767, i_32768, i_65520, i_65521, i_65535, i_65536, i_65999, i_66000, i_1300, i_120, i_156, nI_leI, n_dec2]
    rw [if_neg z, if_pos (by omega), Tt_R3]
    refine Tt_m (t_tellC h (by omega) (by omega) (Nat.two_pow_pos _) rfl rfl) ?_
    rintro ⟨_, tc2, told2, counts2⟩ h2
    refine t_stretch15 h2 hv ?_ rfl rfl
    show L.1 + 1 + (len - 1) ≤ 320
    omega
/-- how long one value goes on from k -/
def stl (f : Nat → Nat) (n k : Nat) : Nat := lcp f k (k + 1) (n - k - 1) + 1
theorem stl_e {f : Nat → Nat} {n k j : Nat} (hk : k < n) (h1 : 1 ≤ j) (h2 : k + j ≤ n) (h3 : ∀ i, i < j → f (k + i) = f k) (h4 : k + j = n ∨ f (k + j) ≠ f k) : stl f n k = j := by
  unfold stl
  have : lcp f k (k + 1) (n - k - 1) = j - 1 := by
    apply lcp_e
    refine ⟨by omega, fun s hs => ?_, ?_⟩
    · rw [h3 s (by omega), show k + 1 + s = k + (s + 1) by omega, h3 (s + 1) (by omega)]
    · rcases h4 with h4 | h4
      · left; omega
      · right
        rw [h3 (j - 1) (by omega), show k + 1 + (j - 1) = k + j by omega]
        exact fun q => h4 q.symm
  omega
def rws (f : Nat → Nat) (n : Nat) : Nat → Nat → Lg → Lg
  | 0, _, L => L
  | fu + 1, k, L => if n ≤ k then L else rws f n fu (k + stl f n k) (tlv (f k) (stl f n k) L)
theorem rws_f (f : Nat → Nat) (n : Nat) : ∀ N fu k L, fu ≤ N → n ≤ fu + k → rws f n fu k L = rws f n (n - k) k L := by
  intro N
  induction N with
  | zero =>
    intro fu k L h1 h2
    have e1 : fu = 0 := by omega
    have e2 : n - k = 0 := by omega
    rw [e1, e2]
  | succ N ih =>
    intro fu k L h1 h2
    by_cases z : n ≤ k
    · rw [show n - k = 0 by omega]
      cases fu with
      | zero => rfl
      | succ fu => exact if_pos z
    · obtain ⟨d, hd⟩ : ∃ d, n - k = d + 1 := ⟨n - k - 1, by omega⟩
      cases fu with
      | zero => omega
      | succ fu =>
        rw [hd]
        show (if n ≤ k then L else rws f n fu (k + stl f n k) (tlv (f k) (stl f n k) L)) = (if n ≤ k then L else rws f n d (k + stl f n k) (tlv (f k) (stl f n k) L))
        rw [if_neg z, if_neg z]
        have l1 : 1 ≤ stl f n k := by unfold stl; omega
        rw [ih fu _ _ (by omega) (by omega), ih d _ _ (by omega) (by omega)]
theorem rws_s {f : Nat → Nat} {n k : Nat} {L : Lg} (h : k < n) : rws f n (n - k) k L = rws f n (n - (k + stl f n k)) (k + stl f n k) (tlv (f k) (stl f n k) L) := by
  obtain ⟨d, hd⟩ : ∃ d, n - k = d + 1 := ⟨n - k - 1, by omega⟩
  rw [hd]
  show (if n ≤ k then L else rws f n d (k + stl f n k) (tlv (f k) (stl f n k) L)) = _
  rw [if_neg (by omega)]
  have l1 : 1 ≤ stl f n k := by unfold stl; omega
  exact rws_f f n d _ _ _ (Nat.le_refl d) (by omega)
theorem tls_n (v : Nat) : ∀ N left L, left ≤ N → (tls v left left L).1 ≤ L.1 + left := by
  intro N
  induction N with
  | zero =>
    intro left L h
    have : left = 0 := by omega
    subst this
    exact Nat.le_refl _
  | succ N ih =>
    intro left L h
    by_cases z : left = 0
    · subst z; exact Nat.le_refl _
    · rw [tls_s (by omega)]
      have tb := @tms_b v left (by omega)
      have := ih (left - tms v left) (psh L (wht v left) (mor v left)) (by omega)
      have e : (psh L (wht v left) (mor v left)).1 = L.1 + 1 := rfl
      omega
theorem tlv_n {v len : Nat} {L : Lg} (h : 1 ≤ len) : (tlv v len L).1 ≤ L.1 + len := by
  unfold tlv
  split
  · have := tls_n v (len - 1) (len - 1) (psh L v 0) (Nat.le_refl _)
    have e : (psh L v 0).1 = L.1 + 1 := rfl
    omega
  · exact tls_n v len len L (Nat.le_refl _)
/-- the whole row, told -/
def told (f : Nat → Nat) (n : Nat) : Lg := rws f n n 0 (0, fun _ => 0, fun _ => 0)
theorem t_tellRowC {tc rl : Int32} {row counts tld : Nat → Int32} {f : Nat → Nat} {n : Nat} (hrl : rl = nI n) (hn : n ≤ 320) (hrow : ∀ i, i < n → row i = nI (f i)) (hf : ∀ i, i < n → f i ≤ 15) : Tt (Header_tellRow 200000 rl row tc counts tld) (fun u => CT u.2.1 u.2.2.2 u.2.2.1 (told f n)) := by
  subst hrl
  unfold Header_tellRow
  rw [Tt_R1]
  refine Tt_m (t_fill (by omega)) ?_
  rintro ⟨_, c1⟩ hc1
  refine Tt_W4 (fun mm tc counts tld x1 => ∃ k L, x1 = nI k ∧ k ≤ n ∧ mm = n - k ∧ CT tc tld counts L ∧ L.1 ≤ k ∧ rws f n (n - k) k L = told f n) ?_ 200000 n 0 c1 tld 0 (by omega) ⟨0, (0, fun _ => 0, fun _ => 0), rfl, by omega, rfl, ⟨rfl, fun t ht => absurd ht (Nat.not_lt_zero t), fun s hs => by
    have := hc1 s
    rw [if_pos hs] at this
    exact this, fun t ht => absurd ht (Nat.not_lt_zero t)⟩, Nat.le_refl 0, rfl⟩
  rintro K mm tc counts tld x1 ⟨k, L, rfl, hk, rfl, hC, hLk, hT⟩ ih
  unfold Header_tellRow_15
  by_cases z : n ≤ k
  · simp (disch := omega) only [Tt_C, nI_leI]
    rw [if_pos z]
    rw [show n - k = 0 by omega] at hT
    have hT' : L = told f n := hT
    rw [← hT']
    exact hC
  · simp (disch := omega) only [Tt_C, i_0, i_1, i_2, i_3, i_4, i_5, i_6, i_7, i_8, i_9, i_10, i_11, i_13, i_14, i_15, i_16, i_17, i_18, i_19, i_24, i_29, i_30, i_31, i_32, i_138, i_143, i_144, i_254, i_255, i_256, i_257, i_258, i_261, i_264, i_265, i_279, i_280, i_284, i_285, i_286, i_288, i_319, i_320, i_338, i_339, i_575, i_576, i_599, i_600, i_4096, i_8191, i_8192, i_8249, i_8250, i_8256, i_9000, i_16384, i_32767, i_32768, i_65520, i_65521, i_65535, i_65536, i_65999, i_66000, i_1300, i_120, i_156, nI_leI]
    rw [if_neg z, if_neg (by omega)]
    have fk := hf k (by omega)
    have rk' := hrow k (by omega)
    refine Tt_W5 (fun mm tc' counts' tld' x1 x2 => tc' = tc ∧ counts' = counts ∧ tld' = tld ∧ x1 = nI k ∧ ∃ j, x2 = nI j ∧ 1 ≤ j ∧ k + j ≤ n ∧ mm = n - k - j ∧ ∀ i, i < j → f (k + i) = f k) ?_ 200000 (n - k - 1) _ _ _ _ _ (by omega) ⟨rfl, rfl, rfl, rfl, 1, rfl, by omega, by omega, rfl, fun i hi => by
      have : i = 0 := by omega
      rw [this, Nat.add_zero]⟩
    rintro K2 mm tc' counts' tld' x1 x2 ⟨rfl, rfl, rfl, rfl, j, rfl, hj, hkj, rfl, hall⟩ ih2
    have out : (k + j = n ∨ f (k + j) ≠ f k) → Tt (Header_tellRow_67 200000 row K tc' counts' tld' (nI k) (nI j)) (fun u => CT u.2.1 u.2.2.2 u.2.2.1 (told f n)) := by
      intro h4
      have es := stl_e (f := f) (n := n) (k := k) (j := j) (by omega) hj hkj hall h4
      unfold Header_tellRow_67
      rw [Tt_N (by omega), Tt_L, Tt_R3, nI_clamp (by omega)]
      refine ⟨by omega, ?_⟩
      refine Tt_m (t_stretch hC fk hj (by omega) rk' rfl) ?_
      rintro ⟨_, tc2, told2, counts2⟩ h2
      simp only [Tt_L, nI_add]
      have nn := @tlv_n (f k) j L hj
      refine ih (n - (k + j)) _ _ _ _ (by omega) ⟨k + j, tlv (f k) j L, rfl, hkj, rfl, h2, by omega, ?_⟩
      have := @rws_s f n k L (by omega)
      rw [es] at this
      rw [← this]
      exact hT
    unfold Header_tellRow_34
    by_cases y : n ≤ k + j
    · simp (disch := omega) only [Tt_C, nI_add, nI_leI]
      rw [if_pos y]
      exact out (Or.inl (by omega))
    · have rj := hrow (k + j) (by omega)
      have fj := hf (k + j) (by omega)
      simp (disch := omega) only [Tt_C, Tt_L, i_0, i_1, i_2, i_3, i_4, i_5, i_6, i_7, i_8, i_9, i_10, i_11, i_13, i_14, i_15, i_16, i_17, i_18, i_19, i_24, i_29, i_30, i_31, i_32, i_138, i_143, i_144, i_254, i_255, i_256, i_257, i_258, i_261, i_264, i_265, i_279, i_280, i_284, i_285, i_286, i_288, i_319, i_320, i_338, i_339, i_575, i_576, i_599, i_600, i_4096, i_8191, i_8192, i_8249, i_8250, i_8256, i_9000, i_16384, i_32767, i_32768, i_65520, i_65521, i_65535, i_65536, i_65999, i_66000, i_1300, i_120, i_156, nI_add, nI_leI, Tt_N, nI_clamp, rj, rk', nI_eq]
      rw [if_neg y]
      refine ⟨by omega, by omega, ?_⟩
      by_cases w : f (k + j) = f k
      · rw [if_pos w]
        refine ih2 (n - k - (j + 1)) _ _ _ _ _ (by omega) ⟨rfl, rfl, rfl, rfl, j + 1, rfl, by omega, by omega, rfl, fun i hi => ?_⟩
        by_cases e : i = j
        · rw [e]; exact w
        · exact hall i (by omega)
      · rw [if_neg w]
        exact out (Or.inr w)
/-! the reference -/
abbrev TrR := Option (Unit × Int32 × (Nat → Int32) × (Nat → Int32) × (Nat → Int32))
theorem t_tell173 {K7 : Int32 → (Nat → Int32) → (Nat → Int32) → (Nat → Int32) → Int32 → TrR} {Q : Unit × Int32 × (Nat → Int32) × (Nat → Int32) × (Nat → Int32) → Prop} {st x2 x3 x4 : Int32} {step more counts c0 : Nat → Int32} {v left : Nat} {L R : Lg} (h : RT st step more counts c0 L) (hv : v ≤ 15) (hl : left < 3) (hL : L.1 + left ≤ 320) (h3 : x3 = nI v) (h4 : x4 = nI left) (hR : tls v left left L = R) (hQ : ∀ st2 step2 more2 counts2, RT st2 step2 more2 counts2 c0 R → Tt (K7 st2 step2 more2 counts2 x2) Q) : Tt (mW7 (M_tellRow_173 200000 (M_tellRow_190 200000 K7)) 200000 st step more counts x2 x3 x4) Q := by
  subst h3 h4
  refine Tt_W7 (fun mm st step more counts y2 y3 x4 => y2 = x2 ∧ y3 = nI v ∧ ∃ le L', x4 = nI le ∧ mm = le ∧ le < 3 ∧ RT st step more counts c0 L' ∧ L'.1 + le ≤ 320 ∧ tls v le le L' = R) ?_ 200000 left _ _ _ _ _ _ _ (by omega) ⟨rfl, rfl, left, L, rfl, rfl, hl, h, hL, hR⟩
  rintro K mm st step more counts y2 y3 x4 ⟨rfl, rfl, le, L', rfl, rfl, hle, h', hL', hT⟩ ih
  unfold M_tellRow_173 M_tellRow_190
  by_cases z : le = 0
  · subst z
    simp only [Tt_C]
    rw [if_pos (by decide)]
    apply hQ
    rw [← hT]
    exact h'
  · simp (disch := omega) only [Tt_C, i_0, i_1, i_2, i_3, i_4, i_5, i_6, i_7, i_8, i_9, i_10, i_11, i_13, i_14, i_15, i_16, i_17, i_18, i_19, i_24, i_29, i_30, i_31, i_32, i_138, i_143, i_144, i_254, i_255, i_256, i_257, i_258, i_261, i_264, i_265, i_279, i_280, i_284, i_285, i_286, i_288, i_319, i_320, i_338, i_339, i_575, i_576, i_599, i_600, i_4096, i_8191, i_8192, i_8249, i_8250, i_8256, i_9000, i_16384, i_32767, i_32768, i_65520, i_65521, i_65535, i_65536, i_65999, i_66000, i_1300, i_120, i_156, nI_leI]
    rw [if_neg (by omega), Tt_R4]
    refine Tt_m (t_tellM h' (by omega) (a := v) (b := 0) (by omega) (Nat.two_pow_pos _) rfl rfl) ?_
    rintro ⟨_, st2, step2, more2, counts2⟩ h2
    simp (disch := omega) only [Tt_L, n_dec2]
    refine ih (le - 1) _ _ _ _ _ _ _ (by omega) ⟨rfl, rfl, le - 1, _, rfl, rfl, by omega, h2, ?_, ?_⟩
    · show L'.1 + 1 + (le - 1) ≤ 320
      omega
    · rw [← hT, @tls_s v le L' (by omega)]
      have w1 : wht v le = v := by unfold wht; rw [if_pos hle]
      have w2 : tms v le = 1 := by unfold tms; rw [if_pos hle]
      have w3 : mor v le = 0 := by unfold mor; rw [if_pos hle]
      rw [w1, w2, w3]
theorem t_tell67 {K7 : Int32 → (Nat → Int32) → (Nat → Int32) → (Nat → Int32) → Int32 → TrR} {Q : Unit × Int32 × (Nat → Int32) × (Nat → Int32) × (Nat → Int32) → Prop} {st x2 x3 x4 : Int32} {step more counts c0 : Nat → Int32} {v left : Nat} {L R : Lg} (h : RT st step more counts c0 L) (hv : v ≤ 15) (hL : L.1 + left ≤ 320) (h3 : x3 = nI v) (h4 : x4 = nI left) (hR : tls v left left L = R) (hQ : ∀ st2 step2 more2 counts2, RT st2 step2 more2 counts2 c0 R → Tt (K7 st2 step2 more2 counts2 x2) Q) : Tt (mW7 (M_tellRow_67 200000 (M_tellRow_150 200000 K7)) 200000 st step more counts x2 x3 x4) Q := by
  subst h3 h4
  refine Tt_W7 (fun mm st step more counts y2 y3 x4 => y2 = x2 ∧ y3 = nI v ∧ ∃ le L', x4 = nI le ∧ mm = le ∧ RT st step more counts c0 L' ∧ L'.1 + le ≤ 320 ∧ tls v le le L' = R) ?_ 200000 left _ _ _ _ _ _ _ (by omega) ⟨rfl, rfl, left, L, rfl, rfl, h, hL, hR⟩
  rintro K mm st step more counts y2 y3 x4 ⟨rfl, rfl, le, L', rfl, rfl, h', hL', hT⟩ ih
  have big : ∀ w mx bb, w = wht v le → min mx le = tms v le → min mx le - bb = mor v le → bb ≤ min mx le → min mx le - bb < 2 ^ rex w → w < 19 → 0 < le → mx ≤ 138 → ∀ (s1 s2 s3 x6 : Int32), s1 = nI w → s2 = nI (min mx le) → s3 = nI bb → x6 = nI (min mx le) → Tt (M_tellRow_136 200000 K st step more counts y2 (nI v) (nI le) x6 s1 s2 s3) Q := by
    intro w mx bb e1 e2 e3 e4 e5 e6 e7 e8 s1 s2 s3 x6 r1 r2 r3 r4
    subst r1 r2 r3 r4
    unfold M_tellRow_136
    simp only [Tt_L, Tt_R4]
    rw [pk_sub e4]
    refine Tt_m (t_tellM h' (by omega) e6 e5 rfl rfl) ?_
    rintro ⟨_, st2, step2, more2, counts2⟩ h2
    rw [pk_sub (by omega)]
    have tb := @tms_b v le e7
    refine ih (le - min mx le) _ _ _ _ _ _ _ (by omega) ⟨rfl, rfl, le - min mx le, _, rfl, rfl, h2, ?_, ?_⟩
    · show L'.1 + 1 + (le - min mx le) ≤ 320
      omega
    · rw [← hT, @tls_s v le L' e7, e3, e1, e2]
  unfold M_tellRow_67 M_tellRow_79
  simp (disch := omega) only [Tt_C, i_0, i_1, i_2, i_3, i_4, i_5, i_6, i_7, i_8, i_9, i_10, i_11, i_13, i_14, i_15, i_16, i_17, i_18, i_19, i_24, i_29, i_30, i_31, i_32, i_138, i_143, i_144, i_254, i_255, i_256, i_257, i_258, i_261, i_264, i_265, i_279, i_280, i_284, i_285, i_286, i_288, i_319, i_320, i_338, i_339, i_575, i_576, i_599, i_600, i_4096, i_8191, i_8192, i_8249, i_8250, i_8256, i_9000, i_16384, i_32767, i_32768, i_65520, i_65521, i_65535, i_65536, i_65999, i_66000, i_1300, i_120, i_156, nI_leI, nI_ltI]
  by_cases z : v ≤ 0
  · rw [if_pos z, if_pos z]
    by_cases y : le < 11
    · rw [if_pos y]
      unfold M_tellRow_150
      simp (disch := omega) only [Tt_C, Tt_L, i_0, i_1, i_2, i_3, i_4, i_5, i_6, i_7, i_8, i_9, i_10, i_11, i_13, i_14, i_15, i_16, i_17, i_18, i_19, i_24, i_29, i_30, i_31, i_32, i_138, i_143, i_144, i_254, i_255, i_256, i_257, i_258, i_261, i_264, i_265, i_279, i_280, i_284, i_285, i_286, i_288, i_319, i_320, i_338, i_339, i_575, i_576, i_599, i_600, i_4096, i_8191, i_8192, i_8249, i_8250, i_8256, i_9000, i_16384, i_32767, i_32768, i_65520, i_65521, i_65535, i_65536, i_65999, i_66000, i_1300, i_120, i_156, nI_eq, nI_ltI]
      rw [if_pos (by omega)]
      by_cases y3 : le < 3
      · rw [if_pos y3]
        exact t_tell173 h' hv y3 hL' rfl rfl hT hQ
      · rw [if_neg y3, pk_sub (by omega), Tt_R4]
        refine Tt_m (t_tellM h' (by omega) (a := 17) (b := le - 3) (by omega) (by show le - 3 < 8; omega) rfl rfl) ?_
        rintro ⟨_, st2, step2, more2, counts2⟩ h2
        refine t_tell173 h2 hv (left := 0) (by omega) ?_ rfl rfl ?_ hQ
        · show L'.1 + 1 + 0 ≤ 320
          omega
        · rw [← hT, @tls_s v le L' (by omega)]
          have w1 : wht v le = 17 := by unfold wht; rw [if_neg y3, if_neg (by omega), if_pos y]
          have w2 : tms v le = le := by unfold tms; rw [if_neg y3, if_neg (by omega), if_pos y]
          have w3 : mor v le = le - 3 := by unfold mor; rw [if_neg y3, if_neg (by omega), if_pos y]
          rw [w1, w2, w3, Nat.sub_self]
    · rw [if_neg y]
      unfold M_tellRow_94 M_tellRow_110 M_tellRow_124
      simp (disch := omega) only [Tt_C, i_0, i_1, i_2, i_3, i_4, i_5, i_6, i_7, i_8, i_9, i_10, i_11, i_13, i_14, i_15, i_16, i_17, i_18, i_19, i_24, i_29, i_30, i_31, i_32, i_138, i_143, i_144, i_254, i_255, i_256, i_257, i_258, i_261, i_264, i_265, i_279, i_280, i_284, i_285, i_286, i_288, i_319, i_320, i_338, i_339, i_575, i_576, i_599, i_600, i_4096, i_8191, i_8192, i_8249, i_8250, i_8256, i_9000, i_16384, i_32767, i_32768, i_65520, i_65521, i_65535, i_65536, i_65999, i_66000, i_1300, i_120, i_156, nI_leI]
      have w1 : (18 : Nat) = wht v le := by unfold wht; rw [if_neg (by omega), if_neg (by omega), if_neg y]
      have w2 : min 138 le = tms v le := by unfold tms; rw [if_neg (by omega), if_neg (by omega), if_neg y]
      have w3 : min 138 le - 11 = mor v le := by unfold mor; rw [if_neg (by omega), if_neg (by omega), if_neg y, ← w2]
      by_cases q : 138 ≤ le
      · rw [if_pos q, if_pos z, if_pos z]
        exact big 18 138 11 w1 w2 w3 (by omega) (by show _ < 128; omega) (by omega) (by omega) (by omega) _ _ _ _ rfl (by congr 1; omega) rfl (by congr 1; omega)
      · rw [if_neg q, if_pos z, if_pos z]
        exact big 18 138 11 w1 w2 w3 (by omega) (by show _ < 128; omega) (by omega) (by omega) (by omega) _ _ _ _ rfl (by congr 1; omega) rfl (by congr 1; omega)
  · rw [if_neg z, if_neg z]
    by_cases y : le < 3
    · rw [if_pos y]
      unfold M_tellRow_150
      simp (disch := omega) only [Tt_C, i_0, i_1, i_2, i_3, i_4, i_5, i_6, i_7, i_8, i_9, i_10, i_11, i_13, i_14, i_15, i_16, i_17, i_18, i_19, i_24, i_29, i_30, i_31, i_32, i_138, i_143, i_144, i_254, i_255, i_256, i_257, i_258, i_261, i_264, i_265, i_279, i_280, i_284, i_285, i_286, i_288, i_319, i_320, i_338, i_339, i_575, i_576, i_599, i_600, i_4096, i_8191, i_8192, i_8249, i_8250, i_8256, i_9000, i_16384, i_32767, i_32768, i_65520, i_65521, i_65535, i_65536, i_65999, i_66000, i_1300, i_120, i_156, nI_eq]
      rw [if_neg (by omega)]
      exact t_tell173 h' hv y hL' rfl rfl hT hQ
    · rw [if_neg y]
      unfold M_tellRow_94 M_tellRow_110 M_tellRow_124
      simp (disch := omega) only [Tt_C, i_0, i_1, i_2, i_3, i_4, i_5, i_6, i_7, i_8, i_9, i_10, i_11, i_13, i_14, i_15, i_16, i_17, i_18, i_19, i_24, i_29, i_30, i_31, i_32, i_138, i_143, i_144, i_254, i_255, i_256, i_257, i_258, i_261, i_264, i_265, i_279, i_280, i_284, i_285, i_286, i_288, i_319, i_320, i_338, i_339, i_575, i_576, i_599, i_600, i_4096, i_8191, i_8192, i_8249, i_8250, i_8256, i_9000, i_16384, i_32767, i_32768, i_65520, i_65521, i_65535, i_65536, i_65999, i_66000, i_1300, i_120, i_156, nI_leI]
      have w1 : (16 : Nat) = wht v le := by unfold wht; rw [if_neg (by omega), if_pos (by omega)]
      have w2 : min 6 le = tms v le := by unfold tms; rw [if_neg (by omega), if_pos (by omega)]
      have w3 : min 6 le - 3 = mor v le := by unfold mor; rw [if_neg (by omega), if_pos (by omega), ← w2]
      by_cases q : 6 ≤ le
      · rw [if_pos q, if_neg z, if_neg z]
        exact big 16 6 3 w1 w2 w3 (by omega) (by show _ < 4; omega) (by omega) (by omega) (by omega) _ _ _ _ rfl (by congr 1; omega) rfl (by congr 1; omega)
      · rw [if_neg q, if_neg z, if_neg z]
        exact big 16 6 3 w1 w2 w3 (by omega) (by show _ < 4; omega) (by omega) (by omega) (by omega) _ _ _ _ rfl (by congr 1; omega) rfl (by congr 1; omega)
theorem t_tellRowM {st x1 : Int32} {row step more counts c0 : Nat → Int32} {f : Nat → Nat} {n : Nat} (h1 : x1 = nI n) (hn : n ≤ 320) (hrow : ∀ i, i < n → row i = nI (f i)) (hf : ∀ i, i < n → f i ≤ 15) (hc : ∀ s, s < 19 → counts (320 + s) = nI 0) (hc0 : ∀ j, j < 320 → counts j = c0 j) : Tt (M_tellRow 200000 row st step more counts x1) (fun u => RT u.2.1 u.2.2.1 u.2.2.2.1 u.2.2.2.2 c0 (told f n)) := by
  subst h1
  unfold M_tellRow
  refine Tt_W5 (fun mm st step more counts x2 => ∃ k L, x2 = nI k ∧ k ≤ n ∧ mm = n - k ∧ RT st step more counts c0 L ∧ L.1 ≤ k ∧ rws f n (n - k) k L = told f n) ?_ 200000 n 0 step more counts 0 (by omega) ⟨0, (0, fun _ => 0, fun _ => 0), rfl, by omega, rfl, ⟨rfl, fun t ht => absurd ht (Nat.not_lt_zero t), hc, hc0, fun t ht => absurd ht (Nat.not_lt_zero t)⟩, Nat.le_refl 0, rfl⟩
  rintro K mm st step more counts x2 ⟨k, L, rfl, hk, rfl, hC, hLk, hT⟩ ih
  unfold M_tellRow_7
  by_cases z : n ≤ k
  · simp (disch := omega) only [Tt_C, nI_leI]
    rw [if_pos z]
    rw [show n - k = 0 by omega] at hT
    have hT' : L = told f n := hT
    rw [← hT']
    exact hC
  · have fk := hf k (by omega)
    have rk' := hrow k (by omega)
    simp (disch := omega) only [Tt_C, Tt_L, i_0, i_1, i_2, i_3, i_4, i_5, i_6, i_7, i_8, i_9, i_10, i_11, i_13, i_14, i_15, i_16, i_17, i_18, i_19, i_24, i_29, i_30, i_31, i_32, i_138, i_143, i_144, i_254, i_255, i_256, i_257, i_258, i_261, i_264, i_265, i_279, i_280, i_284, i_285, i_286, i_288, i_319, i_320, i_338, i_339, i_575, i_576, i_599, i_600, i_4096, i_8191, i_8192, i_8249, i_8250, i_8256, i_9000, i_16384, i_32767, i_32768, i_65520, i_65521, i_65535, i_65536, i_65999, i_66000, i_1300, i_120, i_156, nI_leI, Tt_N, nI_clamp, rk']
    rw [if_neg z]
    refine ⟨by omega, ?_⟩
    refine Tt_W7 (fun mm st' step' more' counts' x2 x3 x4 => st' = st ∧ step' = step ∧ more' = more ∧ counts' = counts ∧ x2 = nI k ∧ x3 = nI (f k) ∧ ∃ j, x4 = nI j ∧ k + j ≤ n ∧ mm = n - k - j ∧ ∀ i, i < j → f (k + i) = f k) ?_ 200000 (n - k) _ _ _ _ _ _ _ (by omega) ⟨rfl, rfl, rfl, rfl, rfl, rfl, 0, rfl, by omega, rfl, fun i hi => by omega⟩
    rintro K2 mm st' step' more' counts' x2 x3 x4 ⟨rfl, rfl, rfl, rfl, rfl, rfl, j, rfl, hkj, rfl, hall⟩ ih2
    have out : 1 ≤ j → (k + j = n ∨ f (k + j) ≠ f k) → Tt (M_tellRow_49 200000 K st' step' more' counts' (nI k) (nI (f k)) (nI j)) (fun u => RT u.2.1 u.2.2.1 u.2.2.2.1 u.2.2.2.2 c0 (told f n)) := by
      intro hj h4
      have es := stl_e (f := f) (n := n) (k := k) (j := j) (by omega) hj hkj hall h4
      have nn := @tlv_n (f k) j L hj
      have fin : ∀ st2 step2 more2 counts2, RT st2 step2 more2 counts2 c0 (tlv (f k) j L) → Tt (K st2 step2 more2 counts2 (nI (k + j))) (fun u => RT u.2.1 u.2.2.1 u.2.2.2.1 u.2.2.2.2 c0 (told f n)) := by
        intro st2 step2 more2 counts2 h2
        refine ih (n - (k + j)) _ _ _ _ _ (by omega) ⟨k + j, tlv (f k) j L, rfl, hkj, rfl, h2, by omega, ?_⟩
        have := @rws_s f n k L (by omega)
        rw [es] at this
        rw [← this]
        exact hT
      unfold M_tellRow_49
      simp (disch := omega) only [Tt_C, Tt_L, i_0, i_1, i_2, i_3, i_4, i_5, i_6, i_7, i_8, i_9, i_10, i_11, i_13, i_14, i_15, i_16, i_17, i_18, i_19, i_24, i_29, i_30, i_31, i_32, i_138, i_143, i_144, i_254, i_255, i_256, i_257, i_258, i_261, i_264, i_265, i_279, i_280, i_284, i_285, i_286, i_288, i_319, i_320, i_338, i_339, i_575, i_576, i_599, i_600, i_4096, i_8191, i_8192, i_8249, i_8250, i_8256, i_9000, i_16384, i_32767, i_32768, i_65520, i_65521, i_65535, i_65536, i_65999, i_66000, i_1300, i_120, i_156, nI_leI, nI_add, n_dec2]
      by_cases w : f k ≤ 0
      · rw [if_pos w]
        refine t_tell67 hC fk (by omega) rfl rfl ?_ fin
        unfold tlv
        rw [if_neg (by omega)]
      · rw [if_neg w, Tt_R4]
        refine Tt_m (t_tellM hC (by omega) (a := f k) (b := 0) (by omega) (Nat.two_pow_pos _) rfl rfl) ?_
        rintro ⟨_, st2, step2, more2, counts2⟩ h2
        refine t_tell67 h2 fk ?_ rfl rfl ?_ fin
        · show L.1 + 1 + (j - 1) ≤ 320
          omega
        · unfold tlv
          rw [if_pos (by omega)]
    unfold M_tellRow_22
    by_cases y : n ≤ k + j
    · simp (disch := omega) only [Tt_C, nI_add, nI_leI]
      rw [if_pos y]
      exact out (by omega) (Or.inl (by omega))
    · have rj := hrow (k + j) (by omega)
      have fj := hf (k + j) (by omega)
      simp (disch := omega) only [Tt_C, Tt_L, i_0, i_1, i_2, i_3, i_4, i_5, i_6, i_7, i_8, i_9, i_10, i_11, i_13, i_14, i_15, i_16, i_17, i_18, i_19, i_24, i_29, i_30, i_31, i_32, i_138, i_143, i_144, i_254, i_255, i_256, i_257, i_258, i_261, i_264, i_265, i_279, i_280, i_284, i_285, i_286, i_288, i_319, i_320, i_338, i_339, i_575, i_576, i_599, i_600, i_4096, i_8191, i_8192, i_8249, i_8250, i_8256, i_9000, i_16384, i_32767, i_32768, i_65520, i_65521, i_65535, i_65536, i_65999, i_66000, i_1300, i_120, i_156, nI_add, nI_leI, Tt_N, nI_clamp, rj, nI_eq]
      rw [if_neg y]
      refine ⟨by omega, ?_⟩
      by_cases w : f (k + j) = f k
      · rw [if_pos w]
        refine ih2 (n - k - (j + 1)) _ _ _ _ _ _ _ (by omega) ⟨rfl, rfl, rfl, rfl, rfl, rfl, j + 1, rfl, by omega, rfl, fun i hi => ?_⟩
        by_cases e : i = j
        · rw [e]; exact w
        · exact hall i (by omega)
      · rw [if_neg w]
        have : j ≠ 0 := fun e => w (by rw [e, Nat.add_zero])
        exact out (by omega) (Or.inr w)
