/-! the reference's tree, grown -/
theorem t_grow {f : Nat → Nat} {n l s c nodes : Nat} {next : Nat → Int32} {path : Nat → Nat × Nat} {x0 x1 x2 x3 : Int32} (hs : s < n) (hn : n ≤ 288) (hl : f s = l) (h0 : 0 < l) (hl15 : l ≤ 15) (hc : c = bs f n l + cn f l s) (hcl : c < 2 ^ l) (hx0 : x0 = nI nodes) (h1 : x1 = nI c) (h2 : x2 = nI l) (h3 : x3 = nI s) (hT : TI next nodes path (lfI f n l s) (inI f n l s)) (hB : nodes + cz c (l - 1) ≤ 320) : Tt (Tree_grow 200000 x0 next x1 x2 x3) (fun u => ∃ nodes' path', u.2.1 = nI nodes' ∧ nodes' ≤ nodes + cz c (l - 1) ∧ TI u.2.2 nodes' path' (lfI f n l (s + 1)) (inI f n l (s + 1))) := by
  subst hx0 h1 h2 h3
  have c15 : c < 2 ^ 15 := Nat.lt_of_lt_of_le hcl (Nat.pow_le_pow_right (by omega) hl15)
  unfold Tree_grow
  have e0 : nI l - 1 = nI (l - 1) := pk_sub (by omega)
  simp only [Tt_L, e0]
  refine Tt_W4 (fun mm x0 next x4 x5 => ∃ nodes' path' v k, x0 = nI nodes' ∧ x4 = nI v ∧ x5 = nI k ∧ mm = k ∧ k < l ∧ nodes' + cz c k ≤ nodes + cz c (l - 1) ∧ v < nodes' ∧ path' v = (l - 1 - k, c / 2 ^ (k + 1)) ∧ TI next nodes' path' (lfI f n l s) (inE f n l s c (l - 1 - k))) ?_ 200000 (l - 1) _ _ _ _ (by omega) ⟨nodes, path, 0, l - 1, rfl, rfl, rfl, rfl, by omega, Nat.le_refl _, hT.2.1, ?_, ?_⟩
  · rintro K mm x0 next x4 x5 ⟨nodes', path', v, k, rfl, rfl, rfl, rfl, hk, hnb, hv, hp, hT'⟩ ih
    unfold Tree_grow_8
    by_cases z : k = 0
    · subst z
      simp only [Tt_C]
      rw [if_pos (by decide)]
      unfold Tree_grow_98
      have ev : -nI 1 - nI s = nI 0 - nI (s + 1) := by
        have := n_it3 (nI s)
        rw [nI_1] at this
        exact this
      simp (disch := omega) only [Tt_L, Tt_S, Tt_C, Tt_Z, Tt_R0, Tt_R1, Tt_R2, Tt_R3, Tt_R4, Tt_R5, q10, eq_self, if_true, if_false, i_0, i_1, i_2, i_3, i_4, i_5, i_6, i_7, i_8, i_9, i_10, i_11, i_13, i_14, i_15, i_16, i_17, i_18, i_19, i_24, i_29, i_30, i_31, i_32, i_138, i_143, i_144, i_254, i_255, i_256, i_257, i_258, i_261, i_264, i_265, i_279, i_280, i_284, i_285, i_286, i_288, i_319, i_320, i_338, i_339, i_575, i_576, i_599, i_600, i_4096, i_8191, i_8192, i_8249, i_8250, i_8256, i_9000, i_16384, i_32767, i_32768, i_65520, i_65521, i_65535, i_65536, i_65999, i_66000, i_1300, i_120, i_156, pk_mul, n_1, nI_add, Tt_N, nI_clamp, ev]
      refine ⟨by omega, nodes', path', rfl, ?_, ?_⟩
      · have : cz c 0 = 0 := rfl
        omega
      · refine TI_leaf hs hl h0 hc (by omega) ?_ hv ?_
        · rw [Nat.sub_zero] at hT'; exact hT'
        · rw [hp, Nat.sub_zero]; rfl
    · have bt : c / 2 ^ k % 2 < 2 := Nat.mod_lt _ (by omega)
      have w0 := div2 c k
      have cl : c / 2 ^ k ≤ c := Nat.div_le_self _ _
      have ek : k = (k - 1) + 1 := by omega
      have czk : cz c k = cz c (k - 1) + (if c % 2 ^ k = 0 then 1 else 0) := by
        conv => lhs; rw [ek]
        show cz c (k - 1) + (if c % 2 ^ (k - 1 + 1) = 0 then 1 else 0) = _
        rw [← ek]
      have e1 : (path' v).1 + 1 = l - k := by rw [hp]; show l - 1 - k + 1 = l - k; omega
      have e2 : 2 * (path' v).2 + c / 2 ^ k % 2 = c / 2 ^ k := by rw [hp]; exact w0
      have noleaf : ¬ ∃ x, lfI f n l s (l - k) (c / 2 ^ k) x := by
        rintro ⟨x, i1, i2, i3⟩
        have := pre_div i1
        rw [i2, show l - (l - k) = k by omega, ← hc] at this
        omega
      have pow2 : c / 2 ^ (k - 1 + 1) = c / 2 ^ k := by rw [← ek]
      simp (disch := omega) only [Tt_L, Tt_S, Tt_C, Tt_Z, Tt_R0, Tt_R1, Tt_R2, Tt_R3, Tt_R4, Tt_R5, q10, eq_self, if_true, if_false, i_0, i_1, i_2, i_3, i_4, i_5, i_6, i_7, i_8, i_9, i_10, i_11, i_13, i_14, i_15, i_16, i_17, i_18, i_19, i_24, i_29, i_30, i_31, i_32, i_138, i_143, i_144, i_254, i_255, i_256, i_257, i_258, i_261, i_264, i_265, i_279, i_280, i_284, i_285, i_286, i_288, i_319, i_320, i_338, i_339, i_575, i_576, i_599, i_600, i_4096, i_8191, i_8192, i_8249, i_8250, i_8256, i_9000, i_16384, i_32767, i_32768, i_65520, i_65521, i_65535, i_65536, i_65999, i_66000, i_1300, i_120, i_156, nI_leI, n_shr, n_1, pk_mul, nI_add, Tt_N, nI_clamp, n_dec2]
      rw [if_neg (by omega)]
      refine ⟨by omega, ?_⟩
      by_cases y : inI f n l s (l - k) (c / 2 ^ k)
      · obtain ⟨w, w1, w2, w3, w4⟩ : ∃ w, 0 < w ∧ w < nodes' ∧ next (2 * v + c / 2 ^ k % 2) = nI w ∧ path' w = ((path' v).1 + 1, 2 * (path' v).2 + c / 2 ^ k % 2) := by
          refine (hT'.2.2.2.2 v (c / 2 ^ k % 2) hv bt).2.1 ?_ ?_
          · rw [e1, e2]; exact noleaf
          · rw [e1, e2]; exact Or.inl y
        rw [e1, e2] at w4
        unfold Tree_grow_83
        rw [w3, if_neg (by rw [i_0, nI_eq (by omega) (by omega)]; omega)]
        simp (disch := omega) only [Tt_L, Tt_S, Tt_C, Tt_Z, Tt_R0, Tt_R1, Tt_R2, Tt_R3, Tt_R4, Tt_R5, q10, eq_self, if_true, if_false, i_0, i_1, i_2, i_3, i_4, i_5, i_6, i_7, i_8, i_9, i_10, i_11, i_13, i_14, i_15, i_16, i_17, i_18, i_19, i_24, i_29, i_30, i_31, i_32, i_138, i_143, i_144, i_254, i_255, i_256, i_257, i_258, i_261, i_264, i_265, i_279, i_280, i_284, i_285, i_286, i_288, i_319, i_320, i_338, i_339, i_575, i_576, i_599, i_600, i_4096, i_8191, i_8192, i_8249, i_8250, i_8256, i_9000, i_16384, i_32767, i_32768, i_65520, i_65521, i_65535, i_65536, i_65999, i_66000, i_1300, i_120, i_156, Tt_N, nI_clamp, n_dec2, w3]
        refine ⟨by omega, ih (k - 1) _ _ _ _ (by omega) ⟨nodes', path', w, k - 1, rfl, rfl, rfl, rfl, by omega, by omega, w2, ?_, ?_⟩⟩
        · rw [w4, pow2, show l - 1 - (k - 1) = l - k by omega]
        · refine TI_c hT' (fun _ _ _ _ => Iff.rfl) (fun d q hd => ?_)
          constructor
          · rintro (g | ⟨g1, g2⟩)
            · exact Or.inl g
            · exact Or.inr ⟨by omega, g2⟩
          · rintro (g | ⟨g1, g2⟩)
            · exact Or.inl g
            · by_cases e : d = l - k
              · left
                rw [e, ← g2, e, show l - (l - k) = k by omega]
                exact y
              · exact Or.inr ⟨by omega, g2⟩
      · have zero : next (2 * v + c / 2 ^ k % 2) = nI 0 := by
          refine (hT'.2.2.2.2 v (c / 2 ^ k % 2) hv bt).2.2 ?_ ?_
          · rw [e1, e2]; exact noleaf
          · rw [e1, e2]
            rintro (g | g)
            · exact y g
            · omega
        have dv : c % 2 ^ k = 0 := by
          rcases Nat.eq_zero_or_pos (c % 2 ^ k) with g | g
          · exact g
          · exfalso
            have dm := Nat.div_add_mod c (2 ^ k)
            obtain ⟨x, i1, i2⟩ := @cover f n l s (2 ^ k * (c / 2 ^ k)) h0 (by omega) (by omega)
            by_cases q : f x ≤ l - k
            · have := pre_div i1
              rw [← hc] at this
              have e3 : 2 ^ k * (c / 2 ^ k) / 2 ^ (l - f x) = c / 2 ^ (l - f x) := by
                rw [show l - f x = k + (l - f x - k) by omega, Nat.pow_add, ← Nat.div_div_eq_div_mul, ← Nat.div_div_eq_div_mul, Nat.mul_div_cancel_left _ (Nat.two_pow_pos k)]
              rw [e3] at i2
              omega
            · apply y
              refine ⟨x, i1, by omega, ?_⟩
              have fx : f x ≤ l := by have := i1.2.2; omega
              rw [← i2, Nat.div_div_eq_div_mul, ← Nat.pow_add, show l - f x + (f x - (l - k)) = k by omega, Nat.mul_div_cancel_left _ (Nat.two_pow_pos k)]
        rw [if_pos dv] at czk
        rw [zero, if_pos rfl]
        unfold Tree_grow_83
        simp (disch := omega) only [Tt_L, Tt_S, Tt_C, Tt_Z, Tt_R0, Tt_R1, Tt_R2, Tt_R3, Tt_R4, Tt_R5, q10, eq_self, if_true, if_false, i_0, i_1, i_2, i_3, i_4, i_5, i_6, i_7, i_8, i_9, i_10, i_11, i_13, i_14, i_15, i_16, i_17, i_18, i_19, i_24, i_29, i_30, i_31, i_32, i_138, i_143, i_144, i_254, i_255, i_256, i_257, i_258, i_261, i_264, i_265, i_279, i_280, i_284, i_285, i_286, i_288, i_319, i_320, i_338, i_339, i_575, i_576, i_599, i_600, i_4096, i_8191, i_8192, i_8249, i_8250, i_8256, i_9000, i_16384, i_32767, i_32768, i_65520, i_65521, i_65535, i_65536, i_65999, i_66000, i_1300, i_120, i_156, Tt_N, nI_clamp, n_dec2]
        have tn := @TI_new f n l s c k nodes' v next path' hc (by omega) hk (by omega) hT' hv hp y
        refine ⟨by omega, by omega, by omega, by omega, ?_⟩
        have rd : upd (upd (upd next (2 * v + c / 2 ^ k % 2) (nI nodes')) (2 * nodes') (nI 0)) (2 * nodes' + 1) (nI 0) (2 * v + c / 2 ^ k % 2) = nI nodes' := by rw [pk_un (by omega), pk_un (by omega), pk_us]
        rw [rd]
        refine ih (k - 1) _ _ _ _ (by omega) ⟨nodes' + 1, _, nodes', k - 1, rfl, rfl, rfl, rfl, by omega, by omega, by omega, ?_, ?_⟩
        · show (if nodes' = nodes' then (l - k, c / 2 ^ k) else path' nodes') = _
          rw [if_pos rfl, pow2, show l - 1 - (k - 1) = l - k by omega]
        · rw [show l - 1 - (k - 1) = l - k by omega]
          exact tn
  · rw [hT.1, Nat.sub_self, show l - 1 + 1 = l by omega, Nat.div_eq_of_lt hcl]
  · refine TI_c hT (fun _ _ _ _ => Iff.rfl) (fun d q hd => ?_)
    constructor
    · intro g
      exact Or.inl g
    · rintro (g | ⟨g1, g2⟩)
      · exact g
      · omega
/-- how many symbols have a code shorter than l -/
def lv (f : Nat → Nat) (n : Nat) : Nat → Nat
  | 0 => 0
  | l + 1 => lv f n l + (if l = 0 then 0 else cn f l n)
theorem lv_sm (f : Nat → Nat) (n : Nat) : ∀ l, lv f n l ≤ sm (fun j => 1 * cn f j n) l := by
  intro l
  induction l with
  | zero => exact Nat.le_refl 0
  | succ l ih =>
    show lv f n l + (if l = 0 then 0 else cn f l n) ≤ sm (fun j => 1 * cn f j n) l + 1 * cn f l n
    split <;> omega
theorem lv_le (f : Nat → Nat) (n l : Nat) : lv f n l ≤ n := by
  have h := lv_sm f n l
  have e := sm_cn (fun _ => 1) f l n
  dsimp only at e
  rw [e] at h
  refine Nat.le_trans h (sm_le (fun i _ => ?_))
  split <;> omega
theorem bs_pos {f : Nat → Nat} {n : Nat} : ∀ l, lv f n l = 0 → bs f n l = 0 := by
  intro l
  induction l with
  | zero => intro _; rfl
  | succ l ih =>
    intro h
    have h' : lv f n l + (if l = 0 then 0 else cn f l n) = 0 := h
    show 2 * (bs f n l + (if l = 0 then 0 else cn f l n)) = 0
    rw [ih (by omega)]
    omega
theorem ins_0 {f : Nat → Nat} {n l x : Nat} : ins f n (l + 1) 0 x ↔ ins f n l n x := by
  unfold ins
  constructor
  · rintro ⟨h1, h2, h3⟩; exact ⟨h1, h2, by omega⟩
  · rintro ⟨h1, h2, h3⟩; exact ⟨h1, h2, by omega⟩
theorem t_treeGrow {N0 a n : Nat} {of next : Nat → Int32} {f : Nat → Nat} {x0 : Int32} (hN : a + n ≤ N0) (hN0 : N0 ≤ 339) (hn : n ≤ 288) (hL : ∀ i, i < n → of (a + i) = nI (f i)) (hf : ∀ i, i < n → f i ≤ 15) (hK : krs f n 15 ≤ 32768) (hx0 : x0 = nI 1) (hz : next 0 = nI 0 ∧ next 1 = nI 0) : Tt (Tree_make_119 200000 N0 of (nI a) (nI n) x0 next) (fun u => u.1 = nI 1 ∧ ∃ nodes path, nodes ≤ 400 ∧ TI u.2.2 nodes path (lfI f n 16 0) (inI f n 16 0)) := by
  subst hx0
  unfold Tree_make_119
  refine Tt_W4 (fun mm x0 next x7 x8 => ∃ l nodes path, 1 ≤ l ∧ l ≤ 16 ∧ x8 = nI l ∧ mm = 16 - l ∧ x0 = nI nodes ∧ 2 * x7 = nI (bs f n l) ∧ nodes ≤ ndB l (bs f n l) (lv f n l) ∧ TI next nodes path (lfI f n l 0) (inI f n l 0)) ?_ 200000 15 _ _ _ _ (by omega) ⟨1, 1, fun _ => (0, 0), by omega, by omega, rfl, rfl, rfl, rfl, ?_, ?_⟩
  · rintro K mm x0 next x7 x8 ⟨l, nodes, path, hl1, hl2, rfl, rfl, rfl, h7, hnb, hT⟩ ih
    unfold Tree_make_125
    by_cases z : 16 ≤ l
    · have el : l = 16 := by omega
      subst el
      simp only [Tt_C]
      rw [if_pos (by decide)]
      have b := @nd_b 16 (bs f n 16) (lv f n 16) (by omega) (by have := lv_le f n 16; omega)
      exact ⟨rfl, nodes, path, by omega, hT⟩
    · simp (disch := omega) only [Tt_C, Tt_L, i_16, nI_leI]
      rw [if_neg z, h7]
      refine Tt_W5 (fun mm x0 next x7 x8 x9 => ∃ s nodes path, s ≤ n ∧ x9 = nI s ∧ x8 = nI l ∧ mm = n - s ∧ x0 = nI nodes ∧ x7 = nI (bs f n l + cn f l s) ∧ nodes ≤ ndB l (bs f n l + cn f l s) (lv f n l + cn f l s) ∧ TI next nodes path (lfI f n l s) (inI f n l s)) ?_ 200000 n _ _ _ _ _ (by omega) ⟨0, nodes, path, by omega, rfl, rfl, rfl, rfl, rfl, hnb, hT⟩
      rintro K2 mm x0 next x7 x8 x9 ⟨s, nodes, path, hs, rfl, rfl, rfl, rfl, rfl, hnb2, hT2⟩ ih2
      unfold Tree_make_141
      by_cases y : n ≤ s
      · have es : s = n := by omega
        subst es
        simp (disch := omega) only [Tt_C, nI_leI]
        rw [if_pos y]
        unfold Tree_make_177
        simp only [Tt_L, nI_1]
        have eb : bs f s (l + 1) = 2 * (bs f s l + cn f l s) := by
          show 2 * (bs f s l + (if l = 0 then 0 else cn f l s)) = _
          rw [if_neg (by omega)]
        have elv : lv f s (l + 1) = lv f s l + cn f l s := by
          show lv f s l + (if l = 0 then 0 else cn f l s) = _
          rw [if_neg (by omega)]
        refine ih (16 - (l + 1)) _ _ _ _ (by omega) ⟨l + 1, nodes, path, by omega, by omega, rfl, rfl, rfl, ?_, ?_, ?_⟩
        · rw [eb, i_2, pk_mul]
        · rw [eb, elv, nd_dbl]; exact hnb2
        · refine TI_c hT2 (fun d q x _ => ?_) (fun d q _ => ?_)
          · unfold lfI; rw [ins_0]
          · unfold inI
            constructor
            · rintro ⟨x, i1, i2⟩; exact ⟨x, ins_0.mpr i1, i2⟩
            · rintro ⟨x, i1, i2⟩; exact ⟨x, ins_0.mp i1, i2⟩
      · have es := hL s (by omega)
        have fs := hf s (by omega)
        have c1 : cn f l (s + 1) = cn f l s + (if f s = l then 1 else 0) := rfl
        unfold Tree_make_171
        simp (disch := omega) only [Tt_L, Tt_S, Tt_C, Tt_Z, Tt_R0, Tt_R1, Tt_R2, Tt_R3, Tt_R4, Tt_R5, q10, eq_self, if_true, if_false, i_0, i_1, i_2, i_3, i_4, i_5, i_6, i_7, i_8, i_9, i_10, i_11, i_13, i_14, i_15, i_16, i_17, i_18, i_19, i_24, i_29, i_30, i_31, i_32, i_138, i_143, i_144, i_254, i_255, i_256, i_257, i_258, i_261, i_264, i_265, i_279, i_280, i_284, i_285, i_286, i_288, i_319, i_320, i_338, i_339, i_575, i_576, i_599, i_600, i_4096, i_8191, i_8192, i_8249, i_8250, i_8256, i_9000, i_16384, i_32767, i_32768, i_65520, i_65521, i_65535, i_65536, i_65999, i_66000, i_1300, i_120, i_156, nI_leI, nI_add, Tt_N, nI_clamp, es, nI_eq]
        rw [if_neg y]
        refine ⟨by omega, ?_⟩
        by_cases e : f s = l
        · rw [if_pos e]
          rw [if_pos e] at c1
          have cl := @cde_lt f n s hK (by omega) (by omega) fs
          have ce : cde f n s = bs f n l + cn f l s := by unfold cde; rw [e]
          rw [ce, e] at cl
          have ndi := @nd_ins l (bs f n l + cn f l s) (lv f n l + cn f l s) nodes hl1 (by
            rcases Nat.eq_zero_or_pos (lv f n l + cn f l s) with q | q
            · left
              rw [bs_pos l (by omega)]
              omega
            · exact Or.inr q) hnb2
          have lvn := lv_le f n (l + 1)
          have lvn2 : lv f n (l + 1) = lv f n l + (if l = 0 then 0 else cn f l n) := rfl
          rw [if_neg (by omega)] at lvn2
          have cmo := @cn_mono f l (s + 1) n (by omega)
          have b := @nd_b l (bs f n l + cn f l s + 1) (lv f n l + cn f l s + 1) (by omega) (by omega)
          refine Tt_m (t_grow (f := f) (n := n) (l := l) (s := s) (by omega) hn e (by omega) (by omega) rfl cl rfl rfl rfl rfl hT2 (by omega)) ?_
          rintro ⟨_, x0', next'⟩ ⟨nodes', path', g1, g2, g3⟩
          dsimp only at g1 g3 ⊢
          subst g1
          refine ih2 (n - (s + 1)) _ _ _ _ _ (by omega) ⟨s + 1, nodes', path', by omega, rfl, rfl, rfl, rfl, ?_, ?_, g3⟩
          · rw [c1]; rfl
          · rw [c1]
            show nodes' ≤ ndB l (bs f n l + cn f l s + 1) (lv f n l + cn f l s + 1)
            omega
        · rw [if_neg e]
          rw [if_neg e, Nat.add_zero] at c1
          have is : ∀ x, ins f n l (s + 1) x ↔ ins f n l s x := by
            intro x
            unfold ins
            constructor
            · rintro ⟨q1, q2, q3⟩
              refine ⟨q1, q2, ?_⟩
              rcases q3 with q3 | q3
              · exact Or.inl q3
              · right
                refine ⟨q3.1, ?_⟩
                have : x ≠ s := fun w => e (by rw [← w]; exact q3.1)
                omega
            · rintro ⟨q1, q2, q3⟩; exact ⟨q1, q2, by omega⟩
          refine ih2 (n - (s + 1)) _ _ _ _ _ (by omega) ⟨s + 1, nodes, path, by omega, rfl, rfl, rfl, rfl, ?_, ?_, ?_⟩
          · rw [c1]
          · rw [c1]; exact hnb2
          · refine TI_c hT2 (fun d q x _ => ?_) (fun d q _ => ?_)
            · unfold lfI; rw [is]
            · unfold inI
              constructor
              · rintro ⟨x, i1, i2⟩; exact ⟨x, (is x).mpr i1, i2⟩
              · rintro ⟨x, i1, i2⟩; exact ⟨x, (is x).mp i1, i2⟩
  · show 1 ≤ ndB 1 (bs f n 1) (lv f n 1)
    have : bs f n 1 = 0 := rfl
    rw [this]
    exact Nat.le_refl 1
  · have nI0 : ∀ x, ¬ ins f n 1 0 x := by
      rintro x ⟨q1, q2, q3⟩
      omega
    refine ⟨rfl, by omega, fun u v hu hv _ => by omega, fun w h1 h2 => by omega, fun v b hv hb => ⟨fun x hx => absurd hx.1 (nI0 x), fun _ ⟨x, hx⟩ => absurd hx.1 (nI0 x), fun _ _ => ?_⟩⟩
    have : v = 0 := by omega
    subst this
    have : b = 0 ∨ b = 1 := by omega
    rcases this with rfl | rfl
    · exact hz.1
    · exact hz.2
