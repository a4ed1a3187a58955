/-! bytes put into a row, one behind the other -/
def bo (x : Int32) : Nat := x.toBitVec.toNat % 256
theorem bo_lt (x : Int32) : bo x < 256 := Nat.mod_lt _ (by omega)
theorem nI_self (x : Int32) : nI x.toBitVec.toNat = x := by
  have e : (nI x.toBitVec.toNat).toBitVec = x.toBitVec := by
    show BitVec.ofNat 32 x.toBitVec.toNat = x.toBitVec
    exact BitVec.eq_of_toNat_eq (by rw [BitVec.toNat_ofNat]; exact Nat.mod_eq_of_lt x.toBitVec.isLt)
  exact Int32.toBitVec_inj.1 e
theorem bo_n (x : Int32) : vp_nar .byte x.toInt8.toInt32 = sx (bo x) := by
  have e := sx_nar x.toBitVec.toNat
  rw [nI_self] at e
  rw [e]
  exact sx_mod _
theorem bo_I (v : Nat) (h : v < 2 ^ 32) : bo (nI v) = v % 256 := by
  have e : (nI v).toBitVec.toNat = v := by
    show (BitVec.ofNat 32 v).toNat = v
    rw [BitVec.toNat_ofNat]
    exact Nat.mod_eq_of_lt h
  unfold bo
  rw [e]
theorem bo_s : ∀ v, v < 256 → bo (sx v) = v := by decide +kernel
def Pre (vl : Int32) (c : Nat → Int32) (L : Nat) (B : Nat → Nat) : Prop := vl = nI L ∧ ∀ i, i < L → c i = sx (B i)
theorem t_preC {vl x : Int32} {c : Nat → Int32} {L N : Nat} {B : Nat → Nat} (h : Pre vl c L B) (hL : L < N) (hN : N ≤ 100000) (hx : bo x = B L) : Tt (Bytes_add 200000 N vl c x) (fun u => Pre u.2.1 u.2.2 (L + 1) B) := by
  obtain ⟨rfl, h1⟩ := h
  unfold Bytes_add
  refine Tt_n (by first | decide | (simp (disch := omega) only [i_0, i_1, i_2, i_3, i_4, i_5, i_6, i_7, i_8, i_9, i_10, i_11, i_13, i_14, i_15, i_16, i_17, i_18, i_19, i_24, i_29, i_30, i_31, i_32, i_138, i_143, i_144, i_254, i_255, i_256, i_257, i_258, i_261, i_264, i_265, i_279, i_280, i_284, i_285, i_286, i_288, i_319, i_320, i_338, i_339, i_575, i_576, i_599, i_600, i_4096, i_8191, i_8192, i_8249, i_8250, i_8256, i_9000, i_16384, i_32767, i_32768, i_65520, i_65521, i_65535, i_65536, i_65999, i_66000, i_1300, i_120, i_156, nI_leI, nI_ltI, nI_eq, nI_add, n_neg, not_false_eq_true, not_true_eq_false] <;> omega)) (Tt_g hL (by omega) (Tt_l (Tt_l (Tt_Si ⟨nI_1 L, fun i hi => ?_⟩))))
  dsimp only
  rw [nI_clamp (by omega)]
  by_cases e : i = L
  · rw [e, pk_us, bo_n, hx]
  · rw [pk_un e]
    exact h1 i (by omega)
theorem t_preM {vl x : Int32} {c : Nat → Int32} {L : Nat} {B : Nat → Nat} (h : Pre vl c L B) (hL : L < 66000) (hx : bo x = B L) : Tt (M_add 200000 vl c x) (fun u => Pre u.2.1 u.2.2 (L + 1) B) := by
  obtain ⟨rfl, h1⟩ := h
  unfold M_add
  refine Tt_g hL (by omega) (Tt_l (Tt_l (Tt_Si ⟨nI_1 L, fun i hi => ?_⟩)))
  dsimp only
  rw [nI_clamp (by omega)]
  by_cases e : i = L
  · rw [e, pk_us, bo_n, hx]
  · rw [pk_un e]
    exact h1 i (by omega)
theorem t_headP {vl : Int32} {c : Nat → Int32} {L H : Nat} {B : Nat → Nat} (h : Pre vl c L B) (hL : L + 2 ≤ 66000) (hH : H < 65536) (h0 : B L = H % 256) (h1 : B (L + 1) = H / 256) : Tt (P_addHead 200000 66000 vl c (nI H)) (fun u => Pre u.2.1 u.2.2 (L + 2) B) := by
  unfold P_addHead
  refine Tt_R2.2 (Tt_m (t_preC h (by omega) (by omega) (by rw [bo_I _ (by omega), h0])) ?_)
  rintro ⟨_, vl1, c2⟩ g
  dsimp only at g ⊢
  have e : nI H >>> ((8 : Int32) &&& 31) = nI (H / 2 ^ 8) := n_shr (k := 8) (by omega) (by omega)
  refine Tt_l ?_
  rw [e]
  refine Tt_R2.2 (Tt_m (t_preC g (by omega) (by omega) (by rw [bo_I _ (by omega), h1]; omega)) ?_)
  rintro ⟨_, vl3, c4⟩ g2
  exact Tt_Si g2
theorem t_copyTo {vl : Int32} {c dat : Nat → Int32} {L q : Nat} {B : Nat → Nat} (h : Pre vl c L B) (hL : L + q ≤ 66000) (hq : q ≤ 8256) (hB : ∀ i, B i < 256) (hd : ∀ i, i < q → dat i = sx (B (L + i))) : Tt (Packer_copyTo 200000 66000 (nI q) dat vl c) (fun u => Pre u.2.1 u.2.2 (L + q) B) := by
  unfold Packer_copyTo
  have key : Tt (BitWriter_copyTo 200000 66000 (nI q) dat vl c) (fun u => Pre u.2.1 u.2.2 (L + q) B) := by
    unfold BitWriter_copyTo
    refine Tt_W3 (fun mm vl c x2 => ∃ j, x2 = nI j ∧ j ≤ q ∧ mm = q - j ∧ Pre vl c (L + j) B) ?_ 200000 q _ _ _ (by omega) ⟨0, rfl, by omega, rfl, h⟩
    rintro K mm vl c x2 ⟨j, rfl, hj, rfl, g⟩ ih
    unfold BitWriter_copyTo_2
    by_cases z : q ≤ j
    · have e : j = q := by omega
      subst e
      exact Tt_p (by first | decide | (simp (disch := omega) only [i_0, i_1, i_2, i_3, i_4, i_5, i_6, i_7, i_8, i_9, i_10, i_11, i_13, i_14, i_15, i_16, i_17, i_18, i_19, i_24, i_29, i_30, i_31, i_32, i_138, i_143, i_144, i_254, i_255, i_256, i_257, i_258, i_261, i_264, i_265, i_279, i_280, i_284, i_285, i_286, i_288, i_319, i_320, i_338, i_339, i_575, i_576, i_599, i_600, i_4096, i_8191, i_8192, i_8249, i_8250, i_8256, i_9000, i_16384, i_32767, i_32768, i_65520, i_65521, i_65535, i_65536, i_65999, i_66000, i_1300, i_120, i_156, nI_leI, nI_ltI, nI_eq, nI_add, n_neg, not_false_eq_true, not_true_eq_false] <;> omega)) (Tt_Si g)
    · refine Tt_n (by first | decide | (simp (disch := omega) only [i_0, i_1, i_2, i_3, i_4, i_5, i_6, i_7, i_8, i_9, i_10, i_11, i_13, i_14, i_15, i_16, i_17, i_18, i_19, i_24, i_29, i_30, i_31, i_32, i_138, i_143, i_144, i_254, i_255, i_256, i_257, i_258, i_261, i_264, i_265, i_279, i_280, i_284, i_285, i_286, i_288, i_319, i_320, i_338, i_339, i_575, i_576, i_599, i_600, i_4096, i_8191, i_8192, i_8249, i_8250, i_8256, i_9000, i_16384, i_32767, i_32768, i_65520, i_65521, i_65535, i_65536, i_65999, i_66000, i_1300, i_120, i_156, nI_leI, nI_ltI, nI_eq, nI_add, n_neg, not_false_eq_true, not_true_eq_false] <;> omega)) (Tt_n (by first | decide | (simp (disch := omega) only [i_0, i_1, i_2, i_3, i_4, i_5, i_6, i_7, i_8, i_9, i_10, i_11, i_13, i_14, i_15, i_16, i_17, i_18, i_19, i_24, i_29, i_30, i_31, i_32, i_138, i_143, i_144, i_254, i_255, i_256, i_257, i_258, i_261, i_264, i_265, i_279, i_280, i_284, i_285, i_286, i_288, i_319, i_320, i_338, i_339, i_575, i_576, i_599, i_600, i_4096, i_8191, i_8192, i_8249, i_8250, i_8256, i_9000, i_16384, i_32767, i_32768, i_65520, i_65521, i_65535, i_65536, i_65999, i_66000, i_1300, i_120, i_156, nI_leI, nI_ltI, nI_eq, nI_add, n_neg, not_false_eq_true, not_true_eq_false] <;> omega)) (Tt_g (by omega) (by omega) (Tt_l (Tt_R2.2 (Tt_m (t_preC g (by omega) (by omega) ?_) ?_)))))
      · rw [nI_clamp (by omega), hd j (by omega), bo_s _ (hB _)]
      · rintro ⟨_, vl2, c3⟩ g2
        dsimp only at g2 ⊢
        refine Tt_l ?_
        rw [nI_1]
        exact ih (q - (j + 1)) _ _ _ (by omega) ⟨j + 1, rfl, by omega, rfl, g2⟩
  refine Tt_R2.2 (Tt_m key ?_)
  rintro ⟨_, vl2, c3⟩ g2
  exact Tt_Si g2
theorem pk_part {b : Nat → Nat} {n beg fin : Nat} {W : WS} (hb : ∀ i, b i < 256) (hn : n ≤ 8192) (hbeg : beg < n) (hfin : fin = min (beg + 4096) n) (hw : W.1 ≤ 280000) (hV : W.2 < 2 ^ W.1) : (pkP b n beg fin W).1 ≤ W.1 + 202000 ∧ (pkP b n beg fin W).2 < 2 ^ (pkP b n beg fin W).1 := by
  have row : Row (fun i => sx (b i)) 0 n b := ⟨fun i _ => by rw [Nat.zero_add], hb⟩
  obtain ⟨u, _, hB⟩ := t_notePairs (N := 65536) (a := 0) (last := fun _ => 0) (before := fun _ => 0) row hn (by omega) (by omega) rfl rfl
  have hW : RefW (nI W.1) (fun i => sx (byt W.2 i)) W.1 W.2 := ⟨rfl, hV, fun i _ => rfl⟩
  obtain ⟨_, _, hq⟩ := t_packM35 (N := 65536) (Q := fun _ => (pkP b n beg fin W).1 ≤ W.1 + 202000 ∧ (pkP b n beg fin W).2 < 2 ^ (pkP b n beg fin W).1) (k94 := fun _ _ _ _ _ _ _ _ _ _ _ _ _ _ _ _ _ _ _ => none) (k35 := fun _ _ _ _ _ _ _ _ _ _ _ _ _ _ _ _ _ _ _ _ _ => some default) (tok := 0) (st := 0) (pl := fun _ => 0) (tl := fun _ => 0) (tv := fun _ => 0) (cnt := fun _ => 0) (rk := fun _ => 0) (len := fun _ => 0) (we := fun _ => 0) (wb := fun _ => 0) (it := fun _ => 0) (lr := fun _ => 0) (sp := fun _ => 0) (mo := fun _ => 0) (fx := fun _ => 0) (co := fun _ => 0) row hn (by omega) (by omega) hB hbeg hfin hw hW (fun _ _ _ _ _ _ _ _ _ _ _ _ _ _ _ _ _ g1 g2 => Tt_Si ⟨g1, g2.2.1⟩)
  exact hq
theorem pk_small {b : Nat → Nat} {n : Nat} (hb : ∀ i, b i < 256) (hn0 : 1 ≤ n) (hn : n ≤ 8192) : (pkA b n).1 / 8 ≤ 100000 := by
  have e0 : (app (app (0, 0) 120 8) 156 8).1 = 16 := rfl
  have v0 : (app (app (0, 0) 120 8) 156 8).2 < 2 ^ (app (app (0, 0) 120 8) 156 8).1 := by decide
  have ch : ∀ c W, (chW c W).1 = W.1 + 32 := fun c W => by
    show W.1 + 8 + 8 + 8 + 8 = _
    omega
  have al : ∀ W : WS, (alg W).1 ≤ W.1 + 7 := fun W => by
    show W.1 + (8 - W.1 % 8) % 8 ≤ _
    omega
  unfold pkA
  generalize app (app (0, 0) 120 8) 156 8 = W0 at *
  rw [ch]
  by_cases z : n ≤ 4096
  · rw [if_pos z]
    have p := pk_part (beg := 0) (fin := n) (W := W0) hb hn (by omega) (by omega) (by omega) v0
    have a := al (pkP b n 0 n W0)
    omega
  · rw [if_neg z]
    have p := pk_part (beg := 0) (fin := 4096) (W := W0) hb hn (by omega) (by omega) (by omega) v0
    have p2 := pk_part (beg := 4096) (fin := n) (W := pkP b n 0 4096 W0) hb hn (by omega) (by omega) (by omega) p.2
    have a := al (pkP b n 4096 n (pkP b n 0 4096 W0))
    omega
/-! a piece closed -/
abbrev clP (pl : Nat) (b : Nat → Nat) (n : Nat) : Prop := pl = 0 ∧ (pkA b n).1 / 8 < n
def clN (pl : Nat) (b : Nat → Nat) (n : Nat) : Nat := if clP pl b n then (pkA b n).1 / 8 else n
def clH (pl : Nat) (b : Nat → Nat) (n : Nat) : Nat := if clP pl b n then (pkA b n).1 / 8 else n + 32768
def clD (pl : Nat) (b : Nat → Nat) (n i : Nat) : Nat := if clP pl b n then byt (pkA b n).2 i else b i
def clB (pl : Nat) (b : Nat → Nat) (n len : Nat) (bi : Nat → Nat) (x : Nat) : Nat := if x < len then bi x else if x = len then clH pl b n % 256 else if x = len + 1 then clH pl b n / 256 else clD pl b n (x - (len + 2))
theorem clN_b (pl : Nat) (b : Nat → Nat) (n : Nat) : clN pl b n ≤ n := by
  unfold clN
  split
  · rename_i h
    omega
  · omega
theorem clH_b {pl : Nat} {b : Nat → Nat} {n : Nat} (hn : n ≤ 8192) : clH pl b n < 65536 := by
  unfold clH
  split
  · rename_i h
    omega
  · omega
theorem byt_256 (V i : Nat) : byt V i < 256 := by
  unfold byt
  exact Nat.mod_lt _ (by omega)
theorem clB_b {pl : Nat} {b : Nat → Nat} {n len : Nat} {bi : Nat → Nat} (hn : n ≤ 8192) (hb : ∀ i, b i < 256) (hbi : ∀ i, bi i < 256) (x : Nat) : clB pl b n len bi x < 256 := by
  have := clH_b (pl := pl) (b := b) hn
  unfold clB
  split
  · exact hbi x
  · split
    · omega
    · split
      · omega
      · unfold clD
        split
        · exact byt_256 _ _
        · exact hb _
theorem clB_0 {pl : Nat} {b : Nat → Nat} {n len : Nat} {bi : Nat → Nat} {i : Nat} (h : i < len) : clB pl b n len bi i = bi i := if_pos h
theorem clB_1 {pl : Nat} {b : Nat → Nat} {n len : Nat} {bi : Nat → Nat} : clB pl b n len bi len = clH pl b n % 256 := by
  unfold clB
  rw [if_neg (by omega), if_pos rfl]
theorem clB_2 {pl : Nat} {b : Nat → Nat} {n len : Nat} {bi : Nat → Nat} : clB pl b n len bi (len + 1) = clH pl b n / 256 := by
  unfold clB
  rw [if_neg (by omega), if_neg (by omega), if_pos rfl]
theorem clB_3 {pl : Nat} {b : Nat → Nat} {n len : Nat} {bi : Nat → Nat} {i : Nat} : clB pl b n len bi (len + 2 + i) = clD pl b n i := by
  unfold clB
  rw [if_neg (by omega), if_neg (by omega), if_neg (by omega), show len + 2 + i - (len + 2) = i by omega]
theorem Pre_Row {c : Nat → Int32} {L L' : Nat} {vl : Int32} {B : Nat → Nat} (hB : ∀ i, B i < 256) (h : Pre vl c L B) (e : L = L') : vl = nI L' ∧ Row c 0 L' B := by
  subst e
  exact ⟨h.1, fun i hi => by rw [Nat.zero_add]; exact h.2 i hi, hB⟩
abbrev CcT := Unit × Int32 × Int32 × Int32 × Int32 × Int32 × Int32 × Int32 × (Nat → Int32) × (Nat → Int32) × (Nat → Int32) × (Nat → Int32) × (Nat → Int32) × (Nat → Int32) × (Nat → Int32) × Int32 × (Nat → Int32) × (Nat → Int32) × (Nat → Int32) × (Nat → Int32) × (Nat → Nat → Int32) × (Nat → Int32) × (Nat → Int32) × (Nat → Int32) × (Nat → Int32) × (Nat → Int32) × Int32 × Int32 × Int32 × Int32 × Int32 × (Nat → Int32) × (Nat → Int32) × (Nat → Int32) × (Nat → Int32) × (Nat → Int32) × (Nat → Int32) × Int32 × (Nat → Int32)
def QCc (pieces : Int32) (L : Nat) (B : Nat → Nat) (u : CcT) : Prop := u.2.1 = pieces + 1 ∧ u.2.2.1 = nI 0 ∧ u.2.2.2.2.2.2.2.2.2.2.2.2.2.2.2.2.2.2.2.2.2.2.2.2.2.2.2.2.2.2.2.2.2.2.2.2.2.1 = nI L ∧ Row u.2.2.2.2.2.2.2.2.2.2.2.2.2.2.2.2.2.2.2.2.2.2.2.2.2.2.2.2.2.2.2.2.2.2.2.2.2.2 0 L B
theorem t_closeC {pd fs fd fc fdc img : Nat → Int32} {tc ex ol oo ooc many hrl htc hsl hdl hcl : Int32} {late before od sc dc toks msl lc ls ib it mdl msn msc mdn mdc hrow hcs htd hcle hnx hco : Nat → Int32} {pr : Nat → Nat → Int32} {b bi : Nat → Nat} {n len pl : Nat} {pieces : Int32} (hP : Row pd 0 n b) (hn0 : 1 ≤ n) (hn : n ≤ 8192) (hI : Row img 0 len bi) (hl : len + 8194 ≤ 66000) (hpl : pl ≤ 1) (hF : FixC fs fc fd fdc) : Tt (P_closePiece 200000 8192 286 30 286 30 288 32 19 19 288 32 66000 (nI pl) pd fs fd fc fdc pieces (nI n) tc ex ol oo ooc late before od sc dc toks msl many lc ls ib it pr mdl msn msc mdn mdc hrl htc hsl hdl hcl hrow hcs htd hcle hnx hco (nI len) img) (QCc pieces (len + 2 + clN pl b n) (clB pl b n len bi)) := by
  have hB := @clB_b pl b n len bi hn hP.2 hI.2
  have hP0 : Pre (nI len) img len (clB pl b n len bi) := ⟨rfl, fun i hi => by rw [clB_0 hi]; have := hI.1 i hi; rw [Nat.zero_add] at this; exact this⟩
  have hH := @clH_b pl b n hn
  have hN := clN_b pl b n
  have el : ∀ v, Bytes_length 200000 v = some (v, ()) := fun _ => rfl
  have g72 : ∀ tc ex ol oo ooc late before od sc dc toks msl many lc ls ib it pr mdl msn msc mdn mdc hrl htc hsl hdl hcl hrow hcs htd hcle hnx hco vl c, Pre vl c (len + 2 + clN pl b n) (clB pl b n len bi) → Tt (P_closePiece_72 200000 pieces (nI n) tc ex ol oo ooc late before od sc dc toks msl many lc ls ib it pr mdl msn msc mdn mdc hrl htc hsl hdl hcl hrow hcs htd hcle hnx hco vl c) (QCc pieces (len + 2 + clN pl b n) (clB pl b n len bi)) := by
    intro tc ex ol oo ooc late before od sc dc toks msl many lc ls ib it pr mdl msn msc mdn mdc hrl htc hsl hdl hcl hrow hcs htd hcle hnx hco vl c g
    unfold P_closePiece_72
    have r := Pre_Row hB g rfl
    exact Tt_l (Tt_R1.2 (Tt_o (e_keep0 (by omega)) (Tt_Si ⟨rfl, rfl, r.1, r.2⟩)))
  have gA : ¬ clP pl b n → ∀ tc ex ol oo ooc late before od sc dc toks msl many lc ls ib it pr mdl msn msc mdn mdc hrl htc hsl hdl hcl hrow hcs htd hcle hnx hco s0 q, s0 = nI q → n ≤ q → q ≤ 100000 → Tt (P_closePiece_26 200000 8192 66000 pd pieces (nI n) tc ex ol oo ooc late before od sc dc toks msl many lc ls ib it pr mdl msn msc mdn mdc hrl htc hsl hdl hcl hrow hcs htd hcle hnx hco (nI len) img (nI n) s0) (QCc pieces (len + 2 + clN pl b n) (clB pl b n len bi)) := by
    rintro k tc ex ol oo ooc late before od sc dc toks msl many lc ls ib it pr mdl msn msc mdn mdc hrl htc hsl hdl hcl hrow hcs htd hcle hnx hco _ q rfl h1 h2
    have eN : clN pl b n = n := if_neg k
    have eH : clH pl b n = n + 32768 := if_neg k
    have eD : ∀ i, clD pl b n i = b i := fun i => if_neg k
    unfold P_closePiece_26
    have e1 : nI n + 32768 = nI (n + 32768) := nI_add n 32768
    refine Tt_p (by first | decide | (simp (disch := omega) only [i_0, i_1, i_2, i_3, i_4, i_5, i_6, i_7, i_8, i_9, i_10, i_11, i_13, i_14, i_15, i_16, i_17, i_18, i_19, i_24, i_29, i_30, i_31, i_32, i_138, i_143, i_144, i_254, i_255, i_256, i_257, i_258, i_261, i_264, i_265, i_279, i_280, i_284, i_285, i_286, i_288, i_319, i_320, i_338, i_339, i_575, i_576, i_599, i_600, i_4096, i_8191, i_8192, i_8249, i_8250, i_8256, i_9000, i_16384, i_32767, i_32768, i_65520, i_65521, i_65535, i_65536, i_65999, i_66000, i_1300, i_120, i_156, nI_leI, nI_ltI, nI_eq, nI_add, n_neg, not_false_eq_true, not_true_eq_false] <;> omega)) (Tt_l ?_)
    rw [e1]
    refine Tt_R2.2 (Tt_m (t_headP hP0 (by omega) (by omega) (by rw [clB_1, eH]) (by rw [clB_2, eH])) ?_)
    rintro ⟨_, vl5, c6⟩ g
    dsimp only at g ⊢
    rw [g.1]
    refine Tt_R2.2 (Tt_m (t_addAll (a := 0) (L := len + 2) (k := n) hP hn (by omega) (by omega) (by omega) (by omega)) ?_)
    rintro ⟨_, vl8, c9⟩ ⟨g1, g2⟩
    dsimp only at g1 g2 ⊢
    refine g72 _ _ _ _ _ _ _ _ _ _ _ _ _ _ _ _ _ _ _ _ _ _ _ _ _ _ _ _ _ _ _ _ _ _ _ _ ⟨by rw [eN]; exact g1, fun i hi => ?_⟩
    rw [eN] at hi
    rw [g2 i]
    by_cases w : len + 2 ≤ i ∧ i < len + 2 + n
    · rw [if_pos w, Nat.zero_add]
      have := @clB_3 pl b n len bi (i - (len + 2))
      rw [show len + 2 + (i - (len + 2)) = i by omega, eD] at this
      rw [this]
    · rw [if_neg w]
      exact g.2 i (by omega)
  have gB : clP pl b n → ∀ tc ex ol oo ooc late before od sc dc toks msl many lc ls ib it pr mdl msn msc mdn mdc hrl htc hsl hdl hcl hrow hcs htd hcle hnx hco s0, s0 = nI ((pkA b n).1 / 8) → ol = nI ((pkA b n).1 / 8) → (∀ i, i < (pkA b n).1 / 8 → od i = sx (byt (pkA b n).2 i)) → Tt (P_closePiece_26 200000 8192 66000 pd pieces (nI n) tc ex ol oo ooc late before od sc dc toks msl many lc ls ib it pr mdl msn msc mdn mdc hrl htc hsl hdl hcl hrow hcs htd hcle hnx hco (nI len) img (nI n) s0) (QCc pieces (len + 2 + clN pl b n) (clB pl b n len bi)) := by
    rintro k tc ex ol oo ooc late before od sc dc toks msl many lc ls ib it pr mdl msn msc mdn mdc hrl htc hsl hdl hcl hrow hcs htd hcle hnx hco _ rfl rfl hd
    have eN : clN pl b n = (pkA b n).1 / 8 := if_pos k
    have eH : clH pl b n = (pkA b n).1 / 8 := if_pos k
    have eD : ∀ i, clD pl b n i = byt (pkA b n).2 i := fun i => if_pos k
    have k2 := k.2
    unfold P_closePiece_26
    rw [eN] at g72 ⊢
    generalize (pkA b n).1 / 8 = q at *
    refine Tt_n (by first | decide | (simp (disch := omega) only [i_0, i_1, i_2, i_3, i_4, i_5, i_6, i_7, i_8, i_9, i_10, i_11, i_13, i_14, i_15, i_16, i_17, i_18, i_19, i_24, i_29, i_30, i_31, i_32, i_138, i_143, i_144, i_254, i_255, i_256, i_257, i_258, i_261, i_264, i_265, i_279, i_280, i_284, i_285, i_286, i_288, i_319, i_320, i_338, i_339, i_575, i_576, i_599, i_600, i_4096, i_8191, i_8192, i_8249, i_8250, i_8256, i_9000, i_16384, i_32767, i_32768, i_65520, i_65521, i_65535, i_65536, i_65999, i_66000, i_1300, i_120, i_156, nI_leI, nI_ltI, nI_eq, nI_add, n_neg, not_false_eq_true, not_true_eq_false] <;> omega)) (Tt_R2.2 (Tt_m (t_headP hP0 (by omega) (by omega) (by rw [clB_1, eH]) (by rw [clB_2, eH])) ?_))
    rintro ⟨_, vl5, c6⟩ g
    dsimp only at g ⊢
    refine Tt_R2.2 (Tt_m (t_copyTo g (q := q) (by omega) (by omega) hB (fun i hi => by rw [clB_3, eD]; exact hd i hi)) ?_)
    rintro ⟨_, vl8, c9⟩ g2
    dsimp only at g2 ⊢
    exact g72 _ _ _ _ _ _ _ _ _ _ _ _ _ _ _ _ _ _ _ _ _ _ _ _ _ _ _ _ _ _ _ _ _ _ _ _ g2
  unfold P_closePiece
  refine Tt_R0.2 (Tt_o (el _) ?_)
  dsimp only
  by_cases p0 : pl = 0
  · subst p0
    refine Tt_p rfl (Tt_R34.2 (Tt_m (t_packC hP hn0 hn hF rfl) ?_))
    rintro ⟨r, tc, ex, ol, oo, ooc, late, before, od, sc, dc, toks, msl, many, lc, ls, ib, it, pr, mdl, msn, msc, mdn, mdc, hrl, htc, hsl, hdl, hcl, hrow, hcs, htd, hcle, hnx, hco⟩ hu
    dsimp only at hu ⊢
    obtain ⟨rfl, h1, h2, h3, h4, h5⟩ := hu
    by_cases k : clP 0 b n
    · have k2 := k.2
      rw [Nat.min_eq_left (by omega)] at h1
      exact gB k _ _ _ _ _ _ _ _ _ _ _ _ _ _ _ _ _ _ _ _ _ _ _ _ _ _ _ _ _ _ _ _ _ _ _ h1 h1 (fun i hi => h5 i hi (by omega))
    · have k2 : n ≤ (pkA b n).1 / 8 := by
        rcases (show (pkA b n).1 / 8 < n ∨ n ≤ (pkA b n).1 / 8 by omega) with w | w
        · exact absurd ⟨rfl, w⟩ k
        · exact w
      exact gA k _ _ _ _ _ _ _ _ _ _ _ _ _ _ _ _ _ _ _ _ _ _ _ _ _ _ _ _ _ _ _ _ _ _ _ _ h1 (by omega) (by omega)
  · exact Tt_n (by first | decide | (simp (disch := omega) only [i_0, i_1, i_2, i_3, i_4, i_5, i_6, i_7, i_8, i_9, i_10, i_11, i_13, i_14, i_15, i_16, i_17, i_18, i_19, i_24, i_29, i_30, i_31, i_32, i_138, i_143, i_144, i_254, i_255, i_256, i_257, i_258, i_261, i_264, i_265, i_279, i_280, i_284, i_285, i_286, i_288, i_319, i_320, i_338, i_339, i_575, i_576, i_599, i_600, i_4096, i_8191, i_8192, i_8249, i_8250, i_8256, i_9000, i_16384, i_32767, i_32768, i_65520, i_65521, i_65535, i_65536, i_65999, i_66000, i_1300, i_120, i_156, nI_leI, nI_ltI, nI_eq, nI_add, n_neg, not_false_eq_true, not_true_eq_false] <;> omega)) (gA (fun k => p0 k.1) _ _ _ _ _ _ _ _ _ _ _ _ _ _ _ _ _ _ _ _ _ _ _ _ _ _ _ _ _ _ _ _ _ _ _ n rfl (by omega) (by omega))
abbrev CmT := Unit × Int32 × Int32 × Int32 × Int32 × Int32 × (Nat → Int32) × (Nat → Int32) × (Nat → Int32) × (Nat → Int32) × (Nat → Int32) × (Nat → Int32) × (Nat → Int32) × (Nat → Int32) × (Nat → Int32) × (Nat → Int32) × (Nat → Int32) × (Nat → Int32) × (Nat → Int32) × (Nat → Int32) × (Nat → Int32) × (Nat → Int32) × (Nat → Int32) × (Nat → Int32)
def QCm (k L : Nat) (B : Nat → Nat) (starts : Nat → Int32) (u : CmT) : Prop := u.2.1 = nI (k + 1) ∧ u.2.2.1 = nI L ∧ Row u.2.2.2.2.2.2.2.2.2.2.2.2.2.2.2.2.2.2.2.2.2.2.1 0 L B ∧ u.2.2.2.2.2.2.2.2.2.2.2.2.2.2.2.2.2.2.2.2.2.2.2 = upd starts (k + 1) (nI L)
theorem t_closeM {row img starts : Nat → Int32} {pb tok st : Int32} {pla pbe pk tl tv cnt rk lns we wb it lr sp mo fx co : Nat → Int32} {b bi : Nat → Nat} {n len pl k : Nat} (hP : Row row (8192 * k) n b) (hn0 : 1 ≤ n) (hn : n ≤ 8192) (hk : k ≤ 7) (hI : Row img 0 len bi) (hl : len + 8194 ≤ 66000) (hpl : pl ≤ 1) : Tt (M_closePiece 200000 (nI pl) (nI (8192 * k + n)) row (nI k) (nI len) pb tok st pla pbe pk tl tv cnt rk lns we wb it lr sp mo fx co img starts) (QCm k (len + 2 + clN pl b n) (clB pl b n len bi) starts) := by
  have hB := @clB_b pl b n len bi hn hP.2 hI.2
  have hP0 : Pre (nI len) img len (clB pl b n len bi) := ⟨rfl, fun i hi => by rw [clB_0 hi]; have := hI.1 i hi; rw [Nat.zero_add] at this; exact this⟩
  have hH := @clH_b pl b n hn
  have hN := clN_b pl b n
  have g56 : ∀ pb tok st pla pbe pk tl tv cnt rk lns we wb it lr sp mo fx co q, q ≤ 100000 → (n ≤ q ∧ ¬ clP pl b n ∨ clP pl b n ∧ q = (pkA b n).1 / 8 ∧ ∀ i, i < q → pk i = sx (byt (pkA b n).2 i)) → Tt (M_closePiece_56 200000 row (nI k) (nI len) pb tok st pla pbe pk tl tv cnt rk lns we wb it lr sp mo fx co img starts (nI (8192 * k)) (nI n) (nI q) (nI (clH pl b n))) (QCm k (len + 2 + clN pl b n) (clB pl b n len bi) starts) := by
    intro pb tok st pla pbe pk tl tv cnt rk lns we wb it lr sp mo fx co q hq hc
    unfold M_closePiece_56
    refine Tt_R2.2 (Tt_m (t_preM hP0 (by omega) (by rw [bo_I _ (by omega), clB_1])) ?_)
    rintro ⟨_, vl1, c1⟩ g1
    dsimp only at g1 ⊢
    have e : nI (clH pl b n) >>> ((8 : Int32) &&& 31) = nI (clH pl b n / 2 ^ 8) := n_shr (k := 8) (by omega) (by omega)
    refine Tt_l ?_
    rw [e]
    refine Tt_R2.2 (Tt_m (t_preM g1 (by omega) (by rw [bo_I _ (by omega), clB_2]; omega)) ?_)
    rintro ⟨_, vl2, c2⟩ g2
    dsimp only at g2 ⊢
    refine Tt_W27 (fun mm pcs isz _ _ _ _ _ pk' _ _ _ _ _ _ _ _ _ _ _ _ _ im st' x1 x2 x3 x5 => pcs = nI k ∧ pk' = pk ∧ st' = starts ∧ x1 = nI (8192 * k) ∧ x2 = nI n ∧ x3 = nI q ∧ ∃ j, x5 = nI j ∧ j ≤ clN pl b n ∧ mm = clN pl b n - j ∧ Pre isz im (len + 2 + j) (clB pl b n len bi)) ?_ 200000 (clN pl b n) _ _ _ _ _ _ _ _ _ _ _ _ _ _ _ _ _ _ _ _ _ _ _ _ _ _ _ (by omega) ⟨rfl, rfl, rfl, rfl, rfl, rfl, 0, rfl, by omega, rfl, g2⟩
    rintro K mm pcs isz pb tok st pla pbe pk' tl tv cnt rk lns we wb it lr sp mo fx co im st' x1 x2 x3 x5 ⟨rfl, rfl, rfl, rfl, rfl, rfl, j, rfl, hj, rfl, g3⟩ ih
    have g125 : clN pl b n ≤ j → Tt (M_closePiece_125 200000 (nI k) isz pb tok st pla pbe pk' tl tv cnt rk lns we wb it lr sp mo fx co im st') (QCm k (len + 2 + clN pl b n) (clB pl b n len bi) st') := by
      intro w
      have r := Pre_Row hB g3 (show len + 2 + j = len + 2 + clN pl b n by omega)
      unfold M_closePiece_125
      refine Tt_l ?_
      rw [nI_1]
      refine Tt_g (by omega) (by omega) (Tt_l (Tt_Si ⟨rfl, r.1, r.2, ?_⟩))
      dsimp only
      rw [nI_clamp (by omega), r.1]
    have g116 : ∀ v, bo v = clB pl b n len bi (len + 2 + j) → j < clN pl b n → Tt (M_closePiece_116 200000 K (nI k) isz pb tok st pla pbe pk' tl tv cnt rk lns we wb it lr sp mo fx co im st' (nI (8192 * k)) (nI n) (nI q) (nI j) v) (QCm k (len + 2 + clN pl b n) (clB pl b n len bi) st') := by
      intro v hv w
      unfold M_closePiece_116
      refine Tt_R2.2 (Tt_m (t_preM g3 (by omega) hv) ?_)
      rintro ⟨_, vl4, c4⟩ g4
      dsimp only at g4 ⊢
      refine Tt_l ?_
      rw [nI_1]
      exact ih (clN pl b n - (j + 1)) _ _ _ _ _ _ _ _ _ _ _ _ _ _ _ _ _ _ _ _ _ _ _ _ _ _ _ (by omega) ⟨rfl, rfl, rfl, rfl, rfl, rfl, j + 1, rfl, by omega, rfl, g4⟩
    unfold M_closePiece_76
    rcases hc with ⟨hc1, hc2⟩ | ⟨hc1, hc2, hc3⟩
    · have eN : clN pl b n = n := if_neg hc2
      have eD : ∀ i, clD pl b n i = b i := fun i => if_neg hc2
      refine Tt_p (by first | decide | (simp (disch := omega) only [i_0, i_1, i_2, i_3, i_4, i_5, i_6, i_7, i_8, i_9, i_10, i_11, i_13, i_14, i_15, i_16, i_17, i_18, i_19, i_24, i_29, i_30, i_31, i_32, i_138, i_143, i_144, i_254, i_255, i_256, i_257, i_258, i_261, i_264, i_265, i_279, i_280, i_284, i_285, i_286, i_288, i_319, i_320, i_338, i_339, i_575, i_576, i_599, i_600, i_4096, i_8191, i_8192, i_8249, i_8250, i_8256, i_9000, i_16384, i_32767, i_32768, i_65520, i_65521, i_65535, i_65536, i_65999, i_66000, i_1300, i_120, i_156, nI_leI, nI_ltI, nI_eq, nI_add, n_neg, not_false_eq_true, not_true_eq_false] <;> omega)) ?_
      unfold M_closePiece_88
      by_cases w : n ≤ j
      · exact Tt_p (by first | decide | (simp (disch := omega) only [i_0, i_1, i_2, i_3, i_4, i_5, i_6, i_7, i_8, i_9, i_10, i_11, i_13, i_14, i_15, i_16, i_17, i_18, i_19, i_24, i_29, i_30, i_31, i_32, i_138, i_143, i_144, i_254, i_255, i_256, i_257, i_258, i_261, i_264, i_265, i_279, i_280, i_284, i_285, i_286, i_288, i_319, i_320, i_338, i_339, i_575, i_576, i_599, i_600, i_4096, i_8191, i_8192, i_8249, i_8250, i_8256, i_9000, i_16384, i_32767, i_32768, i_65520, i_65521, i_65535, i_65536, i_65999, i_66000, i_1300, i_120, i_156, nI_leI, nI_ltI, nI_eq, nI_add, n_neg, not_false_eq_true, not_true_eq_false] <;> omega)) (g125 (by omega))
      · refine Tt_n (by first | decide | (simp (disch := omega) only [i_0, i_1, i_2, i_3, i_4, i_5, i_6, i_7, i_8, i_9, i_10, i_11, i_13, i_14, i_15, i_16, i_17, i_18, i_19, i_24, i_29, i_30, i_31, i_32, i_138, i_143, i_144, i_254, i_255, i_256, i_257, i_258, i_261, i_264, i_265, i_279, i_280, i_284, i_285, i_286, i_288, i_319, i_320, i_338, i_339, i_575, i_576, i_599, i_600, i_4096, i_8191, i_8192, i_8249, i_8250, i_8256, i_9000, i_16384, i_32767, i_32768, i_65520, i_65521, i_65535, i_65536, i_65999, i_66000, i_1300, i_120, i_156, nI_leI, nI_ltI, nI_eq, nI_add, n_neg, not_false_eq_true, not_true_eq_false] <;> omega)) (Tt_p (by first | decide | (simp (disch := omega) only [i_0, i_1, i_2, i_3, i_4, i_5, i_6, i_7, i_8, i_9, i_10, i_11, i_13, i_14, i_15, i_16, i_17, i_18, i_19, i_24, i_29, i_30, i_31, i_32, i_138, i_143, i_144, i_254, i_255, i_256, i_257, i_258, i_261, i_264, i_265, i_279, i_280, i_284, i_285, i_286, i_288, i_319, i_320, i_338, i_339, i_575, i_576, i_599, i_600, i_4096, i_8191, i_8192, i_8249, i_8250, i_8256, i_9000, i_16384, i_32767, i_32768, i_65520, i_65521, i_65535, i_65536, i_65999, i_66000, i_1300, i_120, i_156, nI_leI, nI_ltI, nI_eq, nI_add, n_neg, not_false_eq_true, not_true_eq_false] <;> omega)) (Tt_l ?_))
        rw [nI_add]
        refine Tt_g (by omega) (by omega) (g116 _ ?_ (by omega))
        rw [nI_clamp (by omega), hP.1 j (by omega), bo_s _ (hP.2 j), clB_3, eD]
    · have eN : clN pl b n = (pkA b n).1 / 8 := if_pos hc1
      have eD : ∀ i, clD pl b n i = byt (pkA b n).2 i := fun i => if_pos hc1
      have k2 := hc1.2
      refine Tt_n (by first | decide | (simp (disch := omega) only [i_0, i_1, i_2, i_3, i_4, i_5, i_6, i_7, i_8, i_9, i_10, i_11, i_13, i_14, i_15, i_16, i_17, i_18, i_19, i_24, i_29, i_30, i_31, i_32, i_138, i_143, i_144, i_254, i_255, i_256, i_257, i_258, i_261, i_264, i_265, i_279, i_280, i_284, i_285, i_286, i_288, i_319, i_320, i_338, i_339, i_575, i_576, i_599, i_600, i_4096, i_8191, i_8192, i_8249, i_8250, i_8256, i_9000, i_16384, i_32767, i_32768, i_65520, i_65521, i_65535, i_65536, i_65999, i_66000, i_1300, i_120, i_156, nI_leI, nI_ltI, nI_eq, nI_add, n_neg, not_false_eq_true, not_true_eq_false] <;> omega)) ?_
      unfold M_closePiece_88
      by_cases w : q ≤ j
      · exact Tt_p (by first | decide | (simp (disch := omega) only [i_0, i_1, i_2, i_3, i_4, i_5, i_6, i_7, i_8, i_9, i_10, i_11, i_13, i_14, i_15, i_16, i_17, i_18, i_19, i_24, i_29, i_30, i_31, i_32, i_138, i_143, i_144, i_254, i_255, i_256, i_257, i_258, i_261, i_264, i_265, i_279, i_280, i_284, i_285, i_286, i_288, i_319, i_320, i_338, i_339, i_575, i_576, i_599, i_600, i_4096, i_8191, i_8192, i_8249, i_8250, i_8256, i_9000, i_16384, i_32767, i_32768, i_65520, i_65521, i_65535, i_65536, i_65999, i_66000, i_1300, i_120, i_156, nI_leI, nI_ltI, nI_eq, nI_add, n_neg, not_false_eq_true, not_true_eq_false] <;> omega)) (g125 (by omega))
      · refine Tt_n (by first | decide | (simp (disch := omega) only [i_0, i_1, i_2, i_3, i_4, i_5, i_6, i_7, i_8, i_9, i_10, i_11, i_13, i_14, i_15, i_16, i_17, i_18, i_19, i_24, i_29, i_30, i_31, i_32, i_138, i_143, i_144, i_254, i_255, i_256, i_257, i_258, i_261, i_264, i_265, i_279, i_280, i_284, i_285, i_286, i_288, i_319, i_320, i_338, i_339, i_575, i_576, i_599, i_600, i_4096, i_8191, i_8192, i_8249, i_8250, i_8256, i_9000, i_16384, i_32767, i_32768, i_65520, i_65521, i_65535, i_65536, i_65999, i_66000, i_1300, i_120, i_156, nI_leI, nI_ltI, nI_eq, nI_add, n_neg, not_false_eq_true, not_true_eq_false] <;> omega)) (Tt_n (by first | decide | (simp (disch := omega) only [i_0, i_1, i_2, i_3, i_4, i_5, i_6, i_7, i_8, i_9, i_10, i_11, i_13, i_14, i_15, i_16, i_17, i_18, i_19, i_24, i_29, i_30, i_31, i_32, i_138, i_143, i_144, i_254, i_255, i_256, i_257, i_258, i_261, i_264, i_265, i_279, i_280, i_284, i_285, i_286, i_288, i_319, i_320, i_338, i_339, i_575, i_576, i_599, i_600, i_4096, i_8191, i_8192, i_8249, i_8250, i_8256, i_9000, i_16384, i_32767, i_32768, i_65520, i_65521, i_65535, i_65536, i_65999, i_66000, i_1300, i_120, i_156, nI_leI, nI_ltI, nI_eq, nI_add, n_neg, not_false_eq_true, not_true_eq_false] <;> omega)) (Tt_g (by omega) (by omega) (g116 _ ?_ (by omega))))
        rw [nI_clamp (by omega), hc3 j (by omega), bo_s _ (byt_256 _ _), clB_3, eD]
  unfold M_closePiece
  have e1 : 8192 * nI k = nI (8192 * k) := pk_mul 8192 k
  refine Tt_l (Tt_l ?_)
  rw [e1, pk_sub (by omega), show 8192 * k + n - 8192 * k = n by omega]
  refine Tt_n (by first | decide | (simp (disch := omega) only [i_0, i_1, i_2, i_3, i_4, i_5, i_6, i_7, i_8, i_9, i_10, i_11, i_13, i_14, i_15, i_16, i_17, i_18, i_19, i_24, i_29, i_30, i_31, i_32, i_138, i_143, i_144, i_254, i_255, i_256, i_257, i_258, i_261, i_264, i_265, i_279, i_280, i_284, i_285, i_286, i_288, i_319, i_320, i_338, i_339, i_575, i_576, i_599, i_600, i_4096, i_8191, i_8192, i_8249, i_8250, i_8256, i_9000, i_16384, i_32767, i_32768, i_65520, i_65521, i_65535, i_65536, i_65999, i_66000, i_1300, i_120, i_156, nI_leI, nI_ltI, nI_eq, nI_add, n_neg, not_false_eq_true, not_true_eq_false] <;> omega)) ?_
  have e3 : nI n ||| 32768 = nI (n + 32768) := n_ord (a := n) (b := 1) (k := 15) (by omega)
  have gA : ¬ clP pl b n → ∀ pb tok st pla pbe pk tl tv cnt rk lns we wb it lr sp mo fx co s0 q, s0 = nI q → n ≤ q → q ≤ 100000 → Tt (M_closePiece_42 200000 row (nI k) (nI len) pb tok st pla pbe pk tl tv cnt rk lns we wb it lr sp mo fx co img starts (nI (8192 * k)) (nI n) s0) (QCm k (len + 2 + clN pl b n) (clB pl b n len bi) starts) := by
    rintro w pb tok st pla pbe pk tl tv cnt rk lns we wb it lr sp mo fx co _ q rfl h1 h2
    have eH : clH pl b n = n + 32768 := if_neg w
    unfold M_closePiece_42
    refine Tt_p (by first | decide | (simp (disch := omega) only [i_0, i_1, i_2, i_3, i_4, i_5, i_6, i_7, i_8, i_9, i_10, i_11, i_13, i_14, i_15, i_16, i_17, i_18, i_19, i_24, i_29, i_30, i_31, i_32, i_138, i_143, i_144, i_254, i_255, i_256, i_257, i_258, i_261, i_264, i_265, i_279, i_280, i_284, i_285, i_286, i_288, i_319, i_320, i_338, i_339, i_575, i_576, i_599, i_600, i_4096, i_8191, i_8192, i_8249, i_8250, i_8256, i_9000, i_16384, i_32767, i_32768, i_65520, i_65521, i_65535, i_65536, i_65999, i_66000, i_1300, i_120, i_156, nI_leI, nI_ltI, nI_eq, nI_add, n_neg, not_false_eq_true, not_true_eq_false] <;> omega)) ?_
    rw [e3, ← eH]
    exact g56 _ _ _ _ _ _ _ _ _ _ _ _ _ _ _ _ _ _ _ q h2 (Or.inl ⟨h1, w⟩)
  by_cases p0 : pl = 0
  · subst p0
    refine Tt_p rfl (Tt_R19.2 (Tt_m (t_packM hP hn0 hn (by omega) (by omega) rfl rfl) ?_))
    rintro ⟨r, pb, tok, st, pla, pbe, pk, tl, tv, cnt, rk, lns, we, wb, it, lr, sp, mo, fx, co⟩ hu
    dsimp only at hu ⊢
    obtain ⟨rfl, h1, h2, h3⟩ := hu
    by_cases w : clP 0 b n
    · have w2 := w.2
      have eH : clH 0 b n = (pkA b n).1 / 8 := if_pos w
      unfold M_closePiece_42
      refine Tt_n (by first | decide | (simp (disch := omega) only [i_0, i_1, i_2, i_3, i_4, i_5, i_6, i_7, i_8, i_9, i_10, i_11, i_13, i_14, i_15, i_16, i_17, i_18, i_19, i_24, i_29, i_30, i_31, i_32, i_138, i_143, i_144, i_254, i_255, i_256, i_257, i_258, i_261, i_264, i_265, i_279, i_280, i_284, i_285, i_286, i_288, i_319, i_320, i_338, i_339, i_575, i_576, i_599, i_600, i_4096, i_8191, i_8192, i_8249, i_8250, i_8256, i_9000, i_16384, i_32767, i_32768, i_65520, i_65521, i_65535, i_65536, i_65999, i_66000, i_1300, i_120, i_156, nI_leI, nI_ltI, nI_eq, nI_add, n_neg, not_false_eq_true, not_true_eq_false] <;> omega)) ?_
      have g := g56 pb tok st pla pbe pk tl tv cnt rk lns we wb it lr sp mo fx co ((pkA b n).1 / 8) (by omega) (Or.inr ⟨w, rfl, fun i hi => h3 i (by omega)⟩)
      rw [eH] at g
      exact g
    · have k2 : n ≤ (pkA b n).1 / 8 := by
        rcases (show (pkA b n).1 / 8 < n ∨ n ≤ (pkA b n).1 / 8 by omega) with w' | w'
        · exact absurd ⟨rfl, w'⟩ w
        · exact w'
      exact gA w _ _ _ _ _ _ _ _ _ _ _ _ _ _ _ _ _ _ _ _ _ rfl k2 (pk_small hP.2 hn0 hn)
  · exact Tt_n (by first | decide | (simp (disch := omega) only [i_0, i_1, i_2, i_3, i_4, i_5, i_6, i_7, i_8, i_9, i_10, i_11, i_13, i_14, i_15, i_16, i_17, i_18, i_19, i_24, i_29, i_30, i_31, i_32, i_138, i_143, i_144, i_254, i_255, i_256, i_257, i_258, i_261, i_264, i_265, i_279, i_280, i_284, i_285, i_286, i_288, i_319, i_320, i_338, i_339, i_575, i_576, i_599, i_600, i_4096, i_8191, i_8192, i_8249, i_8250, i_8256, i_9000, i_16384, i_32767, i_32768, i_65520, i_65521, i_65535, i_65536, i_65999, i_66000, i_1300, i_120, i_156, nI_leI, nI_ltI, nI_eq, nI_add, n_neg, not_false_eq_true, not_true_eq_false] <;> omega)) (gA (fun w => p0 w.1) _ _ _ _ _ _ _ _ _ _ _ _ _ _ _ _ _ _ _ _ n rfl (by omega) (by omega))
