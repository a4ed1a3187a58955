/-! the reference's tree -/
theorem cz_le (c : Nat) : ∀ j, cz c j ≤ j := by
  intro j
  induction j with
  | zero => exact Nat.le_refl 0
  | succ j ih =>
    show cz c j + (if c % 2 ^ (j + 1) = 0 then 1 else 0) ≤ j + 1
    split <;> omega
theorem nd_ins {l c x nodes : Nat} (hl : 1 ≤ l) (hx : c = 0 ∨ 0 < x) (h : nodes ≤ ndB l c x) : nodes + cz c (l - 1) ≤ ndB l (c + 1) (x + 1) := by
  unfold ndB at *
  rw [if_neg (by omega), Nat.add_sub_cancel]
  by_cases e : c = 0
  · subst e
    rw [if_pos rfl] at h
    have := cz_le 0 (l - 1)
    rw [zr_0]
    omega
  · rw [if_neg e] at h
    have := cz_zr l c hl (by omega)
    omega
theorem nd_dbl {l c x : Nat} : ndB (l + 1) (2 * c) x = ndB l c x := by
  unfold ndB
  by_cases e : c = 0
  · subst e; rfl
  · rw [if_neg (by omega), if_neg e, show 2 * c - 1 = 2 * (c - 1) + 1 by omega, zr_d]
theorem nd_b {l c x : Nat} (hl : l ≤ 16) (hx : x ≤ 288) : ndB l c x ≤ 304 := by
  unfold ndB
  have := zr_le l (c - 1)
  split <;> omega
/-- a tree: paths of its nodes, leaves lf (depth, way, symbol), inner places inn (depth, way) -/
def TI (next : Nat → Int32) (nodes : Nat) (path : Nat → Nat × Nat) (lf : Nat → Nat → Nat → Prop) (inn : Nat → Nat → Prop) : Prop := path 0 = (0, 0) ∧ 0 < nodes ∧ (∀ u v, u < nodes → v < nodes → path u = path v → u = v) ∧ (∀ w, 0 < w → w < nodes → ∃ u b, u < nodes ∧ b < 2 ∧ path w = ((path u).1 + 1, 2 * (path u).2 + b) ∧ next (2 * u + b) = nI w) ∧ ∀ v b, v < nodes → b < 2 → ((∀ s, lf ((path v).1 + 1) (2 * (path v).2 + b) s → next (2 * v + b) = nI 0 - nI (s + 1)) ∧ ((¬ ∃ s, lf ((path v).1 + 1) (2 * (path v).2 + b) s) → inn ((path v).1 + 1) (2 * (path v).2 + b) → ∃ w, 0 < w ∧ w < nodes ∧ next (2 * v + b) = nI w ∧ path w = ((path v).1 + 1, 2 * (path v).2 + b)) ∧ ((¬ ∃ s, lf ((path v).1 + 1) (2 * (path v).2 + b) s) → ¬ inn ((path v).1 + 1) (2 * (path v).2 + b) → next (2 * v + b) = nI 0))
theorem TI_c {next : Nat → Int32} {nodes : Nat} {path : Nat → Nat × Nat} {lf lf' : Nat → Nat → Nat → Prop} {inn inn' : Nat → Nat → Prop} (h : TI next nodes path lf inn) (hl : ∀ d y s, 0 < d → (lf d y s ↔ lf' d y s)) (hi : ∀ d y, 0 < d → (inn d y ↔ inn' d y)) : TI next nodes path lf' inn' := by
  obtain ⟨h1, h2, h3, h4, h5⟩ := h
  refine ⟨h1, h2, h3, h4, fun v b hv hb => ?_⟩
  obtain ⟨a1, a2, a3⟩ := h5 v b hv hb
  refine ⟨fun s hs => a1 s ((hl _ _ _ (by omega)).mpr hs), fun q1 q2 => a2 (fun ⟨s, hs⟩ => q1 ⟨s, (hl _ _ _ (by omega)).mp hs⟩) ((hi _ _ (by omega)).mpr q2), fun q1 q2 => a3 (fun ⟨s, hs⟩ => q1 ⟨s, (hl _ _ _ (by omega)).mp hs⟩) (fun z => q2 ((hi _ _ (by omega)).mp z))⟩
def lfI (f : Nat → Nat) (n l s : Nat) (d y x : Nat) : Prop := ins f n l s x ∧ f x = d ∧ cde f n x = y
def inI (f : Nat → Nat) (n l s : Nat) (d y : Nat) : Prop := ∃ x, ins f n l s x ∧ d < f x ∧ cde f n x / 2 ^ (f x - d) = y
/-- the inner places when the way of code c of length l is there down to depth i -/
def inE (f : Nat → Nat) (n l s c i : Nat) (d y : Nat) : Prop := inI f n l s d y ∨ (d ≤ i ∧ c / 2 ^ (l - d) = y)
theorem div2 (a k : Nat) : 2 * (a / 2 ^ (k + 1)) + a / 2 ^ k % 2 = a / 2 ^ k := by
  have : a / 2 ^ (k + 1) = a / 2 ^ k / 2 := by rw [Nat.pow_succ, Nat.div_div_eq_div_mul]
  rw [this]
  omega
theorem TI_new {f : Nat → Nat} {n l s c k nodes v : Nat} {next : Nat → Int32} {path : Nat → Nat × Nat} (hc : c = bs f n l + cn f l s) (hk1 : 1 ≤ k) (hk : k < l) (hn : 2 * nodes + 1 < 1300) (hT : TI next nodes path (lfI f n l s) (inE f n l s c (l - 1 - k))) (hv : v < nodes) (hp : path v = (l - 1 - k, c / 2 ^ (k + 1))) (hno : ¬ inI f n l s (l - k) (c / 2 ^ k)) : TI (upd (upd (upd next (2 * v + c / 2 ^ k % 2) (nI nodes)) (2 * nodes) (nI 0)) (2 * nodes + 1) (nI 0)) (nodes + 1) (fun u => if u = nodes then (l - k, c / 2 ^ k) else path u) (lfI f n l s) (inE f n l s c (l - k)) := by
  obtain ⟨h1, h2, h3, h4, h5⟩ := hT
  have bt : c / 2 ^ k % 2 < 2 := Nat.mod_lt _ (by omega)
  have hw := div2 c k
  generalize hy : c / 2 ^ k = y at *
  generalize hb : y % 2 = b at *
  have e1 : (path v).1 + 1 = l - k := by rw [hp]; show l - 1 - k + 1 = l - k; omega
  have e2 : 2 * (path v).2 + b = y := by rw [hp]; exact hw
  have noleaf : ¬ ∃ x, lfI f n l s (l - k) y x := by
    rintro ⟨x, i1, i2, i3⟩
    have := pre_div i1
    rw [i2, show l - (l - k) = k by omega, ← hc, hy] at this
    omega
  have noin : ¬ inE f n l s c (l - 1 - k) (l - k) y := by
    rintro (q | q)
    · exact hno q
    · omega
  have zero : next (2 * v + b) = nI 0 := by
    have := (h5 v b hv bt).2.2
    rw [e1, e2] at this
    exact this noleaf noin
  have pn : ∀ u, u < nodes → (if u = nodes then (l - k, y) else path u) = path u := fun u hu => if_neg (by omega)
  have old : ∀ u b', u < nodes → b' < 2 → ¬ (u = v ∧ b' = b) → upd (upd (upd next (2 * v + b) (nI nodes)) (2 * nodes) (nI 0)) (2 * nodes + 1) (nI 0) (2 * u + b') = next (2 * u + b') := by
    intro u b' hu hb' hne
    rw [pk_un (by omega), pk_un (by omega), pk_un (by omega)]
  have uniq : ∀ u b', u < nodes → b' < 2 → (path u).1 + 1 = l - k → 2 * (path u).2 + b' = y → u = v ∧ b' = b := by
    intro u b' hu hb' g1 g2
    have g3 : (path u).2 = (path v).2 := by omega
    have g4 : (path u).1 = (path v).1 := by omega
    have g5 : path u = path v := Prod.ext g4 g3
    exact ⟨h3 u v hu hv g5, by omega⟩
  refine ⟨?_, by omega, ?_, ?_, ?_⟩
  · show (if 0 = nodes then (l - k, y) else path 0) = (0, 0)
    rw [if_neg (by omega)]; exact h1
  · intro u u' hu hu' he
    dsimp only at he
    have key : ∀ u, u < nodes → path u = (l - k, y) → False := by
      intro u hu hpu
      have u0 : 0 < u := by
        rcases Nat.eq_zero_or_pos u with z | z
        · subst z
          rw [h1] at hpu
          have := congrArg Prod.fst hpu
          dsimp only at this
          omega
        · exact z
      obtain ⟨p, b', g1, g2, g3, g4⟩ := h4 u u0 hu
      rw [hpu] at g3
      have g5 := congrArg Prod.fst g3
      have g6 := congrArg Prod.snd g3
      dsimp only at g5 g6
      obtain ⟨rfl, rfl⟩ := uniq p b' g1 g2 g5.symm g6.symm
      rw [zero] at g4
      have := (nI_eq (by omega) (by omega)).mp g4
      omega
    by_cases z : u = nodes
    · by_cases z' : u' = nodes
      · omega
      · rw [if_pos z, if_neg z'] at he
        exact absurd he.symm (fun q => key u' (by omega) q)
    · by_cases z' : u' = nodes
      · rw [if_neg z, if_pos z'] at he
        exact absurd he (fun q => key u (by omega) q)
      · rw [if_neg z, if_neg z'] at he
        exact h3 u u' (by omega) (by omega) he
  · intro w w0 hw'
    by_cases z : w = nodes
    · subst z
      refine ⟨v, b, by omega, bt, ?_, ?_⟩
      · show (if w = w then (l - k, y) else path w) = ((if v = w then (l - k, y) else path v).1 + 1, 2 * (if v = w then (l - k, y) else path v).2 + b)
        rw [if_pos rfl, if_neg (by omega), e1, e2]
      · rw [pk_un (by omega), pk_un (by omega), pk_us]
    · obtain ⟨p, b', g1, g2, g3, g4⟩ := h4 w w0 (by omega)
      refine ⟨p, b', by omega, g2, ?_, ?_⟩
      · show (if w = nodes then (l - k, y) else path w) = ((if p = nodes then (l - k, y) else path p).1 + 1, 2 * (if p = nodes then (l - k, y) else path p).2 + b')
        rw [if_neg z, if_neg (by omega)]; exact g3
      · rw [old p b' g1 g2]
        · exact g4
        · rintro ⟨rfl, rfl⟩
          rw [zero] at g4
          have := (nI_eq (by omega) (by omega)).mp g4
          omega
  · intro u b' hu hb'
    dsimp only
    by_cases z : u = nodes
    · subst z
      rw [if_pos rfl]
      dsimp only
      have sub : ∀ x, ins f n l s x → l - k < f x → cde f n x / 2 ^ (f x - (l - k + 1)) = 2 * y + b' → False := by
        intro x i1 i2 i3
        apply hno
        refine ⟨x, i1, i2, ?_⟩
        have : cde f n x / 2 ^ (f x - (l - k)) = cde f n x / 2 ^ (f x - (l - k + 1)) / 2 := by
          rw [Nat.div_div_eq_div_mul, ← Nat.pow_succ, show f x - (l - k + 1) + 1 = f x - (l - k) by omega]
        rw [this, i3]
        omega
      have n1 : ¬ ∃ x, lfI f n l s (l - k + 1) (2 * y + b') x := by
        rintro ⟨x, i1, i2, i3⟩
        exact sub x i1 (by omega) (by rw [i2, Nat.sub_self, Nat.pow_zero, Nat.div_one]; exact i3)
      have n2 : ¬ inE f n l s c (l - k) (l - k + 1) (2 * y + b') := by
        rintro (⟨x, i1, i2, i3⟩ | q)
        · exact sub x i1 (by omega) i3
        · omega
      refine ⟨fun x hx => absurd ⟨x, hx⟩ n1, fun _ q => absurd q n2, fun _ _ => ?_⟩
      have : b' = 0 ∨ b' = 1 := by omega
      rcases this with rfl | rfl
      · rw [pk_un (by omega), Nat.add_zero, pk_us]
      · rw [pk_us]
    · rw [if_neg z]
      by_cases e : u = v ∧ b' = b
      · obtain ⟨rfl, rfl⟩ := e
        rw [e1, e2]
        refine ⟨fun x hx => absurd ⟨x, hx⟩ noleaf, fun _ _ => ⟨nodes, h2, by omega, ?_, if_pos rfl⟩, fun _ q => absurd (Or.inr ⟨Nat.le_refl _, by rw [show l - (l - k) = k by omega]; exact hy⟩) q⟩
        rw [pk_un (by omega), pk_un (by omega), pk_us]
      · rw [old u b' (by omega) hb' e]
        obtain ⟨a1, a2, a3⟩ := h5 u b' (by omega) hb'
        have same : inE f n l s c (l - k) ((path u).1 + 1) (2 * (path u).2 + b') → inE f n l s c (l - 1 - k) ((path u).1 + 1) (2 * (path u).2 + b') := by
          rintro (q | ⟨q1, q2⟩)
          · exact Or.inl q
          · by_cases w : (path u).1 + 1 = l - k
            · exfalso
              apply e
              apply uniq u b' (by omega) hb' w
              rw [← q2, w, show l - (l - k) = k by omega]
              exact hy
            · exact Or.inr ⟨by omega, q2⟩
        have same2 : inE f n l s c (l - 1 - k) ((path u).1 + 1) (2 * (path u).2 + b') → inE f n l s c (l - k) ((path u).1 + 1) (2 * (path u).2 + b') := by
          rintro (q | ⟨q1, q2⟩)
          · exact Or.inl q
          · exact Or.inr ⟨by omega, q2⟩
        refine ⟨a1, fun q1 q2 => ?_, fun q1 q2 => a3 q1 (fun q => q2 (same2 q))⟩
        obtain ⟨w, w1, w2, w3, w4⟩ := a2 q1 (same q2)
        exact ⟨w, w1, by omega, w3, by rw [if_neg (by omega)]; exact w4⟩
theorem ins_s {f : Nat → Nat} {n l s x : Nat} (hs : s < n) (hl : f s = l) (h0 : 0 < l) : ins f n l (s + 1) x ↔ ins f n l s x ∨ x = s := by
  unfold ins
  constructor
  · rintro ⟨h1, h2, h3⟩
    by_cases e : x = s
    · exact Or.inr e
    · exact Or.inl ⟨h1, h2, by omega⟩
  · rintro (⟨h1, h2, h3⟩ | rfl)
    · exact ⟨h1, h2, by omega⟩
    · exact ⟨hs, by omega, Or.inr ⟨hl, by omega⟩⟩
theorem TI_leaf {f : Nat → Nat} {n l s c nodes v : Nat} {next : Nat → Int32} {path : Nat → Nat × Nat} (hs : s < n) (hl : f s = l) (h0 : 0 < l) (hc : c = bs f n l + cn f l s) (hn : nodes ≤ 650) (hT : TI next nodes path (lfI f n l s) (inE f n l s c (l - 1))) (hv : v < nodes) (hp : path v = (l - 1, c / 2)) : TI (upd next (2 * v + c % 2) (nI 0 - nI (s + 1))) nodes path (lfI f n l (s + 1)) (inI f n l (s + 1)) := by
  have ec : cde f n s = c := by unfold cde; rw [hl, hc]
  have hin : ∀ d y, 0 < d → (inI f n l (s + 1) d y ↔ inE f n l s c (l - 1) d y) := by
    intro d y hd
    constructor
    · rintro ⟨x, i1, i2, i3⟩
      rcases (ins_s hs hl h0).mp i1 with i1 | rfl
      · exact Or.inl ⟨x, i1, i2, i3⟩
      · right
        rw [ec, hl] at i3
        exact ⟨by omega, i3⟩
    · rintro (⟨x, i1, i2, i3⟩ | ⟨q1, q2⟩)
      · exact ⟨x, (ins_s hs hl h0).mpr (Or.inl i1), i2, i3⟩
      · exact ⟨s, (ins_s hs hl h0).mpr (Or.inr rfl), by omega, by rw [ec, hl]; exact q2⟩
  have hlf : ∀ d y x, lfI f n l (s + 1) d y x ↔ lfI f n l s d y x ∨ (x = s ∧ d = l ∧ y = c) := by
    intro d y x
    unfold lfI
    rw [ins_s hs hl h0]
    constructor
    · rintro ⟨i1 | rfl, i2, i3⟩
      · exact Or.inl ⟨i1, i2, i3⟩
      · exact Or.inr ⟨rfl, by omega, by omega⟩
    · rintro (⟨i1, i2, i3⟩ | ⟨rfl, rfl, rfl⟩)
      · exact ⟨Or.inl i1, i2, i3⟩
      · exact ⟨Or.inr rfl, hl, ec⟩
  have nol : ∀ x, ¬ lfI f n l s l c x := by
    rintro x ⟨i1, i2, i3⟩
    have := pre_le i1
    rw [i2, Nat.sub_self, Nat.pow_zero, i3] at this
    omega
  have noi : ¬ inE f n l s c (l - 1) l c := by
    rintro (⟨x, i1, i2, i3⟩ | q)
    · have := i1.2.2
      omega
    · omega
  obtain ⟨h1, h2, h3, h4, h5⟩ := hT
  have bt : c % 2 < 2 := Nat.mod_lt _ (by omega)
  generalize hb : c % 2 = b at *
  have e1 : (path v).1 + 1 = l := by rw [hp]; show l - 1 + 1 = l; omega
  have e2 : 2 * (path v).2 + b = c := by rw [hp]; show 2 * (c / 2) + b = c; omega
  have zero : next (2 * v + b) = nI 0 := by
    have := (h5 v b hv bt).2.2
    rw [e1, e2] at this
    exact this (fun ⟨x, hx⟩ => nol x hx) noi
  have uniq : ∀ u b', u < nodes → b' < 2 → (path u).1 + 1 = l → 2 * (path u).2 + b' = c → u = v ∧ b' = b := by
    intro u b' hu hb' g1 g2
    have g3 : (path u).2 = (path v).2 := by omega
    have g4 : (path u).1 = (path v).1 := by omega
    have g5 : path u = path v := Prod.ext g4 g3
    exact ⟨h3 u v hu hv g5, by omega⟩
  refine ⟨h1, h2, h3, ?_, ?_⟩
  · intro w w0 hw
    obtain ⟨p, b', g1, g2, g3, g4⟩ := h4 w w0 hw
    refine ⟨p, b', g1, g2, g3, ?_⟩
    by_cases e : 2 * p + b' = 2 * v + b
    · rw [e, zero] at g4
      have := (nI_eq (by omega) (by omega)).mp g4
      omega
    · rw [pk_un e]; exact g4
  · intro u b' hu hb'
    obtain ⟨a1, a2, a3⟩ := h5 u b' hu hb'
    by_cases e : u = v ∧ b' = b
    · obtain ⟨rfl, rfl⟩ := e
      rw [e1, e2]
      have iss : lfI f n l (s + 1) l c s := (hlf _ _ _).mpr (Or.inr ⟨rfl, rfl, rfl⟩)
      refine ⟨fun x hx => ?_, fun q => absurd ⟨s, iss⟩ q, fun q => absurd ⟨s, iss⟩ q⟩
      rw [pk_us]
      rcases (hlf _ _ _).mp hx with q | q
      · exact absurd q (nol x)
      · rw [q.1]
    · have ne : ¬ (2 * u + b' = 2 * v + b) := by omega
      rw [pk_un ne]
      have nq : ¬ ((path u).1 + 1 = l ∧ 2 * (path u).2 + b' = c) := fun q => e (uniq u b' hu hb' q.1 q.2)
      have lq : ∀ x, lfI f n l (s + 1) ((path u).1 + 1) (2 * (path u).2 + b') x → lfI f n l s ((path u).1 + 1) (2 * (path u).2 + b') x := by
        intro x hx
        rcases (hlf _ _ _).mp hx with q | q
        · exact q
        · exact absurd ⟨q.2.1, q.2.2⟩ nq
      refine ⟨fun x hx => a1 x (lq x hx), fun q1 q2 => a2 (fun ⟨x, hx⟩ => q1 ⟨x, (hlf _ _ _).mpr (Or.inl hx)⟩) ((hin _ _ (by omega)).mp q2), fun q1 q2 => a3 (fun ⟨x, hx⟩ => q1 ⟨x, (hlf _ _ _).mpr (Or.inl hx)⟩) (fun z => q2 ((hin _ _ (by omega)).mpr z))⟩
