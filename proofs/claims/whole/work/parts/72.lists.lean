/-! lists of symbols and pairs: numbers alone -/
def sm (f : Nat → Nat) : Nat → Nat
  | 0 => 0
  | n + 1 => sm f n + f n
theorem sm_ge {f : Nat → Nat} : ∀ {n i : Nat}, i < n → f i ≤ sm f n := by
  intro n
  induction n with
  | zero => intro i h; omega
  | succ n ih =>
    intro i h
    show f i ≤ sm f n + f n
    by_cases e : i = n
    · subst e; omega
    · have := ih (i := i) (by omega); omega
theorem sm_le {f : Nat → Nat} : ∀ {n : Nat}, (∀ i, i < n → f i ≤ 1) → sm f n ≤ n := by
  intro n
  induction n with
  | zero => intro _; exact Nat.le_refl 0
  | succ n ih =>
    intro h
    show sm f n + f n ≤ n + 1
    have a := ih (fun i hi => h i (by omega))
    have b := h n (by omega)
    omega
theorem sm_0 {f : Nat → Nat} : ∀ {n : Nat}, (∀ i, i < n → f i = 0) → sm f n = 0 := by
  intro n
  induction n with
  | zero => intro _; rfl
  | succ n ih =>
    intro h
    show sm f n + f n = 0
    have a := ih (fun i hi => h i (by omega))
    have b := h n (by omega)
    omega
theorem sm_c {f g : Nat → Nat} : ∀ {n : Nat}, (∀ i, i < n → f i = g i) → sm f n = sm g n := by
  intro n
  induction n with
  | zero => intro _; rfl
  | succ n ih =>
    intro h
    show sm f n + f n = sm g n + g n
    rw [ih (fun i hi => h i (by omega)), h n (by omega)]
theorem st_mono {f : Nat → Nat} {n : Nat} (h : ∀ i, i + 1 < n → f i ≤ f (i + 1)) : ∀ i j, i ≤ j → j < n → f i ≤ f j := by
  intro i j hij
  induction j with
  | zero => intro _; have : i = 0 := by omega
            subst this; exact Nat.le_refl _
  | succ j ih =>
    intro hj
    by_cases e : i = j + 1
    · subst e; exact Nat.le_refl _
    · exact Nat.le_trans (ih (by omega) (by omega)) (h j hj)
def gA (m q : Nat) (w p : Nat → Nat) : Nat → Nat
  | 0 => 0
  | i + 1 => if i - gA m q w p i = q ∨ (gA m q w p i < m ∧ w (gA m q w p i) ≤ p (i - gA m q w p i)) then gA m q w p i + 1 else gA m q w p i
def gS (m q : Nat) (w p : Nat → Nat) (i : Nat) : Bool := decide (i - gA m q w p i = q ∨ (gA m q w p i < m ∧ w (gA m q w p i) ≤ p (i - gA m q w p i)))
theorem gA_t {m q : Nat} {w p : Nat → Nat} {i : Nat} (h : gS m q w p i = true) : gA m q w p (i + 1) = gA m q w p i + 1 := if_pos (of_decide_eq_true h)
theorem gA_f {m q : Nat} {w p : Nat → Nat} {i : Nat} (h : gS m q w p i = false) : gA m q w p (i + 1) = gA m q w p i := if_neg (of_decide_eq_false h)
def gW (m q : Nat) (w p : Nat → Nat) (i : Nat) : Nat := if gS m q w p i = true then w (gA m q w p i) else p (i - gA m q w p i)
theorem gW_t {m q : Nat} {w p : Nat → Nat} {i : Nat} (h : gS m q w p i = true) : gW m q w p i = w (gA m q w p i) := if_pos h
theorem gW_f {m q : Nat} {w p : Nat → Nat} {i : Nat} (h : gS m q w p i = false) : gW m q w p i = p (i - gA m q w p i) := if_neg (by rw [h]; exact Bool.false_ne_true)
theorem gA_le {m q : Nat} {w p : Nat → Nat} : ∀ i, gA m q w p i ≤ i := by
  intro i
  induction i with
  | zero => exact Nat.le_refl 0
  | succ i ih =>
    cases h : gS m q w p i with
    | true => rw [gA_t h]; omega
    | false => rw [gA_f h]; omega
theorem gA_b {m q : Nat} {w p : Nat → Nat} : ∀ i, i ≤ m + q → gA m q w p i ≤ m ∧ i - gA m q w p i ≤ q := by
  intro i
  induction i with
  | zero => intro _; exact ⟨Nat.zero_le _, by omega⟩
  | succ i ih =>
    intro hi
    have h1 := ih (by omega)
    have h2 := @gA_le m q w p i
    cases h : gS m q w p i with
    | true =>
      rw [gA_t h]
      have h3 := of_decide_eq_true h
      rcases h3 with h3 | h3
      · omega
      · have := h3.1; omega
    | false =>
      rw [gA_f h]
      have h3 := of_decide_eq_false h
      have h4 : ¬ (i - gA m q w p i = q) := fun z => h3 (Or.inl z)
      omega
theorem g_last {m q : Nat} {w p : Nat → Nat} (hs : ∀ a b, a ≤ b → b < m → w a ≤ w b) (hq : 0 < q) (hl : w (m - 1) ≤ p (q - 1)) : ∀ i, i ≤ m + q → i - gA m q w p i = q → gA m q w p i = m := by
  intro i
  induction i with
  | zero => intro _ h; exfalso; omega
  | succ i ih =>
    intro hi hb
    have h1 := @gA_b m q w p (i + 1) hi
    have h2 := @gA_le m q w p i
    cases h : gS m q w p i with
    | true =>
      rw [gA_t h] at hb h1 ⊢
      have := ih (by omega) (by omega)
      omega
    | false =>
      rw [gA_f h] at hb h1 ⊢
      have h3 := of_decide_eq_false h
      by_cases ha : gA m q w p i < m
      · exfalso
        apply h3
        right
        refine ⟨ha, ?_⟩
        have e : i - gA m q w p i = q - 1 := by omega
        rw [e]
        exact Nat.le_trans (hs _ (m - 1) (by omega) (by omega)) hl
      · omega
theorem g_mono {m q : Nat} {w p : Nat → Nat} (hs : ∀ a b, a ≤ b → b < m → w a ≤ w b) (hp : ∀ a b, a ≤ b → b < q → p a ≤ p b) : ∀ i, i + 1 < m + q → gW m q w p i ≤ gW m q w p (i + 1) := by
  intro i hi
  have b0 := @gA_b m q w p i (by omega)
  have b1 := @gA_b m q w p (i + 1) (by omega)
  have l0 := @gA_le m q w p i
  cases h0 : gS m q w p i with
  | true =>
    have e := gA_t h0
    rw [gW_t h0]
    have c0 := of_decide_eq_true h0
    cases h1 : gS m q w p (i + 1) with
    | true =>
      rw [gW_t h1, e]
      have c1 := of_decide_eq_true h1
      rw [e] at c1
      apply hs _ _ (by omega)
      rcases c1 with c1 | c1
      · omega
      · exact c1.1
    | false =>
      rw [gW_f h1, e]
      have c1 := of_decide_eq_false h1
      rw [e] at c1
      have e2 : i + 1 - (gA m q w p i + 1) = i - gA m q w p i := by omega
      rw [e2]
      rcases c0 with c0 | c0
      · exfalso
        apply c1
        left
        omega
      · exact c0.2
  | false =>
    have e := gA_f h0
    rw [gW_f h0]
    have c0 := of_decide_eq_false h0
    have n0 : ¬ (i - gA m q w p i = q) := fun z => c0 (Or.inl z)
    cases h1 : gS m q w p (i + 1) with
    | true =>
      rw [gW_t h1, e]
      have c1 := of_decide_eq_true h1
      rw [e] at c1
      have ha : gA m q w p i < m := by
        rcases c1 with c1 | c1
        · omega
        · exact c1.1
      have : ¬ (w (gA m q w p i) ≤ p (i - gA m q w p i)) := fun z => c0 (Or.inr ⟨ha, z⟩)
      omega
    | false =>
      rw [gW_f h1, e]
      have c1 := of_decide_eq_false h1
      rw [e] at c1
      have n1 : ¬ (i + 1 - gA m q w p i = q) := fun z => c1 (Or.inl z)
      rw [e] at b1
      exact hp _ _ (by omega) (by omega)
theorem g_find {m q : Nat} {w p : Nat → Nat} : ∀ i a, gA m q w p i = a + 1 → ∃ j, j < i ∧ gA m q w p j = a ∧ gS m q w p j = true := by
  intro i
  induction i with
  | zero => intro a h; cases h
  | succ i ih =>
    intro a h
    cases h0 : gS m q w p i with
    | true =>
      rw [gA_t h0] at h
      exact ⟨i, by omega, by omega, h0⟩
    | false =>
      rw [gA_f h0] at h
      obtain ⟨j, hj, h1, h2⟩ := ih a h
      exact ⟨j, by omega, h1, h2⟩
def gZ (m : Nat) : Nat → Nat
  | 0 => m
  | k + 1 => m + gZ m k / 2
def gQ (m : Nat) : Nat → Nat
  | 0 => 0
  | k + 1 => gZ m k / 2
theorem gZ_e (m k : Nat) : gZ m k = m + gQ m k := by cases k <;> rfl
def gV (m : Nat) (w : Nat → Nat) : Nat → Nat → Nat
  | 0 => gW m 0 w (fun _ => 0)
  | k + 1 => gW m (gZ m k / 2) w (fun b => gV m w k (2 * b) + gV m w k (2 * b + 1))
def gP (m : Nat) (w : Nat → Nat) : Nat → Nat → Nat
  | 0 => fun _ => 0
  | k + 1 => fun b => gV m w k (2 * b) + gV m w k (2 * b + 1)
def gL (m : Nat) (w : Nat → Nat) (k : Nat) : Nat → Nat := gA m (gQ m k) w (gP m w k)
def gY (m : Nat) (w : Nat → Nat) (k : Nat) : Nat → Bool := gS m (gQ m k) w (gP m w k)
theorem gV_e (m : Nat) (w : Nat → Nat) (k : Nat) : gV m w k = gW m (gQ m k) w (gP m w k) := by cases k <;> rfl
theorem gV_mono {m : Nat} {w : Nat → Nat} (hs : ∀ a b, a ≤ b → b < m → w a ≤ w b) : ∀ k i, i + 1 < gZ m k → gV m w k i ≤ gV m w k (i + 1) := by
  intro k
  induction k with
  | zero =>
    intro i hi
    exact g_mono hs (fun a b _ h => by omega) i hi
  | succ k ih =>
    intro i hi
    refine g_mono hs (fun a b hab hb => ?_) i hi
    have := st_mono ih
    have h1 := this (2 * a) (2 * b) (by omega) (by omega)
    have h2 := this (2 * a + 1) (2 * b + 1) (by omega) (by omega)
    show gV m w k (2 * a) + gV m w k (2 * a + 1) ≤ gV m w k (2 * b) + gV m w k (2 * b + 1)
    omega
theorem gZ_lo {m : Nat} (hm : 0 < m) : ∀ k, 2 * m ≤ gZ m k + (m - 1) / 2 ^ k + 1 := by
  intro k
  induction k with
  | zero => show 2 * m ≤ m + (m - 1) / 1 + 1; omega
  | succ k ih =>
    have e : (m - 1) / 2 ^ (k + 1) = (m - 1) / 2 ^ k / 2 := by rw [Nat.pow_succ, Nat.div_div_eq_div_mul]
    rw [e]
    show 2 * m ≤ m + gZ m k / 2 + (m - 1) / 2 ^ k / 2 + 1
    generalize (m - 1) / 2 ^ k = z at *
    omega
theorem gZ_hi {m : Nat} (hm : 0 < m) : ∀ k, gZ m k ≤ 2 * m - 1 := by
  intro k
  induction k with
  | zero => show m ≤ 2 * m - 1; omega
  | succ k ih => show m + gZ m k / 2 ≤ 2 * m - 1; omega
theorem gL_in {m : Nat} {w : Nat → Nat} (hs : ∀ a b, a ≤ b → b < m → w a ≤ w b) (k i : Nat) (hi : i < gZ m k) (h : gL m w k (i + 1) = m) (hm : 0 < m) : w (m - 1) ≤ gV m w k i := by
  obtain ⟨j, hj, h1, h2⟩ := g_find (i + 1) (m - 1) (show gA m (gQ m k) w (gP m w k) (i + 1) = m - 1 + 1 by have : gA m (gQ m k) w (gP m w k) (i + 1) = m := h; omega)
  have e : gV m w k j = w (m - 1) := by rw [gV_e, gW_t h2, h1]
  rw [← e]
  exact st_mono (gV_mono hs k) j i (by omega) hi
theorem gL_all {m : Nat} {w : Nat → Nat} (hs : ∀ a b, a ≤ b → b < m → w a ≤ w b) (hm : 2 ≤ m) : ∀ k, 2 * m - 2 ≤ gZ m k → w (m - 1) ≤ gV m w k (2 * m - 3) ∧ (gZ m k = 2 * m - 1 → gL m w k (2 * m - 2) = m) := by
  intro k
  have small : ∀ k, gZ m k = 2 * m - 2 → w (m - 1) ≤ gV m w k (2 * m - 3) := by
    intro k h
    have z := gZ_e m k
    have b := @gA_b m (gQ m k) w (gP m w k) (2 * m - 2) (by omega)
    refine gL_in hs k (2 * m - 3) (by omega) ?_ (by omega)
    show gA m (gQ m k) w (gP m w k) (2 * m - 3 + 1) = m
    rw [show 2 * m - 3 + 1 = 2 * m - 2 by omega]
    omega
  induction k with
  | zero =>
    intro h
    have h' : 2 * m - 2 ≤ m := h
    refine ⟨small 0 (show m = 2 * m - 2 by omega), fun q => ?_⟩
    have q' : m = 2 * m - 1 := q
    omega
  | succ k ih =>
    intro h
    have hi := @gZ_hi m (by omega) (k + 1)
    by_cases e : gZ m (k + 1) = 2 * m - 2
    · exact ⟨small _ e, fun q => by omega⟩
    · have e1 : gZ m (k + 1) = 2 * m - 1 := by omega
      have e2 : m + gZ m k / 2 = 2 * m - 1 := e1
      have i1 := (ih (by omega)).1
      have q1 : gQ m (k + 1) = m - 1 := by show gZ m k / 2 = m - 1; omega
      have hA : gL m w (k + 1) (2 * m - 2) = m := by
        have b := @gA_b m (gQ m (k + 1)) w (gP m w (k + 1)) (2 * m - 2) (by omega)
        have l := @g_last m (gQ m (k + 1)) w (gP m w (k + 1)) hs (by omega) (by
          rw [q1]
          show w (m - 1) ≤ gV m w k (2 * (m - 1 - 1)) + gV m w k (2 * (m - 1 - 1) + 1)
          rw [show 2 * (m - 1 - 1) + 1 = 2 * m - 3 by omega]
          omega) (2 * m - 2) (by omega)
        show gA m (gQ m (k + 1)) w (gP m w (k + 1)) (2 * m - 2) = m
        by_cases z : 2 * m - 2 - gA m (gQ m (k + 1)) w (gP m w (k + 1)) (2 * m - 2) = gQ m (k + 1)
        · exact l z
        · omega
      refine ⟨gL_in hs (k + 1) (2 * m - 3) (by omega) ?_ (by omega), fun _ => hA⟩
      rw [show 2 * m - 3 + 1 = 2 * m - 2 by omega]
      exact hA
def gT (m : Nat) (w : Nat → Nat) (K : Nat) : Nat → Nat
  | 0 => 2 * m - 2
  | j + 1 => 2 * (gT m w K j - gL m w (K - 1 - j) (gT m w K j))
theorem gT_le {m : Nat} {w : Nat → Nat} {K : Nat} (hm : 0 < m) (hK : (m - 1) / 2 ^ (K - 1) = 0) : ∀ j, j < K → gT m w K j ≤ gZ m (K - 1 - j) := by
  intro j
  induction j with
  | zero =>
    intro _
    have := @gZ_lo m hm (K - 1)
    show 2 * m - 2 ≤ gZ m (K - 1)
    omega
  | succ j ih =>
    intro hj
    have h := ih (by omega)
    rw [gZ_e] at h
    have b := @gA_b m (gQ m (K - 1 - j)) w (gP m w (K - 1 - j)) (gT m w K j) h
    show 2 * (gT m w K j - gA m (gQ m (K - 1 - j)) w (gP m w (K - 1 - j)) (gT m w K j)) ≤ gZ m (K - 1 - (j + 1))
    have e : K - 1 - j = (K - 1 - (j + 1)) + 1 := by omega
    have e2 : gQ m (K - 1 - j) = gZ m (K - 1 - (j + 1)) / 2 := by rw [e]; rfl
    omega
def gN (r : Nat → Nat) (A x : Nat) : Nat := sm (fun a => if r a = x then 1 else 0) A
def gH (m : Nat) (w r : Nat → Nat) (K x : Nat) : Nat := sm (fun j => gN r (gL m w (K - 1 - j) (gT m w K j)) x) K
def gD (m : Nat) (w r : Nat → Nat) (x : Nat) : Nat → Nat → Nat
  | 0, i => if r (gL m w 0 i) = x then 1 else 0
  | k + 1, i => if gY m w (k + 1) i = true then (if r (gL m w (k + 1) i) = x then 1 else 0) else gD m w r x k (2 * (i - gL m w (k + 1) i)) + gD m w r x k (2 * (i - gL m w (k + 1) i) + 1)
theorem gL0 (m : Nat) (w : Nat → Nat) : ∀ i, gL m w 0 i = i := by
  intro i
  induction i with
  | zero => rfl
  | succ i ih =>
    have h : gS m (gQ m 0) w (gP m w 0) i = true := by
      apply decide_eq_true
      left
      have : gA m (gQ m 0) w (gP m w 0) i = i := ih
      rw [this]
      exact Nat.sub_self i
    show gA m (gQ m 0) w (gP m w 0) (i + 1) = i + 1
    rw [gA_t h]
    have : gA m (gQ m 0) w (gP m w 0) i = i := ih
    rw [this]
theorem gD_0 (m : Nat) (w r : Nat → Nat) (x t : Nat) : sm (gD m w r x 0) t = gN r (gL m w 0 t) x := by
  rw [gL0]
  unfold gN
  apply sm_c
  intro i _
  show (if r (gL m w 0 i) = x then 1 else 0) = _
  rw [gL0]
theorem gD_s (m : Nat) (w r : Nat → Nat) (x k : Nat) : ∀ t, sm (gD m w r x (k + 1)) t = gN r (gL m w (k + 1) t) x + sm (gD m w r x k) (2 * (t - gL m w (k + 1) t)) := by
  intro t
  induction t with
  | zero => rfl
  | succ t ih =>
    show sm (gD m w r x (k + 1)) t + gD m w r x (k + 1) t = _
    rw [ih]
    have l : gL m w (k + 1) t ≤ t := gA_le t
    cases h : gY m w (k + 1) t with
    | true =>
      have e : gL m w (k + 1) (t + 1) = gL m w (k + 1) t + 1 := gA_t h
      have e2 : gD m w r x (k + 1) t = if r (gL m w (k + 1) t) = x then 1 else 0 := if_pos h
      rw [e, e2, show t + 1 - (gL m w (k + 1) t + 1) = t - gL m w (k + 1) t by omega]
      show _ = (gN r (gL m w (k + 1) t) x + (if r (gL m w (k + 1) t) = x then 1 else 0)) + _
      omega
    | false =>
      have e : gL m w (k + 1) (t + 1) = gL m w (k + 1) t := gA_f h
      have e2 : gD m w r x (k + 1) t = gD m w r x k (2 * (t - gL m w (k + 1) t)) + gD m w r x k (2 * (t - gL m w (k + 1) t) + 1) := if_neg (by rw [h]; exact Bool.false_ne_true)
      rw [e, e2, show 2 * (t + 1 - gL m w (k + 1) t) = 2 * (t - gL m w (k + 1) t) + 1 + 1 by omega]
      show _ = _ + (sm (gD m w r x k) (2 * (t - gL m w (k + 1) t)) + gD m w r x k (2 * (t - gL m w (k + 1) t)) + gD m w r x k (2 * (t - gL m w (k + 1) t) + 1))
      omega
theorem gD_all (m : Nat) (w r : Nat → Nat) (x K : Nat) : ∀ j, j < K → sm (gD m w r x (K - 1)) (gT m w K 0) = sm (fun j => gN r (gL m w (K - 1 - j) (gT m w K j)) x) j + sm (gD m w r x (K - 1 - j)) (gT m w K j) := by
  intro j
  induction j with
  | zero => intro _; show _ = 0 + _; rw [Nat.zero_add]; rfl
  | succ j ih =>
    intro hj
    rw [ih (by omega)]
    have e : K - 1 - j = (K - 1 - (j + 1)) + 1 := by omega
    have s := gD_s m w r x (K - 1 - (j + 1)) (gT m w K j)
    rw [← e] at s
    rw [s]
    show _ = (sm (fun j => gN r (gL m w (K - 1 - j) (gT m w K j)) x) j + gN r (gL m w (K - 1 - j) (gT m w K j)) x) + sm (gD m w r x (K - 1 - (j + 1))) (2 * (gT m w K j - gL m w (K - 1 - j) (gT m w K j)))
    omega
/-- the reference's items, all taken, give what the lists give -/
theorem gD_H (m : Nat) (w r : Nat → Nat) (x K : Nat) (hK : 0 < K) : sm (gD m w r x (K - 1)) (2 * m - 2) = gH m w r K x := by
  have h := gD_all m w r x K (K - 1) (by omega)
  have e : gT m w K 0 = 2 * m - 2 := rfl
  rw [e] at h
  rw [h, show K - 1 - (K - 1) = 0 by omega, gD_0]
  unfold gH
  have e2 : K = (K - 1) + 1 := by omega
  have s : sm (fun j => gN r (gL m w (K - 1 - j) (gT m w K j)) x) K = sm (fun j => gN r (gL m w (K - 1 - j) (gT m w K j)) x) (K - 1) + gN r (gL m w (K - 1 - (K - 1)) (gT m w K (K - 1))) x := by
    conv => lhs; rw [e2]
    rfl
  rw [s, show K - 1 - (K - 1) = 0 by omega]
theorem gN_1 {r : Nat → Nat} {x : Nat} : ∀ {A : Nat}, (∀ a b, a < A → b < A → r a = r b → a = b) → gN r A x ≤ 1 := by
  intro A
  induction A with
  | zero => intro _; exact Nat.zero_le 1
  | succ A ih =>
    intro h
    show gN r A x + (if r A = x then 1 else 0) ≤ 1
    by_cases e : r A = x
    · rw [if_pos e]
      have z : gN r A x = 0 := sm_0 (fun i hi => if_neg (fun q => by
        have := h i A (by omega) (by omega) (by rw [q, e])
        omega))
      omega
    · rw [if_neg e]
      exact ih (fun a b ha hb => h a b (by omega) (by omega))
theorem gL_m {m : Nat} {w : Nat → Nat} {K : Nat} (hm : 0 < m) (hK : (m - 1) / 2 ^ (K - 1) = 0) {j : Nat} (hj : j < K) : gL m w (K - 1 - j) (gT m w K j) ≤ m := by
  have h := @gT_le m w K hm hK j hj
  rw [gZ_e] at h
  exact (gA_b _ h).1
theorem gH_hi {m : Nat} {w r : Nat → Nat} {K x : Nat} (hm : 0 < m) (hK : (m - 1) / 2 ^ (K - 1) = 0) (hi : ∀ a b, a < m → b < m → r a = r b → a = b) : gH m w r K x ≤ K := by
  apply sm_le
  intro j hj
  apply gN_1
  intro a b ha hb
  have := @gL_m m w K hm hK j hj
  exact hi a b (by omega) (by omega)
theorem gH_lo {m : Nat} {w r : Nat → Nat} {K a : Nat} (hm : 2 ≤ m) (hK0 : 0 < K) (hK : (m - 1) / 2 ^ (K - 1) = 0) (hs : ∀ a b, a ≤ b → b < m → w a ≤ w b) (ha : a < m) : 1 ≤ gH m w r K (r a) := by
  have z1 := @gZ_lo m (by omega) (K - 1)
  have z2 := @gZ_hi m (by omega) (K - 1)
  have e := (gL_all hs hm (K - 1) (by omega)).2 (by omega)
  have g := @sm_ge (fun j => gN r (gL m w (K - 1 - j) (gT m w K j)) (r a)) K 0 hK0
  refine Nat.le_trans ?_ g
  show 1 ≤ gN r (gL m w (K - 1 - 0) (2 * m - 2)) (r a)
  rw [Nat.sub_zero, e]
  have g2 := @sm_ge (fun b => if r b = r a then 1 else 0) m a ha
  have g3 : (fun b => if r b = r a then 1 else 0) a = 1 := if_pos rfl
  rw [g3] at g2
  exact g2
theorem gH_0 {m : Nat} {w r : Nat → Nat} {K x : Nat} (hm : 0 < m) (hK : (m - 1) / 2 ^ (K - 1) = 0) (h : ∀ a, a < m → r a ≠ x) : gH m w r K x = 0 := by
  apply sm_0
  intro j hj
  apply sm_0
  intro a ha
  have := @gL_m m w K hm hK j hj
  exact if_neg (h a (by omega))
/-! rank: symbols with a count, by count -/
def rkP (c r : Nat → Nat) (x : Nat) : Nat → Nat
  | 0 => 0
  | k + 1 => if x < c (r k) then rkP c r x k else k + 1
def rkI (r : Nat → Nat) (p s : Nat) : Nat → Nat := fun j => if j < p then r j else if j = p then s else r (j - 1)
def rk (c : Nat → Nat) : Nat → Nat × (Nat → Nat)
  | 0 => (0, fun _ => 0)
  | s + 1 => if 0 < c s then ((rk c s).1 + 1, rkI (rk c s).2 (rkP c (rk c s).2 (c s) (rk c s).1) s) else rk c s
theorem rkP_le (c r : Nat → Nat) (x : Nat) : ∀ k, rkP c r x k ≤ k := by
  intro k
  induction k with
  | zero => exact Nat.le_refl 0
  | succ k ih =>
    show (if x < c (r k) then rkP c r x k else k + 1) ≤ k + 1
    split <;> omega
theorem rkP_hi (c r : Nat → Nat) (x : Nat) : ∀ k j, rkP c r x k ≤ j → j < k → x < c (r j) := by
  intro k
  induction k with
  | zero => intro j _ h; omega
  | succ k ih =>
    intro j h1 h2
    by_cases e : x < c (r k)
    · have : rkP c r x (k + 1) = rkP c r x k := if_pos e
      rw [this] at h1
      by_cases z : j = k
      · subst z; exact e
      · exact ih j h1 (by omega)
    · have : rkP c r x (k + 1) = k + 1 := if_neg e
      omega
theorem rkP_lo (c r : Nat → Nat) (x : Nat) : ∀ k, 0 < rkP c r x k → c (r (rkP c r x k - 1)) ≤ x := by
  intro k
  induction k with
  | zero => intro h; exact absurd h (Nat.lt_irrefl 0)
  | succ k ih =>
    by_cases e : x < c (r k)
    · have : rkP c r x (k + 1) = rkP c r x k := if_pos e
      rw [this]; exact ih
    · have : rkP c r x (k + 1) = k + 1 := if_neg e
      rw [this]
      intro _
      show c (r (k + 1 - 1)) ≤ x
      rw [Nat.add_sub_cancel]
      omega
/-- what holds of the rank of the first s symbols -/
def rkOK (c : Nat → Nat) (s m : Nat) (r : Nat → Nat) : Prop := m ≤ s ∧ (∀ a, a < m → r a < s ∧ 0 < c (r a)) ∧ (∀ a b, a < m → b < m → r a = r b → a = b) ∧ (∀ a b, a ≤ b → b < m → c (r a) ≤ c (r b)) ∧ (∀ x, x < s → 0 < c x → ∃ a, a < m ∧ r a = x)
theorem rk_ok (c : Nat → Nat) : ∀ s, rkOK c s (rk c s).1 (rk c s).2 := by
  intro s
  induction s with
  | zero => exact ⟨Nat.le_refl 0, fun a h => by cases h, fun a b h => by cases h, fun a b _ h => by cases h, fun x h => by cases h⟩
  | succ s ih =>
    obtain ⟨i1, i2, i3, i4, i5⟩ := ih
    by_cases e : 0 < c s
    · have e1 : rk c (s + 1) = ((rk c s).1 + 1, rkI (rk c s).2 (rkP c (rk c s).2 (c s) (rk c s).1) s) := if_pos e
      rw [e1]
      generalize (rk c s).1 = m at *
      generalize (rk c s).2 = r at *
      have pl := rkP_le c r (c s) m
      have ph := rkP_hi c r (c s) m
      have po := rkP_lo c r (c s) m
      generalize rkP c r (c s) m = p at *
      have v1 : ∀ j, j < p → rkI r p s j = r j := fun j h => if_pos h
      have v2 : rkI r p s p = s := by
        show (if p < p then r p else if p = p then s else r (p - 1)) = s
        rw [if_neg (Nat.lt_irrefl p), if_pos rfl]
      have v3 : ∀ j, p < j → rkI r p s j = r (j - 1) := fun j h => by
        show (if j < p then r j else if j = p then s else r (j - 1)) = r (j - 1)
        rw [if_neg (by omega), if_neg (by omega)]
      refine ⟨by omega, ?_, ?_, ?_, ?_⟩
      · intro a ha
        rcases Nat.lt_trichotomy a p with h | h | h
        · rw [v1 a h]; have := i2 a (by omega); exact ⟨by omega, this.2⟩
        · subst h; rw [v2]; exact ⟨by omega, e⟩
        · rw [v3 a h]; have := i2 (a - 1) (by omega); exact ⟨by omega, this.2⟩
      · intro a b ha hb hab
        rcases Nat.lt_trichotomy a p with h | h | h <;> rcases Nat.lt_trichotomy b p with g | g | g
        · rw [v1 a h, v1 b g] at hab; exact i3 a b (by omega) (by omega) hab
        · subst g; rw [v1 a h, v2] at hab; have := (i2 a (by omega)).1; omega
        · rw [v1 a h, v3 b g] at hab; have := i3 a (b - 1) (by omega) (by omega) hab; omega
        · subst h; rw [v2, v1 b g] at hab; have := (i2 b (by omega)).1; omega
        · omega
        · subst h; rw [v2, v3 b g] at hab; have := (i2 (b - 1) (by omega)).1; omega
        · rw [v3 a h, v1 b g] at hab; have := i3 (a - 1) b (by omega) (by omega) hab; omega
        · subst g; rw [v3 a h, v2] at hab; have := (i2 (a - 1) (by omega)).1; omega
        · rw [v3 a h, v3 b g] at hab; have := i3 (a - 1) (b - 1) (by omega) (by omega) hab; omega
      · intro a b hab hb
        rcases Nat.lt_trichotomy a p with h | h | h <;> rcases Nat.lt_trichotomy b p with g | g | g
        · rw [v1 a h, v1 b g]; exact i4 a b hab (by omega)
        · rw [g, v1 a h, v2]
          have q1 := po (by omega)
          have q2 := i4 a (p - 1) (by omega) (by omega)
          omega
        · rw [v1 a h, v3 b g]; exact i4 a (b - 1) (by omega) (by omega)
        · omega
        · rw [h, g]; exact Nat.le_refl _
        · rw [h, v2, v3 b g]; have := ph (b - 1) (by omega) (by omega); omega
        · omega
        · omega
        · rw [v3 a h, v3 b g]; exact i4 (a - 1) (b - 1) (by omega) (by omega)
      · intro x hx hc
        by_cases z : x = s
        · exact ⟨p, by omega, by rw [v2, z]⟩
        · obtain ⟨a, ha, hr⟩ := i5 x (by omega) hc
          by_cases h : a < p
          · exact ⟨a, by omega, by rw [v1 a h, hr]⟩
          · refine ⟨a + 1, by omega, ?_⟩
            rw [v3 (a + 1) (by omega), Nat.add_sub_cancel, hr]
    · have e1 : rk c (s + 1) = rk c s := if_neg e
      rw [e1]
      refine ⟨by omega, fun a h => ?_, i3, i4, fun x hx hc => ?_⟩
      · have := i2 a h; exact ⟨by omega, this.2⟩
      · by_cases z : x = s
        · subst z; exact absurd hc e
        · exact i5 x (by omega) hc
/-- the lengths of codes that the lists give to n symbols with counts c, at most K -/
def fitL (c : Nat → Nat) (n K x : Nat) : Nat := if (rk c n).1 = 0 then 0 else if (rk c n).1 = 1 then (if (rk c n).2 0 = x then 1 else 0) else gH (rk c n).1 (fun a => c ((rk c n).2 a)) (rk c n).2 K x
