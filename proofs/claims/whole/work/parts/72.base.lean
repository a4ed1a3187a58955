/-! lists of symbols and pairs: numbers alone -/
def sm (f : Nat → Nat) : Nat → Nat
  | 0 => 0
  | n + 1 => sm f n + f n
theorem sm_ge {f : Nat → Nat} : ∀ {n i : Nat}, i < n → f i ≤ sm f n := by
  intro n
  induction n with
  | zero => intro i h; omega
  | succ n ih =>
    intro i h
    show f i ≤ sm f n + f n
    by_cases e : i = n
    · subst e; omega
    · have := ih (i := i) (by omega); omega
theorem sm_le {f : Nat → Nat} : ∀ {n : Nat}, (∀ i, i < n → f i ≤ 1) → sm f n ≤ n := by
  intro n
  induction n with
  | zero => intro _; exact Nat.le_refl 0
  | succ n ih =>
    intro h
    show sm f n + f n ≤ n + 1
    have a := ih (fun i hi => h i (by omega))
    have b := h n (by omega)
    omega
theorem sm_0 {f : Nat → Nat} : ∀ {n : Nat}, (∀ i, i < n → f i = 0) → sm f n = 0 := by
  intro n
  induction n with
  | zero => intro _; rfl
  | succ n ih =>
    intro h
    show sm f n + f n = 0
    have a := ih (fun i hi => h i (by omega))
    have b := h n (by omega)
    omega
theorem sm_c {f g : Nat → Nat} : ∀ {n : Nat}, (∀ i, i < n → f i = g i) → sm f n = sm g n := by
  intro n
  induction n with
  | zero => intro _; rfl
  | succ n ih =>
    intro h
    show sm f n + f n = sm g n + g n
    rw [ih (fun i hi => h i (by omega)), h n (by omega)]
theorem st_mono {f : Nat → Nat} {n : Nat} (h : ∀ i, i + 1 < n → f i ≤ f (i + 1)) : ∀ i j, i ≤ j → j < n → f i ≤ f j := by
  intro i j hij
  induction j with
  | zero => intro _; have : i = 0 := by omega
            subst this; exact Nat.le_refl _
  | succ j ih =>
    intro hj
    by_cases e : i = j + 1
    · subst e; exact Nat.le_refl _
    · exact Nat.le_trans (ih (by omega) (by omega)) (h j hj)
def gA (m q : Nat) (w p : Nat → Nat) : Nat → Nat
  | 0 => 0
  | i + 1 => if i - gA m q w p i = q ∨ (gA m q w p i < m ∧ w (gA m q w p i) ≤ p (i - gA m q w p i)) then gA m q w p i + 1 else gA m q w p i
def gS (m q : Nat) (w p : Nat → Nat) (i : Nat) : Bool := decide (i - gA m q w p i = q ∨ (gA m q w p i < m ∧ w (gA m q w p i) ≤ p (i - gA m q w p i)))
theorem gA_t {m q : Nat} {w p : Nat → Nat} {i : Nat} (h : gS m q w p i = true) : gA m q w p (i + 1) = gA m q w p i + 1 := if_pos (of_decide_eq_true h)
theorem gA_f {m q : Nat} {w p : Nat → Nat} {i : Nat} (h : gS m q w p i = false) : gA m q w p (i + 1) = gA m q w p i := if_neg (of_decide_eq_false h)
def gW (m q : Nat) (w p : Nat → Nat) (i : Nat) : Nat := if gS m q w p i = true then w (gA m q w p i) else p (i - gA m q w p i)
theorem gW_t {m q : Nat} {w p : Nat → Nat} {i : Nat} (h : gS m q w p i = true) : gW m q w p i = w (gA m q w p i) := if_pos h
theorem gW_f {m q : Nat} {w p : Nat → Nat} {i : Nat} (h : gS m q w p i = false) : gW m q w p i = p (i - gA m q w p i) := if_neg (by rw [h]; exact Bool.false_ne_true)
theorem gA_le {m q : Nat} {w p : Nat → Nat} : ∀ i, gA m q w p i ≤ i := by
  intro i
  induction i with
  | zero => exact Nat.le_refl 0
  | succ i ih =>
    cases h : gS m q w p i with
    | true => rw [gA_t h]; omega
    | false => rw [gA_f h]; omega
theorem gA_b {m q : Nat} {w p : Nat → Nat} : ∀ i, i ≤ m + q → gA m q w p i ≤ m ∧ i - gA m q w p i ≤ q := by
  intro i
  induction i with
  | zero => intro _; exact ⟨Nat.zero_le _, by omega⟩
  | succ i ih =>
    intro hi
    have h1 := ih (by omega)
    have h2 := @gA_le m q w p i
    cases h : gS m q w p i with
    | true =>
      rw [gA_t h]
      have h3 := of_decide_eq_true h
      rcases h3 with h3 | h3
      · omega
      · have := h3.1; omega
    | false =>
      rw [gA_f h]
      have h3 := of_decide_eq_false h
      have h4 : ¬ (i - gA m q w p i = q) := fun z => h3 (Or.inl z)
      omega
theorem g_last {m q : Nat} {w p : Nat → Nat} (hs : ∀ a b, a ≤ b → b < m → w a ≤ w b) (hq : 0 < q) (hl : w (m - 1) ≤ p (q - 1)) : ∀ i, i ≤ m + q → i - gA m q w p i = q → gA m q w p i = m := by
  intro i
  induction i with
  | zero => intro _ h; exfalso; omega
  | succ i ih =>
    intro hi hb
    have h1 := @gA_b m q w p (i + 1) hi
    have h2 := @gA_le m q w p i
    cases h : gS m q w p i with
    | true =>
      rw [gA_t h] at hb h1 ⊢
      have := ih (by omega) (by omega)
      omega
    | false =>
      rw [gA_f h] at hb h1 ⊢
      have h3 := of_decide_eq_false h
      by_cases ha : gA m q w p i < m
      · exfalso
        apply h3
        right
        refine ⟨ha, ?_⟩
        have e : i - gA m q w p i = q - 1 := by omega
        rw [e]
        exact Nat.le_trans (hs _ (m - 1) (by omega) (by omega)) hl
      · omega
theorem g_mono {m q : Nat} {w p : Nat → Nat} (hs : ∀ a b, a ≤ b → b < m → w a ≤ w b) (hp : ∀ a b, a ≤ b → b < q → p a ≤ p b) : ∀ i, i + 1 < m + q → gW m q w p i ≤ gW m q w p (i + 1) := by
  intro i hi
  have b0 := @gA_b m q w p i (by omega)
  have b1 := @gA_b m q w p (i + 1) (by omega)
  have l0 := @gA_le m q w p i
  cases h0 : gS m q w p i with
  | true =>
    have e := gA_t h0
    rw [gW_t h0]
    have c0 := of_decide_eq_true h0
    cases h1 : gS m q w p (i + 1) with
    | true =>
      rw [gW_t h1, e]
      have c1 := of_decide_eq_true h1
      rw [e] at c1
      apply hs _ _ (by omega)
      rcases c1 with c1 | c1
      · omega
      · exact c1.1
    | false =>
      rw [gW_f h1, e]
      have c1 := of_decide_eq_false h1
      rw [e] at c1
      have e2 : i + 1 - (gA m q w p i + 1) = i - gA m q w p i := by omega
      rw [e2]
      rcases c0 with c0 | c0
      · exfalso
        apply c1
        left
        omega
      · exact c0.2
  | false =>
    have e := gA_f h0
    rw [gW_f h0]
    have c0 := of_decide_eq_false h0
    have n0 : ¬ (i - gA m q w p i = q) := fun z => c0 (Or.inl z)
    cases h1 : gS m q w p (i + 1) with
    | true =>
      rw [gW_t h1, e]
      have c1 := of_decide_eq_true h1
      rw [e] at c1
      have ha : gA m q w p i < m := by
        rcases c1 with c1 | c1
        · omega
        · exact c1.1
      have : ¬ (w (gA m q w p i) ≤ p (i - gA m q w p i)) := fun z => c0 (Or.inr ⟨ha, z⟩)
      omega
    | false =>
      rw [gW_f h1, e]
      have c1 := of_decide_eq_false h1
      rw [e] at c1
      have n1 : ¬ (i + 1 - gA m q w p i = q) := fun z => c1 (Or.inl z)
      rw [e] at b1
      exact hp _ _ (by omega) (by omega)
theorem g_find {m q : Nat} {w p : Nat → Nat} : ∀ i a, gA m q w p i = a + 1 → ∃ j, j < i ∧ gA m q w p j = a ∧ gS m q w p j = true := by
  intro i
  induction i with
  | zero => intro a h; cases h
  | succ i ih =>
    intro a h
    cases h0 : gS m q w p i with
    | true =>
      rw [gA_t h0] at h
      exact ⟨i, by omega, by omega, h0⟩
    | false =>
      rw [gA_f h0] at h
      obtain ⟨j, hj, h1, h2⟩ := ih a h
      exact ⟨j, by omega, h1, h2⟩
def gZ (m : Nat) : Nat → Nat
  | 0 => m
  | k + 1 => m + gZ m k / 2
def gQ (m : Nat) : Nat → Nat
  | 0 => 0
  | k + 1 => gZ m k / 2
theorem gZ_e (m k : Nat) : gZ m k = m + gQ m k := by cases k <;> rfl
def gV (m : Nat) (w : Nat → Nat) : Nat → Nat → Nat
  | 0 => gW m 0 w (fun _ => 0)
  | k + 1 => gW m (gZ m k / 2) w (fun b => gV m w k (2 * b) + gV m w k (2 * b + 1))
def gP (m : Nat) (w : Nat → Nat) : Nat → Nat → Nat
  | 0 => fun _ => 0
  | k + 1 => fun b => gV m w k (2 * b) + gV m w k (2 * b + 1)
def gL (m : Nat) (w : Nat → Nat) (k : Nat) : Nat → Nat := gA m (gQ m k) w (gP m w k)
def gY (m : Nat) (w : Nat → Nat) (k : Nat) : Nat → Bool := gS m (gQ m k) w (gP m w k)
theorem gV_e (m : Nat) (w : Nat → Nat) (k : Nat) : gV m w k = gW m (gQ m k) w (gP m w k) := by cases k <;> rfl
theorem gV_mono {m : Nat} {w : Nat → Nat} (hs : ∀ a b, a ≤ b → b < m → w a ≤ w b) : ∀ k i, i + 1 < gZ m k → gV m w k i ≤ gV m w k (i + 1) := by
  intro k
  induction k with
  | zero =>
    intro i hi
    exact g_mono hs (fun a b _ h => by omega) i hi
  | succ k ih =>
    intro i hi
    refine g_mono hs (fun a b hab hb => ?_) i hi
    have := st_mono ih
    have h1 := this (2 * a) (2 * b) (by omega) (by omega)
    have h2 := this (2 * a + 1) (2 * b + 1) (by omega) (by omega)
    show gV m w k (2 * a) + gV m w k (2 * a + 1) ≤ gV m w k (2 * b) + gV m w k (2 * b + 1)
    omega
theorem gZ_lo {m : Nat} (hm : 0 < m) : ∀ k, 2 * m ≤ gZ m k + (m - 1) / 2 ^ k + 1 := by
  intro k
  induction k with
  | zero => show 2 * m ≤ m + (m - 1) / 1 + 1; omega
  | succ k ih =>
    have e : (m - 1) / 2 ^ (k + 1) = (m - 1) / 2 ^ k / 2 := by rw [Nat.pow_succ, Nat.div_div_eq_div_mul]
    rw [e]
    show 2 * m ≤ m + gZ m k / 2 + (m - 1) / 2 ^ k / 2 + 1
    generalize (m - 1) / 2 ^ k = z at *
    omega
theorem gZ_hi {m : Nat} (hm : 0 < m) : ∀ k, gZ m k ≤ 2 * m - 1 := by
  intro k
  induction k with
  | zero => show m ≤ 2 * m - 1; omega
  | succ k ih => show m + gZ m k / 2 ≤ 2 * m - 1; omega
theorem gL_in {m : Nat} {w : Nat → Nat} (hs : ∀ a b, a ≤ b → b < m → w a ≤ w b) (k i : Nat) (hi : i < gZ m k) (h : gL m w k (i + 1) = m) (hm : 0 < m) : w (m - 1) ≤ gV m w k i := by
  obtain ⟨j, hj, h1, h2⟩ := g_find (i + 1) (m - 1) (show gA m (gQ m k) w (gP m w k) (i + 1) = m - 1 + 1 by have : gA m (gQ m k) w (gP m w k) (i + 1) = m := h; omega)
  have e : gV m w k j = w (m - 1) := by rw [gV_e, gW_t h2, h1]
  rw [← e]
  exact st_mono (gV_mono hs k) j i (by omega) hi
theorem gL_all {m : Nat} {w : Nat → Nat} (hs : ∀ a b, a ≤ b → b < m → w a ≤ w b) (hm : 2 ≤ m) : ∀ k, 2 * m - 2 ≤ gZ m k → w (m - 1) ≤ gV m w k (2 * m - 3) ∧ (gZ m k = 2 * m - 1 → gL m w k (2 * m - 2) = m) := by
  intro k
  have small : ∀ k, gZ m k = 2 * m - 2 → w (m - 1) ≤ gV m w k (2 * m - 3) := by
    intro k h
    have z := gZ_e m k
    have b := @gA_b m (gQ m k) w (gP m w k) (2 * m - 2) (by omega)
    refine gL_in hs k (2 * m - 3) (by omega) ?_ (by omega)
    show gA m (gQ m k) w (gP m w k) (2 * m - 3 + 1) = m
    rw [show 2 * m - 3 + 1 = 2 * m - 2 by omega]
    omega
  induction k with
  | zero =>
    intro h
    have h' : 2 * m - 2 ≤ m := h
    refine ⟨small 0 (show m = 2 * m - 2 by omega), fun q => ?_⟩
    have q' : m = 2 * m - 1 := q
    omega
  | succ k ih =>
    intro h
    have hi := @gZ_hi m (by omega) (k + 1)
    by_cases e : gZ m (k + 1) = 2 * m - 2
    · exact ⟨small _ e, fun q => by omega⟩
    · have e1 : gZ m (k + 1) = 2 * m - 1 := by omega
      have e2 : m + gZ m k / 2 = 2 * m - 1 := e1
      have i1 := (ih (by omega)).1
      have q1 : gQ m (k + 1) = m - 1 := by show gZ m k / 2 = m - 1; omega
      have hA : gL m w (k + 1) (2 * m - 2) = m := by
        have b := @gA_b m (gQ m (k + 1)) w (gP m w (k + 1)) (2 * m - 2) (by omega)
        have l := @g_last m (gQ m (k + 1)) w (gP m w (k + 1)) hs (by omega) (by
          rw [q1]
          show w (m - 1) ≤ gV m w k (2 * (m - 1 - 1)) + gV m w k (2 * (m - 1 - 1) + 1)
          rw [show 2 * (m - 1 - 1) + 1 = 2 * m - 3 by omega]
          omega) (2 * m - 2) (by omega)
        show gA m (gQ m (k + 1)) w (gP m w (k + 1)) (2 * m - 2) = m
        by_cases z : 2 * m - 2 - gA m (gQ m (k + 1)) w (gP m w (k + 1)) (2 * m - 2) = gQ m (k + 1)
        · exact l z
        · omega
      refine ⟨gL_in hs (k + 1) (2 * m - 3) (by omega) ?_ (by omega), fun _ => hA⟩
      rw [show 2 * m - 3 + 1 = 2 * m - 2 by omega]
      exact hA
def gT (m : Nat) (w : Nat → Nat) (K : Nat) : Nat → Nat
  | 0 => 2 * m - 2
  | j + 1 => 2 * (gT m w K j - gL m w (K - 1 - j) (gT m w K j))
theorem gT_le {m : Nat} {w : Nat → Nat} {K : Nat} (hm : 0 < m) (hK : (m - 1) / 2 ^ (K - 1) = 0) : ∀ j, j < K → gT m w K j ≤ gZ m (K - 1 - j) := by
  intro j
  induction j with
  | zero =>
    intro _
    have := @gZ_lo m hm (K - 1)
    show 2 * m - 2 ≤ gZ m (K - 1)
    omega
  | succ j ih =>
    intro hj
    have h := ih (by omega)
    rw [gZ_e] at h
    have b := @gA_b m (gQ m (K - 1 - j)) w (gP m w (K - 1 - j)) (gT m w K j) h
    show 2 * (gT m w K j - gA m (gQ m (K - 1 - j)) w (gP m w (K - 1 - j)) (gT m w K j)) ≤ gZ m (K - 1 - (j + 1))
    have e : K - 1 - j = (K - 1 - (j + 1)) + 1 := by omega
    have e2 : gQ m (K - 1 - j) = gZ m (K - 1 - (j + 1)) / 2 := by rw [e]; rfl
    omega
def gN (r : Nat → Nat) (A x : Nat) : Nat := sm (fun a => if r a = x then 1 else 0) A
def gH (m : Nat) (w r : Nat → Nat) (K x : Nat) : Nat := sm (fun j => gN r (gL m w (K - 1 - j) (gT m w K j)) x) K
def gD (m : Nat) (w r : Nat → Nat) (x : Nat) : Nat → Nat → Nat
  | 0, i => if r (gL m w 0 i) = x then 1 else 0
  | k + 1, i => if gY m w (k + 1) i = true then (if r (gL m w (k + 1) i) = x then 1 else 0) else gD m w r x k (2 * (i - gL m w (k + 1) i)) + gD m w r x k (2 * (i - gL m w (k + 1) i) + 1)
theorem gL0 (m : Nat) (w : Nat → Nat) : ∀ i, gL m w 0 i = i := by
  intro i
  induction i with
  | zero => rfl
  | succ i ih =>
    have h : gS m (gQ m 0) w (gP m w 0) i = true := by
      apply decide_eq_true
      left
      have : gA m (gQ m 0) w (gP m w 0) i = i := ih
      rw [this]
      exact Nat.sub_self i
    show gA m (gQ m 0) w (gP m w 0) (i + 1) = i + 1
    rw [gA_t h]
    have : gA m (gQ m 0) w (gP m w 0) i = i := ih
    rw [this]
theorem gD_0 (m : Nat) (w r : Nat → Nat) (x t : Nat) : sm (gD m w r x 0) t = gN r (gL m w 0 t) x := by
  rw [gL0]
  unfold gN
  apply sm_c
  intro i _
  show (if r (gL m w 0 i) = x then 1 else 0) = _
  rw [gL0]
theorem gD_s (m : Nat) (w r : Nat → Nat) (x k : Nat) : ∀ t, sm (gD m w r x (k + 1)) t = gN r (gL m w (k + 1) t) x + sm (gD m w r x k) (2 * (t - gL m w (k + 1) t)) := by
  intro t
  induction t with
  | zero => rfl
  | succ t ih =>
    show sm (gD m w r x (k + 1)) t + gD m w r x (k + 1) t = _
    rw [ih]
    have l : gL m w (k + 1) t ≤ t := gA_le t
    cases h : gY m w (k + 1) t with
    | true =>
      have e : gL m w (k + 1) (t + 1) = gL m w (k + 1) t + 1 := gA_t h
      have e2 : gD m w r x (k + 1) t = if r (gL m w (k + 1) t) = x then 1 else 0 := if_pos h
      rw [e, e2, show t + 1 - (gL m w (k + 1) t + 1) = t - gL m w (k + 1) t by omega]
      show _ = (gN r (gL m w (k + 1) t) x + (if r (gL m w (k + 1) t) = x then 1 else 0)) + _
      omega
    | false =>
      have e : gL m w (k + 1) (t + 1) = gL m w (k + 1) t := gA_f h
      have e2 : gD m w r x (k + 1) t = gD m w r x k (2 * (t - gL m w (k + 1) t)) + gD m w r x k (2 * (t - gL m w (k + 1) t) + 1) := if_neg (by rw [h]; exact Bool.false_ne_true)
      rw [e, e2, show 2 * (t + 1 - gL m w (k + 1) t) = 2 * (t - gL m w (k + 1) t) + 1 + 1 by omega]
      show _ = _ + (sm (gD m w r x k) (2 * (t - gL m w (k + 1) t)) + gD m w r x k (2 * (t - gL m w (k + 1) t)) + gD m w r x k (2 * (t - gL m w (k + 1) t) + 1))
      omega
theorem gD_all (m : Nat) (w r : Nat → Nat) (x K : Nat) : ∀ j, j < K → sm (gD m w r x (K - 1)) (gT m w K 0) = sm (fun j => gN r (gL m w (K - 1 - j) (gT m w K j)) x) j + sm (gD m w r x (K - 1 - j)) (gT m w K j) := by
  intro j
  induction j with
  | zero => intro _; show _ = 0 + _; rw [Nat.zero_add]; rfl
  | succ j ih =>
    intro hj
    rw [ih (by omega)]
    have e : K - 1 - j = (K - 1 - (j + 1)) + 1 := by omega
    have s := gD_s m w r x (K - 1 - (j + 1)) (gT m w K j)
    rw [← e] at s
    rw [s]
    show _ = (sm (fun j => gN r (gL m w (K - 1 - j) (gT m w K j)) x) j + gN r (gL m w (K - 1 - j) (gT m w K j)) x) + sm (gD m w r x (K - 1 - (j + 1))) (2 * (gT m w K j - gL m w (K - 1 - j) (gT m w K j)))
    omega
/-- the reference's items, all taken, give what the lists give -/
theorem gD_H (m : Nat) (w r : Nat → Nat) (x K : Nat) (hK : 0 < K) : sm (gD m w r x (K - 1)) (2 * m - 2) = gH m w r K x := by
  obtain ⟨k, rfl⟩ : ∃ k, K = k + 1 := ⟨K - 1, by omega⟩
  have h := gD_all m w r x (k + 1) k (by omega)
  rw [show k + 1 - 1 - k = 0 by omega, gD_0] at h
  show _ = sm (fun j => gN r (gL m w (k + 1 - 1 - j) (gT m w (k + 1) j)) x) k + gN r (gL m w (k + 1 - 1 - k) (gT m w (k + 1) k)) x
  rw [show k + 1 - 1 - k = 0 by omega]
  exact h
theorem gN_1 {r : Nat → Nat} {x : Nat} : ∀ {A : Nat}, (∀ a b, a < A → b < A → r a = r b → a = b) → gN r A x ≤ 1 := by
  intro A
  induction A with
  | zero => intro _; exact Nat.zero_le 1
  | succ A ih =>
    intro h
    show gN r A x + (if r A = x then 1 else 0) ≤ 1
    by_cases e : r A = x
    · rw [if_pos e]
      have z : gN r A x = 0 := sm_0 (fun i hi => if_neg (fun q => by
        have := h i A (by omega) (by omega) (by rw [q, e])
        omega))
      omega
    · rw [if_neg e]
      exact ih (fun a b ha hb => h a b (by omega) (by omega))
theorem gL_m {m : Nat} {w : Nat → Nat} {K : Nat} (hm : 0 < m) (hK : (m - 1) / 2 ^ (K - 1) = 0) {j : Nat} (hj : j < K) : gL m w (K - 1 - j) (gT m w K j) ≤ m := by
  have h := @gT_le m w K hm hK j hj
  rw [gZ_e] at h
  exact (gA_b _ h).1
theorem gH_hi {m : Nat} {w r : Nat → Nat} {K x : Nat} (hm : 0 < m) (hK : (m - 1) / 2 ^ (K - 1) = 0) (hi : ∀ a b, a < m → b < m → r a = r b → a = b) : gH m w r K x ≤ K := by
  apply sm_le
  intro j hj
  apply gN_1
  intro a b ha hb
  have := @gL_m m w K hm hK j hj
  exact hi a b (by omega) (by omega)
theorem gH_lo {m : Nat} {w r : Nat → Nat} {K a : Nat} (hm : 2 ≤ m) (hK0 : 0 < K) (hK : (m - 1) / 2 ^ (K - 1) = 0) (hs : ∀ a b, a ≤ b → b < m → w a ≤ w b) (ha : a < m) : 1 ≤ gH m w r K (r a) := by
  have z1 := @gZ_lo m (by omega) (K - 1)
  have z2 := @gZ_hi m (by omega) (K - 1)
  have e := (gL_all hs hm (K - 1) (by omega)).2 (by omega)
  have g := @sm_ge (fun j => gN r (gL m w (K - 1 - j) (gT m w K j)) (r a)) K 0 hK0
  refine Nat.le_trans ?_ g
  show 1 ≤ gN r (gL m w (K - 1 - 0) (2 * m - 2)) (r a)
  rw [Nat.sub_zero, e]
  have g2 := @sm_ge (fun b => if r b = r a then 1 else 0) m a ha
  rw [if_pos rfl] at g2
  exact g2
theorem gH_0 {m : Nat} {w r : Nat → Nat} {K x : Nat} (hm : 0 < m) (hK : (m - 1) / 2 ^ (K - 1) = 0) (h : ∀ a, a < m → r a ≠ x) : gH m w r K x = 0 := by
  apply sm_0
  intro j hj
  apply sm_0
  intro a ha
  have := @gL_m m w K hm hK j hj
  exact if_neg (h a (by omega))
/-! rank: symbols with a count, by count -/
def rkP (c r : Nat → Nat) (x : Nat) : Nat → Nat
  | 0 => 0
  | k + 1 => if x < c (r k) then rkP c r x k else k + 1
def rkI (r : Nat → Nat) (p s : Nat) : Nat → Nat := fun j => if j < p then r j else if j = p then s else r (j - 1)
def rk (c : Nat → Nat) : Nat → Nat × (Nat → Nat)
  | 0 => (0, fun _ => 0)
  | s + 1 => if 0 < c s then ((rk c s).1 + 1, rkI (rk c s).2 (rkP c (rk c s).2 (c s) (rk c s).1) s) else rk c s
theorem rkP_le (c r : Nat → Nat) (x : Nat) : ∀ k, rkP c r x k ≤ k := by
  intro k
  induction k with
  | zero => exact Nat.le_refl 0
  | succ k ih =>
    show (if x < c (r k) then rkP c r x k else k + 1) ≤ k + 1
    split <;> omega
theorem rkP_hi (c r : Nat → Nat) (x : Nat) : ∀ k j, rkP c r x k ≤ j → j < k → x < c (r j) := by
  intro k
  induction k with
  | zero => intro j _ h; omega
  | succ k ih =>
    intro j h1 h2
    by_cases e : x < c (r k)
    · have : rkP c r x (k + 1) = rkP c r x k := if_pos e
      rw [this] at h1
      by_cases z : j = k
      · subst z; exact e
      · exact ih j h1 (by omega)
    · have : rkP c r x (k + 1) = k + 1 := if_neg e
      omega
theorem rkP_lo (c r : Nat → Nat) (x : Nat) : ∀ k, 0 < rkP c r x k → c (r (rkP c r x k - 1)) ≤ x := by
  intro k
  induction k with
  | zero => intro h; exact absurd h (Nat.lt_irrefl 0)
  | succ k ih =>
    by_cases e : x < c (r k)
    · have : rkP c r x (k + 1) = rkP c r x k := if_pos e
      rw [this]; exact ih
    · have : rkP c r x (k + 1) = k + 1 := if_neg e
      rw [this]
      intro _
      show c (r (k + 1 - 1)) ≤ x
      rw [Nat.add_sub_cancel]
      omega
/-- what holds of the rank of the first s symbols -/
def rkOK (c : Nat → Nat) (s m : Nat) (r : Nat → Nat) : Prop := m ≤ s ∧ (∀ a, a < m → r a < s ∧ 0 < c (r a)) ∧ (∀ a b, a < m → b < m → r a = r b → a = b) ∧ (∀ a b, a ≤ b → b < m → c (r a) ≤ c (r b)) ∧ (∀ x, x < s → 0 < c x → ∃ a, a < m ∧ r a = x)
theorem rk_ok (c : Nat → Nat) : ∀ s, rkOK c s (rk c s).1 (rk c s).2 := by
  intro s
  induction s with
  | zero => exact ⟨Nat.le_refl 0, (fun a h => absurd h (Nat.not_lt_zero a)), (fun a b h => absurd h (Nat.not_lt_zero a)), (fun a b _ h => absurd h (Nat.not_lt_zero b)), (fun x h => absurd h (Nat.not_lt_zero x))⟩
  | succ s ih =>
    obtain ⟨i1, i2, i3, i4, i5⟩ := ih
    by_cases e : 0 < c s
    · have e1 : rk c (s + 1) = ((rk c s).1 + 1, rkI (rk c s).2 (rkP c (rk c s).2 (c s) (rk c s).1) s) := if_pos e
      rw [e1]
      generalize (rk c s).1 = m at *
      generalize (rk c s).2 = r at *
      have pl := rkP_le c r (c s) m
      have ph := rkP_hi c r (c s) m
      have po := rkP_lo c r (c s) m
      generalize rkP c r (c s) m = p at *
      have v1 : ∀ j, j < p → rkI r p s j = r j := fun j h => if_pos h
      have v2 : rkI r p s p = s := by
        show (if p < p then r p else if p = p then s else r (p - 1)) = s
        rw [if_neg (Nat.lt_irrefl p), if_pos rfl]
      have v3 : ∀ j, p < j → rkI r p s j = r (j - 1) := fun j h => by
        show (if j < p then r j else if j = p then s else r (j - 1)) = r (j - 1)
        rw [if_neg (by omega), if_neg (by omega)]
      show rkOK c (s + 1) (m + 1) (rkI r p s)
      refine ⟨by omega, ?_, ?_, ?_, ?_⟩
      · intro a ha
        rcases Nat.lt_trichotomy a p with h | h | h
        · rw [v1 a h]; have := i2 a (by omega); exact ⟨by omega, this.2⟩
        · subst h; rw [v2]; exact ⟨by omega, e⟩
        · rw [v3 a h]; have := i2 (a - 1) (by omega); exact ⟨by omega, this.2⟩
      · intro a b ha hb hab
        rcases Nat.lt_trichotomy a p with h | h | h <;> rcases Nat.lt_trichotomy b p with g | g | g
        · rw [v1 a h, v1 b g] at hab; exact i3 a b (by omega) (by omega) hab
        · subst g; rw [v1 a h, v2] at hab; have := (i2 a (by omega)).1; omega
        · rw [v1 a h, v3 b g] at hab; have := i3 a (b - 1) (by omega) (by omega) hab; omega
        · subst h; rw [v2, v1 b g] at hab; have := (i2 b (by omega)).1; omega
        · omega
        · subst h; rw [v2, v3 b g] at hab; have := (i2 (b - 1) (by omega)).1; omega
        · rw [v3 a h, v1 b g] at hab; have := i3 (a - 1) b (by omega) (by omega) hab; omega
        · subst g; rw [v3 a h, v2] at hab; have := (i2 (a - 1) (by omega)).1; omega
        · rw [v3 a h, v3 b g] at hab; have := i3 (a - 1) (b - 1) (by omega) (by omega) hab; omega
      · intro a b hab hb
        rcases Nat.lt_trichotomy a p with h | h | h <;> rcases Nat.lt_trichotomy b p with g | g | g
        · rw [v1 a h, v1 b g]; exact i4 a b hab (by omega)
        · rw [g, v1 a h, v2]
          have q1 := po (by omega)
          have q2 := i4 a (p - 1) (by omega) (by omega)
          omega
        · rw [v1 a h, v3 b g]; exact i4 a (b - 1) (by omega) (by omega)
        · omega
        · rw [h, g]; exact Nat.le_refl _
        · rw [h, v2, v3 b g]; have := ph (b - 1) (by omega) (by omega); omega
        · omega
        · omega
        · rw [v3 a h, v3 b g]; exact i4 (a - 1) (b - 1) (by omega) (by omega)
      · intro x hx hc
        by_cases z : x = s
        · exact ⟨p, by omega, by rw [v2, z]⟩
        · obtain ⟨a, ha, hr⟩ := i5 x (by omega) hc
          by_cases h : a < p
          · exact ⟨a, by omega, by rw [v1 a h, hr]⟩
          · refine ⟨a + 1, by omega, ?_⟩
            rw [v3 (a + 1) (by omega), Nat.add_sub_cancel, hr]
    · have e1 : rk c (s + 1) = rk c s := if_neg e
      rw [e1]
      refine ⟨by omega, fun a h => ?_, i3, i4, fun x hx hc => ?_⟩
      · have := i2 a h; exact ⟨by omega, this.2⟩
      · by_cases z : x = s
        · subst z; exact absurd hc e
        · exact i5 x (by omega) hc
/-- the lengths of codes that the lists give to n symbols with counts c, at most K -/
def fitL (c : Nat → Nat) (n K x : Nat) : Nat := if (rk c n).1 = 0 then 0 else if (rk c n).1 = 1 then (if (rk c n).2 0 = x then 1 else 0) else gH (rk c n).1 (fun a => c ((rk c n).2 a)) (rk c n).2 K x
/-! bits written, by program and reference: n of them, as the number V -/
def byt (V i : Nat) : Nat := V / 2 ^ (8 * i) % 256
theorem byt_lt (V i : Nat) : byt V i < 256 := Nat.mod_lt _ (by omega)
theorem app_hi {V b n m : Nat} (h : 8 * m ≤ n) : (V + b * 2 ^ n) / 2 ^ (8 * m) = V / 2 ^ (8 * m) + b * 2 ^ (n - 8 * m) := by
  have e : b * 2 ^ n = (b * 2 ^ (n - 8 * m)) * 2 ^ (8 * m) := by
    rw [Nat.mul_assoc, ← Nat.pow_add]
    congr 2
    omega
  rw [e, Nat.add_mul_div_right _ _ (Nat.two_pow_pos _)]
theorem byt_app {V x n i : Nat} (h : 8 * i + 8 ≤ n) : byt (V + x * 2 ^ n) i = byt V i := by
  unfold byt
  rw [app_hi (by omega)]
  have e : x * 2 ^ (n - 8 * i) = (x * 2 ^ (n - 8 * i - 8)) * 256 := by
    rw [Nat.mul_assoc, show (256 : Nat) = 2 ^ 8 from rfl, ← Nat.pow_add]
    congr 2
    omega
  rw [e, Nat.add_mul_mod_self_right]
theorem hi_lt {V n m : Nat} (hV : V < 2 ^ n) (h : 8 * m ≤ n) : V / 2 ^ (8 * m) < 2 ^ (n - 8 * m) := by
  apply Nat.div_lt_of_lt_mul
  rw [← Nat.pow_add, show 8 * m + (n - 8 * m) = n by omega]
  exact hV
theorem app_lt {V b n k : Nat} (hV : V < 2 ^ n) (hb : b < 2 ^ k) : V + b * 2 ^ n < 2 ^ (n + k) := by
  have h1 : (b + 1) * 2 ^ n ≤ 2 ^ k * 2 ^ n := Nat.mul_le_mul_right _ hb
  have h2 : 2 ^ k * 2 ^ n = 2 ^ (n + k) := by rw [← Nat.pow_add, Nat.add_comm]
  have h3 : (b + 1) * 2 ^ n = b * 2 ^ n + 2 ^ n := by rw [Nat.add_mul, Nat.one_mul]
  omega
def RefW (bits : Int32) (c : Nat → Int32) (n V : Nat) : Prop := bits = nI n ∧ V < 2 ^ n ∧ ∀ i, i < (n + 7) / 8 → c i = sx (byt V i)
def ClsW (len op oc : Int32) (c : Nat → Int32) (n V : Nat) : Prop := len = nI (min (n / 8) 8256) ∧ op = nI (V / 2 ^ (8 * (n / 8))) ∧ oc = nI (n % 8) ∧ V < 2 ^ n ∧ ∀ i, i < n / 8 → i < 8256 → c i = sx (byt V i)
theorem t_writeBit {F : Nat} {bits x : Int32} {c : Nat → Int32} {n V b : Nat} (h : RefW bits c n V) (hn : n < 528000) (hb : b < 2) (hx : x = nI b) : Tt (M_writeBit F bits c x) (fun u => RefW u.2.1 u.2.2 (n + 1) (V + b * 2 ^ n)) := by
  obtain ⟨rfl, hV, hc⟩ := h
  subst hx
  have q1 : V + b * 2 ^ n < 2 ^ (n + 1) := app_lt hV (by omega)
  unfold M_writeBit M_writeBit_43
  simp (disch := omega) only [Tt_L, Tt_S, Tt_C, Tt_Z, Tt_R0, Tt_R1, Tt_R2, Tt_R3, Tt_R4, Tt_R5, q10, eq_self, Nat.not_lt_zero, if_true, if_false, i_0, i_1, i_2, i_3, i_4, i_5, i_6, i_7, i_8, i_9, i_10, i_11, i_13, i_14, i_15, i_16, i_17, i_18, i_19, i_24, i_29, i_30, i_31, i_32, i_138, i_143, i_144, i_254, i_255, i_256, i_257, i_258, i_261, i_264, i_265, i_279, i_280, i_284, i_285, i_286, i_288, i_319, i_320, i_338, i_339, i_575, i_576, i_599, i_600, i_4096, i_8191, i_8192, i_8249, i_8250, i_8256, i_9000, i_16384, i_32767, i_32768, i_65520, i_65521, i_65535, i_65536, i_65999, i_66000, i_1300, i_120, i_156, n_rem, n_rem2, pk_div, nI_eq, Tt_N, nI_clamp, sx_nar, nI_add]
  split
  · rename_i h0
    refine ⟨by omega, rfl, q1, ?_⟩
    intro i hi
    by_cases e : i = n / 8
    · subst e
      rw [pk_us]
      unfold byt
      have e8 : 8 * (n / 8) = n := by omega
      rw [e8, Nat.add_mul_div_right _ _ (Nat.two_pow_pos _), Nat.div_eq_of_lt hV, Nat.zero_add, Nat.mod_eq_of_lt (by omega)]
    · rw [pk_un e, byt_app (by omega)]
      exact hc i (by omega)
  · rename_i h0
    refine ⟨by omega, by omega, ?_⟩
    have c1 := hc (n / 8) (by omega)
    have l1 := @hi_lt V n (n / 8) hV (by omega)
    have e1 : n - 8 * (n / 8) = n % 8 := by omega
    rw [e1] at l1
    have l2 : 2 ^ (n % 8) ≤ 2 ^ 7 := Nat.pow_le_pow_right (by omega) (by omega)
    have e2 : byt V (n / 8) = V / 2 ^ (8 * (n / 8)) := Nat.mod_eq_of_lt (by omega)
    have l3 : b * 2 ^ (n % 8) ≤ 1 * 2 ^ (n % 8) := Nat.mul_le_mul_right _ (by omega)
    rw [c1, e2, sx_small _ (by omega), n_shl (by omega) (by omega), n_ord l1, sx_nar]
    refine ⟨rfl, q1, ?_⟩
    intro i hi
    by_cases e : i = n / 8
    · subst e
      rw [pk_us]
      unfold byt
      rw [app_hi (by omega), e1, ← sx_mod]
    · rw [pk_un e, byt_app (by omega)]
      exact hc i (by omega)
theorem t_writeNumber {bits x y : Int32} {c : Nat → Int32} {n V v k : Nat} (h : RefW bits c n V) (hn : n + k ≤ 528000) (hk : k < 32) (hv : v < 2 ^ 31) (hx : x = nI v) (hy : y = nI k) : Tt (M_writeNumber 200000 bits c x y) (fun u => RefW u.2.1 u.2.2 (n + k) (V + v % 2 ^ k * 2 ^ n)) := by
  subst hx hy
  unfold M_writeNumber
  refine Tt_W3 (fun m bits c x3 => ∃ j, j ≤ k ∧ x3 = nI j ∧ m = k - j ∧ RefW bits c (n + j) (V + v % 2 ^ j * 2 ^ n)) ?_ 200000 k bits c 0 (by omega) ⟨0, by omega, rfl, rfl, by rw [Nat.pow_zero, Nat.mod_one, Nat.zero_mul]; exact h⟩
  rintro K m bits c x3 ⟨j, hj, rfl, rfl, hR⟩ ih
  unfold M_writeNumber_2
  simp (disch := omega) only [Tt_L, Tt_S, Tt_C, Tt_Z, Tt_R0, Tt_R1, Tt_R2, Tt_R3, Tt_R4, Tt_R5, q10, eq_self, Nat.not_lt_zero, if_true, if_false, i_0, i_1, i_2, i_3, i_4, i_5, i_6, i_7, i_8, i_9, i_10, i_11, i_13, i_14, i_15, i_16, i_17, i_18, i_19, i_24, i_29, i_30, i_31, i_32, i_138, i_143, i_144, i_254, i_255, i_256, i_257, i_258, i_261, i_264, i_265, i_279, i_280, i_284, i_285, i_286, i_288, i_319, i_320, i_338, i_339, i_575, i_576, i_599, i_600, i_4096, i_8191, i_8192, i_8249, i_8250, i_8256, i_9000, i_16384, i_32767, i_32768, i_65520, i_65521, i_65535, i_65536, i_65999, i_66000, i_1300, i_120, i_156, nI_leI, n_shr, n_1, nI_add]
  split
  · rename_i h0
    have : j = k := by omega
    subst this
    exact hR
  · rename_i h0
    refine Tt_m (t_writeBit hR (by omega) (Nat.mod_lt _ (by omega)) rfl) ?_
    rintro ⟨_, b2, c2⟩ hR2
    refine ih (k - (j + 1)) _ _ _ (by omega) ⟨j + 1, by omega, rfl, rfl, ?_⟩
    have e : V + v % 2 ^ (j + 1) * 2 ^ n = V + v % 2 ^ j * 2 ^ n + v / 2 ^ j % 2 * 2 ^ (n + j) := by
      rw [Nat.mod_pow_succ, Nat.add_mul, Nat.pow_add, Nat.mul_comm (2 ^ j) (v / 2 ^ j % 2), Nat.mul_assoc, Nat.mul_comm (2 ^ j) (2 ^ n)]
      omega
    rw [e]
    exact hR2
theorem t_number {len op oc x y : Int32} {c : Nat → Int32} {n V v k : Nat} (h : ClsW len op oc c n V) (hk : k ≤ 16) (hv : v < 2 ^ k) (hx : x = nI v) (hy : y = nI k) : Tt (BitWriter_number 200000 len op oc c x y) (fun u => ClsW u.2.1 u.2.2.1 u.2.2.2.1 u.2.2.2.2 (n + k) (V + v * 2 ^ n)) := by
  obtain ⟨rfl, rfl, rfl, hV, hc⟩ := h
  subst hx hy
  have q1 : V + v * 2 ^ n < 2 ^ (n + k) := app_lt hV hv
  have l1 := @hi_lt V n (n / 8) hV (by omega)
  have e1 : n - 8 * (n / 8) = n % 8 := by omega
  rw [e1] at l1
  have l2 : 2 ^ (n % 8) ≤ 2 ^ 7 := Nat.pow_le_pow_right (by omega) (by omega)
  have l3 : 2 ^ k ≤ 2 ^ 16 := Nat.pow_le_pow_right (by omega) hk
  have l4 : v * 2 ^ (n % 8) < 2 ^ 16 * 2 ^ 7 := Nat.mul_lt_mul_of_lt_of_le (by omega) l2 (by omega)
  have e2 : (V + v * 2 ^ n) / 2 ^ (8 * (n / 8)) = V / 2 ^ (8 * (n / 8)) + v * 2 ^ (n % 8) := by rw [app_hi (by omega), e1]
  unfold BitWriter_number
  simp only [Tt_L]
  simp only [i_0, i_1, i_2, i_3, i_4, i_5, i_6, i_7, i_8, i_9, i_10, i_11, i_13, i_14, i_15, i_16, i_17, i_18, i_19, i_24, i_29, i_30, i_31, i_32, i_138, i_143, i_144, i_254, i_255, i_256, i_257, i_258, i_261, i_264, i_265, i_279, i_280, i_284, i_285, i_286, i_288, i_319, i_320, i_338, i_339, i_575, i_576, i_599, i_600, i_4096, i_8191, i_8192, i_8249, i_8250, i_8256, i_9000, i_16384, i_32767, i_32768, i_65520, i_65521, i_65535, i_65536, i_65999, i_66000, i_1300, i_120, i_156]
  rw [n_shl (by omega) (by omega), n_ord l1, nI_add, ← e2]
  generalize hV' : V + v * 2 ^ n = V' at *
  refine Tt_W4 (fun m len op oc c => ∃ q, n / 8 ≤ q ∧ 8 * q ≤ n + k ∧ len = nI (min q 8256) ∧ op = nI (V' / 2 ^ (8 * q)) ∧ oc = nI (n + k - 8 * q) ∧ (∀ i, i < q → i < 8256 → c i = sx (byt V' i)) ∧ m = n + k - 8 * q) ?_ 200000 (n + k - 8 * (n / 8)) _ _ _ _ (by omega) ⟨n / 8, by omega, by omega, rfl, rfl, ?_, ?_, rfl⟩
  · rintro K m len op oc c ⟨q, h1, h2, rfl, rfl, rfl, h3, rfl⟩ ih
    have b1 := @hi_lt V' (n + k) q q1 h2
    have b2 : 2 ^ (n + k - 8 * q) ≤ 2 ^ 23 := Nat.pow_le_pow_right (by omega) (by omega)
    unfold BitWriter_number_25 BitWriter_number_70
    simp (disch := omega) only [Tt_L, Tt_S, Tt_C, Tt_Z, Tt_R0, Tt_R1, Tt_R2, Tt_R3, Tt_R4, Tt_R5, q10, eq_self, Nat.not_lt_zero, if_true, if_false, i_0, i_1, i_2, i_3, i_4, i_5, i_6, i_7, i_8, i_9, i_10, i_11, i_13, i_14, i_15, i_16, i_17, i_18, i_19, i_24, i_29, i_30, i_31, i_32, i_138, i_143, i_144, i_254, i_255, i_256, i_257, i_258, i_261, i_264, i_265, i_279, i_280, i_284, i_285, i_286, i_288, i_319, i_320, i_338, i_339, i_575, i_576, i_599, i_600, i_4096, i_8191, i_8192, i_8249, i_8250, i_8256, i_9000, i_16384, i_32767, i_32768, i_65520, i_65521, i_65535, i_65536, i_65999, i_66000, i_1300, i_120, i_156, nI_leI, nI_ltI, n_ush, Tt_N, nI_clamp, sx_nar, nI_add, pk_sub]
    split
    · rename_i h0
      have eq : q = (n + k) / 8 := by omega
      subst eq
      exact ⟨rfl, rfl, by rw [show n + k - 8 * ((n + k) / 8) = (n + k) % 8 by omega], q1, h3⟩
    · rename_i h0
      have e3 : V' / 2 ^ (8 * q) / 2 ^ 8 = V' / 2 ^ (8 * (q + 1)) := by rw [Nat.div_div_eq_div_mul, ← Nat.pow_add, show 8 * q + 8 = 8 * (q + 1) by omega]
      rw [e3]
      have e4 : n + k - 8 * q - 8 = n + k - 8 * (q + 1) := by omega
      rw [e4]
      split
      · rename_i h4
        refine ih (n + k - 8 * (q + 1)) _ _ _ _ (by omega) ⟨q + 1, by omega, by omega, ?_, rfl, rfl, ?_, rfl⟩
        · have hq : 8256 ≤ q := Nat.le_trans h4 (Nat.min_le_left _ _)
          rw [Nat.min_eq_right hq, Nat.min_eq_right (Nat.le_succ_of_le hq)]
        · intro i hi hi2; exact h3 i (by omega) hi2
      · rename_i h4
        have e5 : min q 8256 = q := by omega
        rw [e5]
        refine ⟨by omega, ih (n + k - 8 * (q + 1)) _ _ _ _ (by omega) ⟨q + 1, by omega, by omega, ?_, rfl, rfl, ?_, rfl⟩⟩
        · rw [e5] at h4
          rw [Nat.min_eq_left (Nat.lt_of_not_le h4)]
        · intro i hi hi2
          by_cases e : i = q
          · subst e
            rw [pk_us, sx_mod]
            rfl
          · rw [pk_un e]; exact h3 i (by omega) hi2
  · exact congrArg nI (by omega)
  · intro i hi hi2
    rw [hc i hi hi2, ← hV', byt_app (by omega)]
theorem n_left : ∀ a, a < 16 → (-(nI a)) &&& nI 7 = nI ((8 - a % 8) % 8) := by decide +kernel
theorem t_leftBehind {F : Nat} {len op oc x : Int32} {c : Nat → Int32} {n V k : Nat} (h : ClsW len op oc c n V) (hk : k < 8) (hx : x = nI k) : Tt (BitWriter_leftBehind F oc x) (fun u => u.1 = nI ((8 - (n + k) % 8) % 8)) := by
  obtain ⟨_, _, rfl, _, _⟩ := h
  subst hx
  unfold BitWriter_leftBehind
  simp only [Tt_S, i_0, i_1, i_2, i_3, i_4, i_5, i_6, i_7, i_8, i_9, i_10, i_11, i_13, i_14, i_15, i_16, i_17, i_18, i_19, i_24, i_29, i_30, i_31, i_32, i_138, i_143, i_144, i_254, i_255, i_256, i_257, i_258, i_261, i_264, i_265, i_279, i_280, i_284, i_285, i_286, i_288, i_319, i_320, i_338, i_339, i_575, i_576, i_599, i_600, i_4096, i_8191, i_8192, i_8249, i_8250, i_8256, i_9000, i_16384, i_32767, i_32768, i_65520, i_65521, i_65535, i_65536, i_65999, i_66000, i_1300, i_120, i_156, nI_add]
  rw [n_left _ (by omega)]
  congr 1
  omega
theorem t_align {len op oc : Int32} {c : Nat → Int32} {n V : Nat} (h : ClsW len op oc c n V) : Tt (BitWriter_align 200000 len op oc c) (fun u => ClsW u.2.1 u.2.2.1 u.2.2.2.1 u.2.2.2.2 (n + (8 - n % 8) % 8) V) := by
  unfold BitWriter_align
  rw [Tt_R0]
  refine Tt_m (t_leftBehind h (k := 0) (by omega) rfl) ?_
  rintro ⟨r, _⟩ hr
  have hr' : r = nI ((8 - (n + 0) % 8) % 8) := hr
  rw [Tt_R4]
  refine Tt_m (t_number h (v := 0) (k := (8 - n % 8) % 8) (by omega) (Nat.two_pow_pos _) rfl hr') ?_
  intro u hu
  rw [Nat.zero_mul, Nat.add_zero] at hu
  first | exact hu | exact Tt_Si hu
theorem t_endByte {bits : Int32} {c : Nat → Int32} {n V : Nat} (h : RefW bits c n V) (hn : n + 8 ≤ 528000) : Tt (M_endByte 200000 bits c) (fun u => RefW u.2.1 u.2.2 (n + (8 - n % 8) % 8) V) := by
  unfold M_endByte
  refine Tt_W2 (fun m bits c => ∃ j, j ≤ (8 - n % 8) % 8 ∧ m = (8 - n % 8) % 8 - j ∧ RefW bits c (n + j) V) ?_ 200000 ((8 - n % 8) % 8) bits c (by omega) ⟨0, by omega, rfl, h⟩
  rintro K m bits c ⟨j, hj, rfl, hR⟩ ih
  have hb := hR.1
  subst hb
  unfold M_endByte_0
  simp (disch := omega) only [Tt_L, Tt_S, Tt_C, Tt_Z, Tt_R0, Tt_R1, Tt_R2, Tt_R3, Tt_R4, Tt_R5, q10, eq_self, Nat.not_lt_zero, if_true, if_false, i_0, i_1, i_2, i_3, i_4, i_5, i_6, i_7, i_8, i_9, i_10, i_11, i_13, i_14, i_15, i_16, i_17, i_18, i_19, i_24, i_29, i_30, i_31, i_32, i_138, i_143, i_144, i_254, i_255, i_256, i_257, i_258, i_261, i_264, i_265, i_279, i_280, i_284, i_285, i_286, i_288, i_319, i_320, i_338, i_339, i_575, i_576, i_599, i_600, i_4096, i_8191, i_8192, i_8249, i_8250, i_8256, i_9000, i_16384, i_32767, i_32768, i_65520, i_65521, i_65535, i_65536, i_65999, i_66000, i_1300, i_120, i_156, pk_div, n_rem, n_rem2, nI_eq]
  split
  · rename_i h0
    rw [show n + (8 - n % 8) % 8 = n + j by omega]
    exact hR
  · rename_i h0
    refine Tt_m (t_writeBit hR (b := 0) (by omega) (by omega) rfl) ?_
    rintro ⟨_, b2, c2⟩ hR2
    rw [Nat.zero_mul, Nat.add_zero] at hR2
    exact ih ((8 - n % 8) % 8 - (j + 1)) _ _ (by omega) ⟨j + 1, by omega, rfl, hR2⟩
/-- what is left when program and reference have written the same: the bytes -/
theorem t_same {len op oc bits : Int32} {c d : Nat → Int32} {n V : Nat} (h : ClsW len op oc c n V) (g : RefW bits d n V) : ∀ i, i < n / 8 → i < 8256 → c i = d i := by
  intro i h1 h2
  rw [h.2.2.2.2 i h1 h2, g.2.2 i (by omega)]
/-! codes, turned round -/
def rv (c : Nat) : Nat → Nat
  | 0 => 0
  | i + 1 => 2 * rv c i + c / 2 ^ i % 2
theorem rv_lt (c : Nat) : ∀ i, rv c i < 2 ^ i := by
  intro i
  induction i with
  | zero => exact Nat.one_pos
  | succ i ih =>
    show 2 * rv c i + c / 2 ^ i % 2 < 2 ^ (i + 1)
    rw [Nat.pow_succ]
    omega
/-- the first j bits of a code of l bits, as they are written -/
def rw1 (c l : Nat) : Nat → Nat
  | 0 => 0
  | j + 1 => rw1 c l j + c / 2 ^ (l - 1 - j) % 2 * 2 ^ j
theorem rw1_s (c l : Nat) : ∀ j, j ≤ l → rw1 c (l + 1) (j + 1) = c / 2 ^ l % 2 + 2 * rw1 c l j := by
  intro j
  induction j with
  | zero =>
    intro _
    show 0 + c / 2 ^ (l + 1 - 1 - 0) % 2 * 2 ^ 0 = c / 2 ^ l % 2 + 2 * 0
    rw [show l + 1 - 1 - 0 = l by omega]
    omega
  | succ j ih =>
    intro hj
    show rw1 c (l + 1) (j + 1) + c / 2 ^ (l + 1 - 1 - (j + 1)) % 2 * 2 ^ (j + 1) = c / 2 ^ l % 2 + 2 * (rw1 c l j + c / 2 ^ (l - 1 - j) % 2 * 2 ^ j)
    rw [ih (by omega), show l + 1 - 1 - (j + 1) = l - 1 - j by omega, Nat.pow_succ, Nat.mul_add, ← Nat.mul_assoc, Nat.mul_comm (c / 2 ^ (l - 1 - j) % 2 * 2 ^ j) 2]
    omega
theorem rw1_rv (c : Nat) : ∀ l, rw1 c l l = rv c l := by
  intro l
  induction l with
  | zero => rfl
  | succ l ih =>
    rw [rw1_s c l l (by omega), ih]
    show _ = 2 * rv c l + c / 2 ^ l % 2
    omega
theorem t_turned {x y : Int32} {c l : Nat} (hx : x = nI c) (hy : y = nI l) (hl : l ≤ 15) (hc : c < 2 ^ 31) : Tt (Code_turned 200000 x y) (fun u => u.1 = nI (rv c l)) := by
  subst hx hy
  unfold Code_turned
  refine Tt_W2 (fun m x2 x3 => ∃ j, j ≤ l ∧ x3 = nI j ∧ x2 = nI (rv c j) ∧ m = l - j) ?_ 200000 l 0 0 (by omega) ⟨0, by omega, rfl, rfl, rfl⟩
  rintro K m x2 x3 ⟨j, hj, rfl, rfl, rfl⟩ ih
  have b := rv_lt c j
  have b2 : 2 ^ j ≤ 2 ^ 15 := Nat.pow_le_pow_right (by omega) (by omega)
  unfold Code_turned_4
  simp (disch := omega) only [Tt_L, Tt_S, Tt_C, Tt_Z, Tt_R0, Tt_R1, Tt_R2, Tt_R3, Tt_R4, Tt_R5, q10, eq_self, Nat.not_lt_zero, if_true, if_false, i_0, i_1, i_2, i_3, i_4, i_5, i_6, i_7, i_8, i_9, i_10, i_11, i_13, i_14, i_15, i_16, i_17, i_18, i_19, i_24, i_29, i_30, i_31, i_32, i_138, i_143, i_144, i_254, i_255, i_256, i_257, i_258, i_261, i_264, i_265, i_279, i_280, i_284, i_285, i_286, i_288, i_319, i_320, i_338, i_339, i_575, i_576, i_599, i_600, i_4096, i_8191, i_8192, i_8249, i_8250, i_8256, i_9000, i_16384, i_32767, i_32768, i_65520, i_65521, i_65535, i_65536, i_65999, i_66000, i_1300, i_120, i_156, nI_leI, n_shr, n_shl, n_1, nI_add]
  split
  · rename_i h0
    rw [show l = j by omega]
  · rename_i h0
    have b3 : c / 2 ^ j % 2 < 2 ^ 1 := Nat.mod_lt _ (by omega)
    rw [n_or, Nat.or_comm, ← n_or, n_ord b3]
    refine ih (l - (j + 1)) _ _ (by omega) ⟨j + 1, by omega, rfl, ?_, rfl⟩
    congr 1
    show _ = 2 * rv c j + c / 2 ^ j % 2
    omega
theorem t_writeCode {bits x : Int32} {c of codes : Nat → Int32} {N n V s l cd : Nat} (h : RefW bits c n V) (hn : n + l ≤ 528000) (hl : l ≤ 15) (hx : x = nI s) (hs : s < N) (hN : N ≤ 339) (ho : of s = nI l) (hc : codes s = nI cd) (hcd : cd < 2 ^ 31) : Tt (M_writeCode 200000 N of codes bits c x) (fun u => RefW u.2.1 u.2.2 (n + l) (V + rv cd l * 2 ^ n)) := by
  subst hx
  unfold M_writeCode
  simp (disch := omega) only [Tt_L, Tt_S, Tt_C, Tt_Z, Tt_R0, Tt_R1, Tt_R2, Tt_R3, Tt_R4, Tt_R5, q10, eq_self, Nat.not_lt_zero, if_true, if_false, Tt_N, nI_clamp]
  refine ⟨hs, ?_⟩
  rw [ho]
  refine Tt_W3 (fun m bits c x3 => ∃ j, j ≤ l ∧ x3 = nI (l - j) - 1 ∧ m = l - j ∧ RefW bits c (n + j) (V + rw1 cd l j * 2 ^ n)) ?_ 200000 l bits c _ (by omega) ⟨0, by omega, rfl, rfl, by rw [show rw1 cd l 0 = 0 from rfl, Nat.zero_mul]; exact h⟩
  rintro K m bits c x3 ⟨j, hj, rfl, rfl, hR⟩ ih
  unfold M_writeCode_6
  by_cases e : j = l
  · subst e
    have h0 : nI (j - j) - 1 < 0 := by rw [Nat.sub_self]; decide
    simp only [Tt_C, Tt_S]
    rw [if_pos h0, ← rw1_rv]
    exact hR
  · have e1 : nI (l - j) - 1 = nI (l - j - 1) := n_pred (by omega)
    rw [e1]
    simp (disch := omega) only [Tt_L, Tt_S, Tt_C, Tt_Z, Tt_R0, Tt_R1, Tt_R2, Tt_R3, Tt_R4, Tt_R5, q10, eq_self, Nat.not_lt_zero, if_true, if_false, i_0, i_1, i_2, i_3, i_4, i_5, i_6, i_7, i_8, i_9, i_10, i_11, i_13, i_14, i_15, i_16, i_17, i_18, i_19, i_24, i_29, i_30, i_31, i_32, i_138, i_143, i_144, i_254, i_255, i_256, i_257, i_258, i_261, i_264, i_265, i_279, i_280, i_284, i_285, i_286, i_288, i_319, i_320, i_338, i_339, i_575, i_576, i_599, i_600, i_4096, i_8191, i_8192, i_8249, i_8250, i_8256, i_9000, i_16384, i_32767, i_32768, i_65520, i_65521, i_65535, i_65536, i_65999, i_66000, i_1300, i_120, i_156, n_neg, Nat.not_lt_zero, if_false, Tt_N, nI_clamp, hc, n_shr, n_1]
    refine ⟨by omega, ?_⟩
    refine Tt_m (t_writeBit hR (by omega) (Nat.mod_lt _ (by omega)) rfl) ?_
    rintro ⟨_, b2, c2⟩ hR2
    refine ih (l - (j + 1)) _ _ _ (by omega) ⟨j + 1, by omega, ?_, rfl, ?_⟩
    · rw [show l - j - 1 = l - (j + 1) by omega]
      exact n_am1 _
    · have e2 : V + rw1 cd l (j + 1) * 2 ^ n = V + rw1 cd l j * 2 ^ n + cd / 2 ^ (l - j - 1) % 2 * 2 ^ (n + j) := by
        show V + (rw1 cd l j + cd / 2 ^ (l - 1 - j) % 2 * 2 ^ j) * 2 ^ n = _
        rw [Nat.add_mul, Nat.mul_assoc, ← Nat.pow_add, Nat.add_comm j n, show l - 1 - j = l - j - 1 by omega]
        omega
      rw [e2]
      exact hR2
theorem t_codeWrite {len op oc x : Int32} {c lens codes : Nat → Int32} {N n V s l v : Nat} (h : ClsW len op oc c n V) (hl : l ≤ 15) (hx : x = nI s) (hs : s < N) (hN : N ≤ 339) (ho : lens s = nI l) (hc : codes s = nI v) (hv : v < 2 ^ l) : Tt (Code_write 200000 N N lens codes len op oc c x) (fun u => ClsW u.2.1 u.2.2.1 u.2.2.2.1 u.2.2.2.2 (n + l) (V + v * 2 ^ n)) := by
  subst hx
  unfold Code_write
  simp (disch := omega) only [Tt_L, Tt_S, Tt_C, Tt_Z, Tt_R0, Tt_R1, Tt_R2, Tt_R3, Tt_R4, Tt_R5, q10, eq_self, Nat.not_lt_zero, if_true, if_false, i_0, i_1, i_2, i_3, i_4, i_5, i_6, i_7, i_8, i_9, i_10, i_11, i_13, i_14, i_15, i_16, i_17, i_18, i_19, i_24, i_29, i_30, i_31, i_32, i_138, i_143, i_144, i_254, i_255, i_256, i_257, i_258, i_261, i_264, i_265, i_279, i_280, i_284, i_285, i_286, i_288, i_319, i_320, i_338, i_339, i_575, i_576, i_599, i_600, i_4096, i_8191, i_8192, i_8249, i_8250, i_8256, i_9000, i_16384, i_32767, i_32768, i_65520, i_65521, i_65535, i_65536, i_65999, i_66000, i_1300, i_120, i_156, n_neg, Nat.not_lt_zero, if_false, nI_leI, Tt_N, nI_clamp, ho, hc]
  rw [if_neg (by omega), if_neg (by omega)]
  refine ⟨hs, hs, ?_⟩
  refine Tt_m (t_number h (by omega) hv rfl rfl) ?_
  intro u hu
  first | exact hu | exact Tt_Si hu
/-! codes out of lengths, by program and reference -/
theorem t_fill {N : Nat} {c : Nat → Int32} {x : Int32} (hN : N ≤ 100000) : Tt (Arr_fill 200000 N c x) (fun u => ∀ i, u.2 i = if i < N then x else c i) := by
  unfold Arr_fill
  simp only [Tt_L]
  refine Tt_W3 (fun m c' x2 x3 => ∃ j, j ≤ N ∧ x2 = nI j ∧ x3 = nI N ∧ m = N - j ∧ ∀ i, c' i = if i < j then x else c i) ?_ 200000 N c 0 (nI N) (by omega) ⟨0, by omega, rfl, rfl, rfl, fun i => by rw [if_neg (by omega)]⟩
  rintro K m c' x2 x3 ⟨j, hj, rfl, rfl, rfl, hc⟩ ih
  unfold Arr_fill_5
  simp (disch := omega) only [Tt_L, Tt_S, Tt_C, Tt_Z, Tt_R0, Tt_R1, Tt_R2, Tt_R3, Tt_R4, Tt_R5, q10, eq_self, Nat.not_lt_zero, if_true, if_false, i_0, i_1, i_2, i_3, i_4, i_5, i_6, i_7, i_8, i_9, i_10, i_11, i_13, i_14, i_15, i_16, i_17, i_18, i_19, i_24, i_29, i_30, i_31, i_32, i_138, i_143, i_144, i_254, i_255, i_256, i_257, i_258, i_261, i_264, i_265, i_279, i_280, i_284, i_285, i_286, i_288, i_319, i_320, i_338, i_339, i_575, i_576, i_599, i_600, i_4096, i_8191, i_8192, i_8249, i_8250, i_8256, i_9000, i_16384, i_32767, i_32768, i_65520, i_65521, i_65535, i_65536, i_65999, i_66000, i_1300, i_120, i_156, nI_leI, Tt_N, nI_clamp, nI_add]
  split
  · rename_i h0
    rw [show N = j by omega]
    exact hc
  · rename_i h0
    refine ⟨by omega, ih (N - (j + 1)) _ _ _ (by omega) ⟨j + 1, by omega, rfl, rfl, rfl, fun i => ?_⟩⟩
    by_cases e : i = j
    · subst e; rw [pk_us, if_pos (by omega)]
    · rw [pk_un e, hc i]
      by_cases h : i < j
      · rw [if_pos h, if_pos (by omega)]
      · rw [if_neg h, if_neg (by omega)]
def cn (f : Nat → Nat) (l : Nat) : Nat → Nat
  | 0 => 0
  | n + 1 => cn f l n + (if f n = l then 1 else 0)
def bs (f : Nat → Nat) (n : Nat) : Nat → Nat
  | 0 => 0
  | l + 1 => 2 * (bs f n l + (if l = 0 then 0 else cn f l n))
def cde (f : Nat → Nat) (n s : Nat) : Nat := bs f n (f s) + cn f (f s) s
theorem cn_le (f : Nat → Nat) (l : Nat) : ∀ n, cn f l n ≤ n := by
  intro n
  induction n with
  | zero => exact Nat.le_refl 0
  | succ n ih =>
    show cn f l n + (if f n = l then 1 else 0) ≤ n + 1
    split <;> omega
theorem cn_mono (f : Nat → Nat) (l : Nat) : ∀ {a b : Nat}, a ≤ b → cn f l a ≤ cn f l b := by
  intro a b h
  induction b with
  | zero => have : a = 0 := by omega
            subst this; exact Nat.le_refl _
  | succ b ih =>
    by_cases e : a = b + 1
    · subst e; exact Nat.le_refl _
    · have := ih (by omega)
      show cn f l a ≤ cn f l b + (if f b = l then 1 else 0)
      split <;> omega
theorem cn_ext {f g : Nat → Nat} {l n : Nat} : ∀ {n' : Nat}, n ≤ n' → (∀ i, i < n → f i = g i) → (∀ i, n ≤ i → i < n' → g i ≠ l) → cn g l n' = cn f l n := by
  intro n'
  induction n' with
  | zero =>
    intro h _ _
    have : n = 0 := by omega
    subst this; rfl
  | succ n' ih =>
    intro h h1 h2
    by_cases e : n = n' + 1
    · subst e
      have : ∀ k, k ≤ n' + 1 → cn g l k = cn f l k := by
        intro k
        induction k with
        | zero => intro _; rfl
        | succ k ih2 =>
          intro hk
          show cn g l k + (if g k = l then 1 else 0) = cn f l k + (if f k = l then 1 else 0)
          rw [ih2 (by omega), h1 k (by omega)]
      exact this _ (Nat.le_refl _)
    · show cn g l n' + (if g n' = l then 1 else 0) = _
      rw [ih (by omega) h1 (fun i a b => h2 i a (by omega)), if_neg (h2 n' (by omega) (by omega))]
      rfl
theorem bs_ext {f g : Nat → Nat} {n n' : Nat} (h : n ≤ n') (h1 : ∀ i, i < n → f i = g i) (h2 : ∀ i, n ≤ i → i < n' → g i = 0) : ∀ l, bs g n' l = bs f n l := by
  intro l
  induction l with
  | zero => rfl
  | succ l ih =>
    show 2 * (bs g n' l + (if l = 0 then 0 else cn g l n')) = 2 * (bs f n l + (if l = 0 then 0 else cn f l n))
    rw [ih]
    by_cases e : l = 0
    · rw [if_pos e, if_pos e]
    · rw [if_neg e, if_neg e, cn_ext h h1 (fun i a b => by rw [h2 i a b]; omega)]
theorem cde_ext {f g : Nat → Nat} {n n' s : Nat} (h : n ≤ n') (h1 : ∀ i, i < n → f i = g i) (h2 : ∀ i, n ≤ i → i < n' → g i = 0) (hs : s < n) : cde g n' s = cde f n s := by
  unfold cde
  rw [bs_ext h h1 h2, ← h1 s hs, @cn_ext f g (f s) s s (Nat.le_refl s) (fun i hi => h1 i (by omega)) (fun i a b => by omega)]
theorem bs_lt (f : Nat → Nat) (n : Nat) : ∀ l, bs f n l + 2 * n ≤ n * 2 ^ (l + 1) := by
  intro l
  induction l with
  | zero => show 0 + 2 * n ≤ n * 2 ^ 1; omega
  | succ l ih =>
    show 2 * (bs f n l + (if l = 0 then 0 else cn f l n)) + 2 * n ≤ n * 2 ^ (l + 1 + 1)
    have c := cn_le f l n
    rw [Nat.pow_succ 2 (l + 1), ← Nat.mul_assoc]
    split <;> omega
theorem bs_b {f : Nat → Nat} {n l : Nat} (hl : l ≤ 15) (hn : n ≤ 339) : bs f n l + 2 * n ≤ 22216704 := by
  have h := bs_lt f n l
  have h2 : n * 2 ^ (l + 1) ≤ 339 * 2 ^ 16 := Nat.mul_le_mul hn (Nat.pow_le_pow_right (by omega) (by omega))
  have h3 : 339 * 2 ^ 16 = 22216704 := by decide
  omega
theorem cde_b {f : Nat → Nat} {n s : Nat} (hs : s < n) (hl : f s ≤ 15) (hn : n ≤ 339) : cde f n s < 22216704 := by
  have h := @bs_b f n (f s) hl hn
  have c := cn_le f (f s) s
  unfold cde
  omega
theorem t_assign88 {N : Nat} {lens next codes : Nat → Int32} {f : Nat → Nat} (hN : N ≤ 339) (hL : ∀ i, i < N → lens i = nI (f i)) (hf : ∀ i, i < N → f i ≤ 15) (hn : ∀ l, 1 ≤ l → l ≤ 15 → next l = nI (bs f N l)) : Tt (Code_assign_88 200000 N N lens next codes) (fun u => ∀ s, s < N → 0 < f s → u.2.2 s = nI (rv (cde f N s) (f s))) := by
  unfold Code_assign_88
  refine Tt_W3 (fun m next codes x2 => ∃ s, s ≤ N ∧ x2 = nI s ∧ m = N - s ∧ (∀ l, 1 ≤ l → l ≤ 15 → next l = nI (bs f N l + cn f l s)) ∧ ∀ t, t < s → 0 < f t → codes t = nI (rv (cde f N t) (f t))) ?_ 200000 N next codes 0 (by omega) ⟨0, by omega, rfl, rfl, fun l h1 h2 => hn l h1 h2, fun t h => by omega⟩
  rintro K m next codes x2 ⟨s, hs, rfl, rfl, hx, hc⟩ ih
  unfold Code_assign_90 Code_assign_142
  simp (disch := omega) only [Tt_L, Tt_S, Tt_C, Tt_Z, Tt_R0, Tt_R1, Tt_R2, Tt_R3, Tt_R4, Tt_R5, q10, eq_self, Nat.not_lt_zero, if_true, if_false, i_0, i_1, i_2, i_3, i_4, i_5, i_6, i_7, i_8, i_9, i_10, i_11, i_13, i_14, i_15, i_16, i_17, i_18, i_19, i_24, i_29, i_30, i_31, i_32, i_138, i_143, i_144, i_254, i_255, i_256, i_257, i_258, i_261, i_264, i_265, i_279, i_280, i_284, i_285, i_286, i_288, i_319, i_320, i_338, i_339, i_575, i_576, i_599, i_600, i_4096, i_8191, i_8192, i_8249, i_8250, i_8256, i_9000, i_16384, i_32767, i_32768, i_65520, i_65521, i_65535, i_65536, i_65999, i_66000, i_1300, i_120, i_156, nI_leI, Tt_N, nI_clamp, nI_add]
  split
  · rename_i h0
    intro t ht h
    exact hc t (by omega) h
  · rename_i h0
    have e := hL s (by omega)
    have b := hf s (by omega)
    have bb := @bs_b f N (f s) b hN
    have cc := cn_le f (f s) s
    refine ⟨by omega, ?_⟩
    rw [e]
    simp (disch := omega) only [Tt_L, Tt_S, Tt_C, Tt_Z, Tt_R0, Tt_R1, Tt_R2, Tt_R3, Tt_R4, Tt_R5, q10, eq_self, Nat.not_lt_zero, if_true, if_false, i_0, i_1, i_2, i_3, i_4, i_5, i_6, i_7, i_8, i_9, i_10, i_11, i_13, i_14, i_15, i_16, i_17, i_18, i_19, i_24, i_29, i_30, i_31, i_32, i_138, i_143, i_144, i_254, i_255, i_256, i_257, i_258, i_261, i_264, i_265, i_279, i_280, i_284, i_285, i_286, i_288, i_319, i_320, i_338, i_339, i_575, i_576, i_599, i_600, i_4096, i_8191, i_8192, i_8249, i_8250, i_8256, i_9000, i_16384, i_32767, i_32768, i_65520, i_65521, i_65535, i_65536, i_65999, i_66000, i_1300, i_120, i_156, nI_leI, nI_ltI, Tt_N, nI_clamp]
    split
    · rename_i h1
      refine ih (N - (s + 1)) _ _ _ (by omega) ⟨s + 1, by omega, rfl, rfl, fun l h2 h3 => ?_, fun t ht h => ?_⟩
      · rw [hx l h2 h3]
        show _ = nI (bs f N l + (cn f l s + (if f s = l then 1 else 0)))
        rw [if_neg (by omega)]; rfl
      · by_cases z : t = s
        · subst z; omega
        · exact hc t (by omega) h
    · rename_i h1
      rw [if_neg (by omega)]
      have ex := hx (f s) (by omega) (by omega)
      refine ⟨by omega, ?_⟩
      refine Tt_m (t_turned (c := cde f N s) (l := f s) ex rfl (by omega) (by unfold cde; omega)) ?_
      rintro ⟨r, _⟩ hr
      have hr' : r = nI (rv (cde f N s) (f s)) := hr
      subst hr'
      refine ⟨by omega, by omega, by omega, ?_⟩
      refine ih (N - (s + 1)) _ _ _ (by omega) ⟨s + 1, by omega, rfl, rfl, fun l h2 h3 => ?_, fun t ht h => ?_⟩
      · show _ = nI (bs f N l + (cn f l s + (if f s = l then 1 else 0)))
        by_cases z : l = f s
        · rw [← z, pk_us, z, ex, if_pos rfl, nI_add]; rfl
        · rw [pk_un z, hx l h2 h3, if_neg (fun q => z q.symm)]; rfl
      · by_cases z : t = s
        · rw [z, pk_us]
        · rw [pk_un z]; exact hc t (by omega) h
theorem t_assign52 {N : Nat} {lens next codes : Nat → Int32} {f : Nat → Nat} (hN : N ≤ 339) (hL : ∀ i, i < N → lens i = nI (f i)) (hf : ∀ i, i < N → f i ≤ 15) (hn : ∀ l, 1 ≤ l → l ≤ 15 → next l = nI (cn f l N)) : Tt (Code_assign_52 200000 N N lens next codes) (fun u => ∀ s, s < N → 0 < f s → u.2.2 s = nI (rv (cde f N s) (f s))) := by
  unfold Code_assign_52
  refine Tt_W4 (fun m next _ x1 x2 => ∃ l, 1 ≤ l ∧ l ≤ 16 ∧ x1 = nI (bs f N l) ∧ x2 = nI l ∧ m = 16 - l ∧ ∀ j, 1 ≤ j → j ≤ 15 → next j = if j < l then nI (bs f N j) else nI (cn f j N)) ?_ 200000 15 next codes 0 1 (by omega) ⟨1, by omega, by omega, rfl, rfl, rfl, fun j h1 h2 => by rw [if_neg (by omega)]; exact hn j h1 h2⟩
  rintro K m next codes x1 x2 ⟨l, h1, h2, rfl, rfl, rfl, hx⟩ ih
  unfold Code_assign_56
  simp (disch := omega) only [Tt_L, Tt_S, Tt_C, Tt_Z, Tt_R0, Tt_R1, Tt_R2, Tt_R3, Tt_R4, Tt_R5, q10, eq_self, Nat.not_lt_zero, if_true, if_false, i_0, i_1, i_2, i_3, i_4, i_5, i_6, i_7, i_8, i_9, i_10, i_11, i_13, i_14, i_15, i_16, i_17, i_18, i_19, i_24, i_29, i_30, i_31, i_32, i_138, i_143, i_144, i_254, i_255, i_256, i_257, i_258, i_261, i_264, i_265, i_279, i_280, i_284, i_285, i_286, i_288, i_319, i_320, i_338, i_339, i_575, i_576, i_599, i_600, i_4096, i_8191, i_8192, i_8249, i_8250, i_8256, i_9000, i_16384, i_32767, i_32768, i_65520, i_65521, i_65535, i_65536, i_65999, i_66000, i_1300, i_120, i_156, nI_ltI, Tt_N, nI_clamp, nI_add]
  split
  · rename_i h0
    refine t_assign88 hN hL hf (fun j a b => ?_)
    rw [hx j a b, if_pos (by omega)]
  · rename_i h0
    have bb := @bs_b f N l (by omega) hN
    have cc := cn_le f l N
    refine ⟨by omega, by omega, ?_⟩
    rw [hx l (by omega) (by omega), if_neg (by omega), nI_add, n_shl (by omega) (by omega)]
    refine ih (16 - (l + 1)) _ _ _ _ (by omega) ⟨l + 1, by omega, by omega, ?_, rfl, rfl, fun j a b => ?_⟩
    · congr 1
      show _ = 2 * (bs f N l + (if l = 0 then 0 else cn f l N))
      rw [if_neg (by omega)]
      omega
    · by_cases z : j = l
      · subst z; rw [pk_us, if_pos (by omega)]
      · rw [pk_un z, hx j a b]
        by_cases y : j < l
        · rw [if_pos y, if_pos (by omega)]
        · rw [if_neg y, if_neg (by omega)]
/-- the program's codes -/
theorem t_assign {N : Nat} {lens next codes : Nat → Int32} {f : Nat → Nat} (hN : N ≤ 339) (hL : ∀ i, i < N → lens i = nI (f i)) (hf : ∀ i, i < N → f i ≤ 15) : Tt (Code_assign 200000 N N lens next codes) (fun u => ∀ s, s < N → 0 < f s → u.2.2 s = nI (rv (cde f N s) (f s))) := by
  unfold Code_assign
  rw [Tt_R1]
  refine Tt_m (t_fill (by omega)) ?_
  rintro ⟨_, c1⟩ h1
  refine Tt_W3 (fun m next codes x1 => ∃ s, s ≤ N ∧ x1 = nI s ∧ m = N - s ∧ ∀ l, 1 ≤ l → l ≤ 15 → next l = nI (cn f l s)) ?_ 200000 N c1 codes 0 (by omega) ⟨0, by omega, rfl, rfl, fun l a b => by
    have := h1 l
    rw [if_pos (by omega)] at this
    exact this⟩
  rintro K m next codes x1 ⟨s, hs, rfl, rfl, hx⟩ ih
  unfold Code_assign_10 Code_assign_46
  simp (disch := omega) only [Tt_L, Tt_S, Tt_C, Tt_Z, Tt_R0, Tt_R1, Tt_R2, Tt_R3, Tt_R4, Tt_R5, q10, eq_self, Nat.not_lt_zero, if_true, if_false, i_0, i_1, i_2, i_3, i_4, i_5, i_6, i_7, i_8, i_9, i_10, i_11, i_13, i_14, i_15, i_16, i_17, i_18, i_19, i_24, i_29, i_30, i_31, i_32, i_138, i_143, i_144, i_254, i_255, i_256, i_257, i_258, i_261, i_264, i_265, i_279, i_280, i_284, i_285, i_286, i_288, i_319, i_320, i_338, i_339, i_575, i_576, i_599, i_600, i_4096, i_8191, i_8192, i_8249, i_8250, i_8256, i_9000, i_16384, i_32767, i_32768, i_65520, i_65521, i_65535, i_65536, i_65999, i_66000, i_1300, i_120, i_156, nI_leI, Tt_N, nI_clamp, nI_add]
  split
  · rename_i h0
    refine t_assign52 hN hL hf (fun l a b => ?_)
    rw [hx l a b, show N = s by omega]
  · rename_i h0
    have e := hL s (by omega)
    have b := hf s (by omega)
    refine ⟨by omega, ?_⟩
    rw [e]
    simp (disch := omega) only [Tt_L, Tt_S, Tt_C, Tt_Z, Tt_R0, Tt_R1, Tt_R2, Tt_R3, Tt_R4, Tt_R5, q10, eq_self, Nat.not_lt_zero, if_true, if_false, i_0, i_1, i_2, i_3, i_4, i_5, i_6, i_7, i_8, i_9, i_10, i_11, i_13, i_14, i_15, i_16, i_17, i_18, i_19, i_24, i_29, i_30, i_31, i_32, i_138, i_143, i_144, i_254, i_255, i_256, i_257, i_258, i_261, i_264, i_265, i_279, i_280, i_284, i_285, i_286, i_288, i_319, i_320, i_338, i_339, i_575, i_576, i_599, i_600, i_4096, i_8191, i_8192, i_8249, i_8250, i_8256, i_9000, i_16384, i_32767, i_32768, i_65520, i_65521, i_65535, i_65536, i_65999, i_66000, i_1300, i_120, i_156, nI_leI, nI_ltI, Tt_N, nI_clamp]
    split
    · rename_i h2
      refine ih (N - (s + 1)) _ _ _ (by omega) ⟨s + 1, by omega, rfl, rfl, fun l h3 h4 => ?_⟩
      rw [hx l h3 h4]
      show _ = nI (cn f l s + (if f s = l then 1 else 0))
      rw [if_neg (by omega)]; rfl
    · rename_i h2
      rw [if_neg (by omega)]
      refine ⟨by omega, by omega, ?_⟩
      refine ih (N - (s + 1)) _ _ _ (by omega) ⟨s + 1, by omega, rfl, rfl, fun l h3 h4 => ?_⟩
      show _ = nI (cn f l s + (if f s = l then 1 else 0))
      by_cases z : l = f s
      · rw [← z, pk_us, z, hx (f s) (by omega) (by omega), if_pos rfl, nI_add]
      · rw [pk_un z, hx l h3 h4, if_neg (fun q => z q.symm)]; rfl
/-- the reference's code of a symbol -/
theorem t_codeOf {N0 a N s : Nat} {of : Nat → Int32} {f : Nat → Nat} {x1 x2 x3 : Int32} (h1 : x1 = nI a) (h2 : x2 = nI N) (h3 : x3 = nI s) (hN : a + N ≤ N0) (hN0 : N0 ≤ 339) (hs : s < N) (hL : ∀ i, i < N → of (a + i) = nI (f i)) (hf : ∀ i, i < N → f i ≤ 15) (h0 : 0 < f s) : Tt (M_codeOf 200000 N0 of x1 x2 x3) (fun u => u.1 = nI (cde f N s)) := by
  subst h1 h2 h3
  have hfs := hf s hs
  unfold M_codeOf
  refine Tt_W2 (fun m x4 x5 => ∃ l, 1 ≤ l ∧ l ≤ f s + 1 ∧ x5 = nI l ∧ m = f s + 1 - l ∧ x4 = nI (if l = f s + 1 then cde f N s else bs f N (l - 1) + (if l - 1 = 0 then 0 else cn f (l - 1) N))) ?_ 200000 (f s) 0 1 (by omega) ⟨1, by omega, by omega, rfl, by omega, by rw [if_neg (by omega)]; rfl⟩
  rintro K m x4 x5 ⟨l, hl1, hl2, rfl, rfl, rfl⟩ ih
  unfold M_codeOf_6
  simp (disch := omega) only [Tt_L, Tt_S, Tt_C, Tt_Z, Tt_R0, Tt_R1, Tt_R2, Tt_R3, Tt_R4, Tt_R5, q10, eq_self, Nat.not_lt_zero, if_true, if_false, i_0, i_1, i_2, i_3, i_4, i_5, i_6, i_7, i_8, i_9, i_10, i_11, i_13, i_14, i_15, i_16, i_17, i_18, i_19, i_24, i_29, i_30, i_31, i_32, i_138, i_143, i_144, i_254, i_255, i_256, i_257, i_258, i_261, i_264, i_265, i_279, i_280, i_284, i_285, i_286, i_288, i_319, i_320, i_338, i_339, i_575, i_576, i_599, i_600, i_4096, i_8191, i_8192, i_8249, i_8250, i_8256, i_9000, i_16384, i_32767, i_32768, i_65520, i_65521, i_65535, i_65536, i_65999, i_66000, i_1300, i_120, i_156, nI_add, Tt_N, nI_clamp, hL s hs, nI_ltI, pk_mul]
  refine ⟨by omega, ?_⟩
  split
  · rename_i h1
    rw [if_pos (by omega)]
  · rename_i h1
    rw [if_neg (by omega)]
    have e1 : 2 * (bs f N (l - 1) + (if l - 1 = 0 then 0 else cn f (l - 1) N)) = bs f N l := by
      have : bs f N ((l - 1) + 1) = 2 * (bs f N (l - 1) + (if l - 1 = 0 then 0 else cn f (l - 1) N)) := rfl
      rw [← this, show l - 1 + 1 = l by omega]
    rw [e1]
    have bb := @bs_b f N l (by omega) (by omega)
    refine Tt_W3 (fun m x4 x5 x6 => ∃ k, k ≤ N ∧ x6 = nI k ∧ x5 = nI l ∧ m = N - k ∧ x4 = nI (bs f N l + (if l < f s then cn f l k else cn f l (min k s)))) ?_ 200000 N _ _ 0 (by omega) ⟨0, by omega, rfl, rfl, rfl, by
      rw [show min 0 s = 0 by omega]
      show nI (bs f N l) = nI (bs f N l + (if l < f s then 0 else 0))
      split <;> rfl⟩
    rintro K2 m x4 x5 x6 ⟨k, hk, rfl, rfl, rfl, rfl⟩ ih2
    have step : ∀ (y : Nat), k < N → y = bs f N l + (if l < f s then cn f l (k + 1) else cn f l (min (k + 1) s)) → Tt (K2 (nI y) (nI l) (nI (k + 1))) (fun u => u.1 = nI (cde f N s)) := by
      intro y hkN hy
      exact ih2 (N - (k + 1)) _ _ _ (by omega) ⟨k + 1, by omega, rfl, rfl, rfl, by rw [hy]⟩
    unfold M_codeOf_25 M_codeOf_47 M_codeOf_52 M_codeOf_77 M_codeOf_79 M_codeOf_87
    by_cases hkN : N ≤ k
    · simp (disch := omega) only [Tt_L, Tt_S, Tt_C, Tt_Z, Tt_R0, Tt_R1, Tt_R2, Tt_R3, Tt_R4, Tt_R5, q10, eq_self, Nat.not_lt_zero, if_true, if_false, i_0, i_1, i_2, i_3, i_4, i_5, i_6, i_7, i_8, i_9, i_10, i_11, i_13, i_14, i_15, i_16, i_17, i_18, i_19, i_24, i_29, i_30, i_31, i_32, i_138, i_143, i_144, i_254, i_255, i_256, i_257, i_258, i_261, i_264, i_265, i_279, i_280, i_284, i_285, i_286, i_288, i_319, i_320, i_338, i_339, i_575, i_576, i_599, i_600, i_4096, i_8191, i_8192, i_8249, i_8250, i_8256, i_9000, i_16384, i_32767, i_32768, i_65520, i_65521, i_65535, i_65536, i_65999, i_66000, i_1300, i_120, i_156, nI_add, nI_leI, hkN, if_true]
      refine ih (f s + 1 - (l + 1)) _ _ (by omega) ⟨l + 1, by omega, by omega, rfl, rfl, ?_⟩
      congr 1
      have ek : k = N := by omega
      by_cases z : l < f s
      · rw [if_pos z, if_neg (by omega), show l + 1 - 1 = l by omega, if_neg (by omega), ek]
      · rw [if_neg z, if_pos (by omega)]
        have : l = f s := by omega
        unfold cde
        rw [this, show min k s = s by omega]
    · have ek := hL k (by omega)
      have bk := hf k (by omega)
      simp (disch := omega) only [Tt_L, Tt_S, Tt_C, Tt_Z, Tt_R0, Tt_R1, Tt_R2, Tt_R3, Tt_R4, Tt_R5, q10, eq_self, Nat.not_lt_zero, if_true, if_false, i_0, i_1, i_2, i_3, i_4, i_5, i_6, i_7, i_8, i_9, i_10, i_11, i_13, i_14, i_15, i_16, i_17, i_18, i_19, i_24, i_29, i_30, i_31, i_32, i_138, i_143, i_144, i_254, i_255, i_256, i_257, i_258, i_261, i_264, i_265, i_279, i_280, i_284, i_285, i_286, i_288, i_319, i_320, i_338, i_339, i_575, i_576, i_599, i_600, i_4096, i_8191, i_8192, i_8249, i_8250, i_8256, i_9000, i_16384, i_32767, i_32768, i_65520, i_65521, i_65535, i_65536, i_65999, i_66000, i_1300, i_120, i_156, nI_add, Tt_N, nI_clamp, hL s hs, ek, nI_ltI, nI_leI, nI_eq]
      rw [if_neg hkN]
      refine ⟨by omega, ?_⟩
      have ck : cn f l (k + 1) = cn f l k + (if f k = l then 1 else 0) := rfl
      by_cases z : l < f s
      · rw [if_pos z]
        refine ⟨by omega, ?_⟩
        by_cases y : f k = l
        · rw [if_pos y]
          refine step _ (by omega) ?_
          rw [if_pos z, if_pos z, ck, if_pos y]
          omega
        · rw [if_neg y]
          refine step _ (by omega) ?_
          rw [if_pos z, if_pos z, ck, if_neg y]
          rfl
      · rw [if_neg z]
        by_cases y2 : s ≤ k
        · rw [if_pos y2]
          have e5 : min (k + 1) s = min k s := by omega
          by_cases y : f k = l
          · refine ⟨by omega, ?_⟩
            rw [if_pos y]
            refine step _ (by omega) ?_
            rw [if_neg z, if_neg z, e5]
          · refine ⟨by omega, ?_⟩
            rw [if_neg y]
            refine step _ (by omega) ?_
            rw [if_neg z, if_neg z, e5]
        · rw [if_neg y2]
          have e5 : min (k + 1) s = k + 1 := by omega
          have e6 : min k s = k := by omega
          refine ⟨by omega, ?_⟩
          by_cases y : f k = l
          · rw [if_pos y]
            refine step _ (by omega) ?_
            rw [if_neg z, if_neg z, e5, e6, ck, if_pos y]
            omega
          · rw [if_neg y]
            refine step _ (by omega) ?_
            rw [if_neg z, if_neg z, e5, e6, ck, if_neg y]
            rfl
/-- the reference's codes -/
theorem t_makeCodes {N0 a N : Nat} {of codes : Nat → Int32} {f : Nat → Nat} {x2 x3 : Int32} (h1 : x2 = nI a) (h2 : x3 = nI N) (hN : a + N ≤ N0) (hN0 : N0 ≤ 339) (hL : ∀ i, i < N → of (a + i) = nI (f i)) (hf : ∀ i, i < N → f i ≤ 15) : Tt (M_makeCodes 200000 N0 of codes x2 x3) (fun u => (∀ s, s < N → 0 < f s → u.2 (a + s) = nI (cde f N s)) ∧ ∀ i, (i < a ∨ a + N ≤ i) → u.2 i = codes i) := by
  subst h1 h2
  unfold M_makeCodes
  refine Tt_W2 (fun m c x4 => ∃ s, s ≤ N ∧ x4 = nI s ∧ m = N - s ∧ (∀ t, t < s → 0 < f t → c (a + t) = nI (cde f N t)) ∧ ∀ i, (i < a ∨ a + N ≤ i) → c i = codes i) ?_ 200000 N codes 0 (by omega) ⟨0, by omega, rfl, rfl, fun t h => by omega, fun i _ => rfl⟩
  rintro K m c x4 ⟨s, hs, rfl, rfl, hc, ho⟩ ih
  unfold M_makeCodes_3 M_makeCodes_38
  by_cases hsN : N ≤ s
  · simp (disch := omega) only [Tt_L, Tt_S, Tt_C, Tt_Z, Tt_R0, Tt_R1, Tt_R2, Tt_R3, Tt_R4, Tt_R5, q10, eq_self, Nat.not_lt_zero, if_true, if_false, nI_leI, hsN, if_true]
    exact ⟨fun t ht h => hc t (by omega) h, ho⟩
  · have es := hL s (by omega)
    have bs' := hf s (by omega)
    simp (disch := omega) only [Tt_L, Tt_S, Tt_C, Tt_Z, Tt_R0, Tt_R1, Tt_R2, Tt_R3, Tt_R4, Tt_R5, q10, eq_self, Nat.not_lt_zero, if_true, if_false, i_0, i_1, i_2, i_3, i_4, i_5, i_6, i_7, i_8, i_9, i_10, i_11, i_13, i_14, i_15, i_16, i_17, i_18, i_19, i_24, i_29, i_30, i_31, i_32, i_138, i_143, i_144, i_254, i_255, i_256, i_257, i_258, i_261, i_264, i_265, i_279, i_280, i_284, i_285, i_286, i_288, i_319, i_320, i_338, i_339, i_575, i_576, i_599, i_600, i_4096, i_8191, i_8192, i_8249, i_8250, i_8256, i_9000, i_16384, i_32767, i_32768, i_65520, i_65521, i_65535, i_65536, i_65999, i_66000, i_1300, i_120, i_156, nI_add, Tt_N, nI_clamp, nI_leI, es]
    rw [if_neg hsN]
    refine ⟨by omega, ?_⟩
    by_cases z : f s ≤ 0
    · rw [if_pos z]
      refine ⟨by omega, ih (N - (s + 1)) _ _ (by omega) ⟨s + 1, by omega, rfl, rfl, fun t ht h => ?_, fun i hi => ?_⟩⟩
      · by_cases e : t = s
        · subst e; omega
        · rw [pk_un (by omega)]; exact hc t (by omega) h
      · rw [pk_un (by omega)]; exact ho i hi
    · rw [if_neg z]
      refine Tt_m (t_codeOf (s := s) rfl rfl rfl hN hN0 (by omega) hL hf (by omega)) ?_
      rintro ⟨r, _⟩ hr
      have hr' : r = nI (cde f N s) := hr
      subst hr'
      refine ⟨by omega, ih (N - (s + 1)) _ _ (by omega) ⟨s + 1, by omega, rfl, rfl, fun t ht h => ?_, fun i hi => ?_⟩⟩
      · by_cases e : t = s
        · subst e; rw [pk_us]
        · rw [pk_un (by omega)]; exact hc t (by omega) h
      · rw [pk_un (by omega)]; exact ho i hi
/-! symbols of lengths and distances, by program and reference -/
def gv (o : Option (Int32 × Unit)) : Nat := match o with
  | none => 0
  | some u => u.1.toNatClampNeg
def lsym (n : Nat) : Nat := gv (M_lengthSymbol 200000 (nI n))
def lex (s : Nat) : Nat := gv (M_lengthBits 200000 (nI s))
def lbase (s : Nat) : Nat := gv (M_lengthBase 200000 (nI s))
def dex (s : Nat) : Nat := gv (M_distanceBits 200000 (nI s))
def dbase (s : Nat) : Nat := gv (M_distanceBase 200000 (nI s))
theorem y_lsymM : ∀ n, n < 259 → M_lengthSymbol 200000 (nI n) = some (nI (lsym n), ()) := by decide +kernel
theorem y_lsymB : ∀ n, n < 259 → 257 ≤ lsym n ∧ lsym n < 286 := by decide +kernel
theorem y_lsymP (n : Nat) (h : n < 259) (h3 : 3 ≤ n) : P_lengthSymbol 200000 (nI n) = some (nI (lsym n), ()) := by rw [t_len n h h3, y_lsymM n h]
theorem y_lex : ∀ s, s < 286 → 257 ≤ s → M_lengthBits 200000 (nI s) = some (nI (lex s), ()) ∧ P_lengthExtra 200000 (nI s) = some (nI (lex s), ()) ∧ lex s ≤ 5 := by decide +kernel
theorem y_lbase : ∀ s, s < 286 → 257 ≤ s → M_lengthBase 200000 (nI s) = some (nI (lbase s), ()) ∧ P_lengthBase 200000 (nI s) = some (nI (lbase s), ()) ∧ 3 ≤ lbase s ∧ lbase s ≤ 258 := by decide +kernel
theorem y_lrest : ∀ n, n < 259 → 3 ≤ n → lbase (lsym n) ≤ n ∧ n - lbase (lsym n) < 2 ^ lex (lsym n) := by decide +kernel
theorem y_dex : ∀ s, s < 30 → M_distanceBits 200000 (nI s) = some (nI (dex s), ()) ∧ P_distanceExtra 200000 (nI s) = some (nI (dex s), ()) ∧ dex s ≤ 13 := by decide +kernel
theorem y_dbase : ∀ s, s < 30 → M_distanceBase 200000 (nI s) = some (nI (dbase s), ()) ∧ P_distanceBase 200000 (nI s) = some (nI (dbase s), ()) ∧ 1 ≤ dbase s ∧ dbase s ≤ 32768 := by decide +kernel
theorem y_dgap : ∀ s, s < 29 → dbase (s + 1) = dbase s + 2 ^ dex s := by decide +kernel
theorem y_dtop : dbase 29 = 24577 ∧ dex 29 = 13 ∧ dbase 0 = 1 := by decide +kernel
theorem y_dmono : ∀ a b, a ≤ b → b < 30 → dbase a ≤ dbase b := by
  apply st_mono
  intro i hi
  rw [y_dgap i (by omega)]
  exact Nat.le_add_right _ _
def dsym (far : Nat) : Nat := sm (fun s => if dbase (s + 1) ≤ far then 1 else 0) 29
theorem sm_pre {f : Nat → Nat} {s : Nat} : ∀ {n : Nat}, s ≤ n → (∀ i, i < s → f i = 1) → (∀ i, s ≤ i → i < n → f i = 0) → sm f n = s := by
  intro n
  induction n with
  | zero => intro h _ _; show 0 = s; omega
  | succ n ih =>
    intro h h1 h2
    show sm f n + f n = s
    by_cases e : s = n + 1
    · have : ∀ k, k ≤ n + 1 → sm f k = k := by
        intro k
        induction k with
        | zero => intro _; rfl
        | succ k ik =>
          intro hk
          show sm f k + f k = k + 1
          rw [ik (by omega), h1 k (by omega)]
      rw [this n (by omega), h1 n (by omega), e]
    · rw [ih (by omega) h1 (fun i a b => h2 i a (by omega)), h2 n (by omega) (by omega), Nat.add_zero]
theorem dsym_c {far s : Nat} (hs : s ≤ 29) (h1 : s = 0 ∨ dbase s ≤ far) (h2 : s = 29 ∨ far < dbase (s + 1)) : dsym far = s := by
  apply sm_pre hs
  · intro i hi
    apply if_pos
    have := y_dmono (i + 1) s (by omega) (by omega)
    omega
  · intro i h3 h4
    apply if_neg
    have := y_dmono (s + 1) (i + 1) (by omega) (by omega)
    omega
theorem t_dsymM {far : Nat} {x : Int32} (hf : far < 2 ^ 30) (hx : x = nI far) : Tt (M_distanceSymbol 200000 x) (fun u => u.1 = nI (dsym far)) := by
  subst hx
  unfold M_distanceSymbol
  refine Tt_W1 (fun m x1 => ∃ s, s ≤ 29 ∧ x1 = nI s ∧ m = 29 - s ∧ (s = 0 ∨ dbase s ≤ far)) ?_ 200000 29 0 (by omega) ⟨0, by omega, rfl, rfl, Or.inl rfl⟩
  rintro K m x1 ⟨s, hs, rfl, rfl, h1⟩ ih
  unfold M_distanceSymbol_2
  simp (disch := omega) only [Tt_L, Tt_S, Tt_C, Tt_Z, Tt_R0, Tt_R1, Tt_R2, Tt_R3, Tt_R4, Tt_R5, q10, eq_self, Nat.not_lt_zero, if_true, if_false, i_0, i_1, i_2, i_3, i_4, i_5, i_6, i_7, i_8, i_9, i_10, i_11, i_13, i_14, i_15, i_16, i_17, i_18, i_19, i_24, i_29, i_30, i_31, i_32, i_138, i_143, i_144, i_254, i_255, i_256, i_257, i_258, i_261, i_264, i_265, i_279, i_280, i_284, i_285, i_286, i_288, i_319, i_320, i_338, i_339, i_575, i_576, i_599, i_600, i_4096, i_8191, i_8192, i_8249, i_8250, i_8256, i_9000, i_16384, i_32767, i_32768, i_65520, i_65521, i_65535, i_65536, i_65999, i_66000, i_1300, i_120, i_156, nI_leI, nI_add]
  split
  · rename_i h0
    rw [dsym_c hs h1 (Or.inl (by omega))]
  · rename_i h0
    have yb := y_dbase (s + 1) (by omega)
    refine Tt_o yb.1 ?_
    simp (disch := omega) only [Tt_L, Tt_S, Tt_C, Tt_Z, Tt_R0, Tt_R1, Tt_R2, Tt_R3, Tt_R4, Tt_R5, q10, eq_self, Nat.not_lt_zero, if_true, if_false, i_0, i_1, i_2, i_3, i_4, i_5, i_6, i_7, i_8, i_9, i_10, i_11, i_13, i_14, i_15, i_16, i_17, i_18, i_19, i_24, i_29, i_30, i_31, i_32, i_138, i_143, i_144, i_254, i_255, i_256, i_257, i_258, i_261, i_264, i_265, i_279, i_280, i_284, i_285, i_286, i_288, i_319, i_320, i_338, i_339, i_575, i_576, i_599, i_600, i_4096, i_8191, i_8192, i_8249, i_8250, i_8256, i_9000, i_16384, i_32767, i_32768, i_65520, i_65521, i_65535, i_65536, i_65999, i_66000, i_1300, i_120, i_156, nI_ltI]
    split
    · rename_i h2
      rw [dsym_c hs h1 (Or.inr h2)]
    · rename_i h2
      exact ih (29 - (s + 1)) _ (by omega) ⟨s + 1, by omega, rfl, rfl, Or.inr (by omega)⟩
theorem y_dval : dbase 0 = 1 ∧ dbase 1 = 2 ∧ dbase 2 = 3 ∧ dbase 3 = 4 ∧ dbase 4 = 5 ∧ dbase 5 = 7 ∧ dbase 6 = 9 ∧ dbase 7 = 13 ∧ dbase 8 = 17 ∧ dbase 9 = 25 ∧ dbase 10 = 33 ∧ dbase 11 = 49 ∧ dbase 12 = 65 ∧ dbase 13 = 97 ∧ dbase 14 = 129 ∧ dbase 15 = 193 ∧ dbase 16 = 257 ∧ dbase 17 = 385 ∧ dbase 18 = 513 ∧ dbase 19 = 769 ∧ dbase 20 = 1025 ∧ dbase 21 = 1537 ∧ dbase 22 = 2049 ∧ dbase 23 = 3073 ∧ dbase 24 = 4097 ∧ dbase 25 = 6145 ∧ dbase 26 = 8193 ∧ dbase 27 = 12289 ∧ dbase 28 = 16385 ∧ dbase 29 = 24577 := by decide +kernel
theorem dsym_e {rest e : Nat} (he : e ≤ 13) (h1 : e = 0 ∨ 3 < rest / 2 ^ (e - 1)) (h2 : rest / 2 ^ e ≤ 3) : dsym (rest + 1) = 2 * e + rest / 2 ^ e := by
  obtain ⟨v0, v1, v2, v3, v4, v5, v6, v7, v8, v9, v10, v11, v12, v13, v14, v15, v16, v17, v18, v19, v20, v21, v22, v23, v24, v25, v26, v27, v28, v29⟩ := y_dval
  have key : ∀ r, rest / 2 ^ e = r → r ≤ 3 → (e = 0 ∨ 2 ≤ r) → (2 * e + r = 0 ∨ dbase (2 * e + r) ≤ rest + 1) ∧ (2 * e + r = 29 ∨ rest + 1 < dbase (2 * e + r + 1)) := by
    intro r hr hr3 hr2
    have hc : r = 0 ∨ r = 1 ∨ r = 2 ∨ r = 3 := by omega
    have ec : e = 0 ∨ e = 1 ∨ e = 2 ∨ e = 3 ∨ e = 4 ∨ e = 5 ∨ e = 6 ∨ e = 7 ∨ e = 8 ∨ e = 9 ∨ e = 10 ∨ e = 11 ∨ e = 12 ∨ e = 13 := by omega
    rcases ec with rfl | rfl | rfl | rfl | rfl | rfl | rfl | rfl | rfl | rfl | rfl | rfl | rfl | rfl <;> rcases hc with rfl | rfl | rfl | rfl <;> simp only [Nat.reduceMul, Nat.reduceAdd, Nat.reducePow] at hr ⊢ <;> first | omega | exact ⟨by omega, Or.inl trivial⟩
  have h3 : e = 0 ∨ 2 ≤ rest / 2 ^ e := by
    rcases Nat.eq_zero_or_pos e with z | z
    · exact Or.inl z
    · right
      have e1 : 2 ^ e = 2 ^ (e - 1) * 2 := by
        have q : e = (e - 1) + 1 := by omega
        conv => lhs; rw [q]
        exact Nat.pow_succ _ _
      rw [e1, ← Nat.div_div_eq_div_mul]
      omega
  have k := key _ rfl h2 h3
  exact dsym_c (by omega) k.1 k.2
theorem t_dsymP {far : Nat} {x : Int32} (h0 : 1 ≤ far) (hf : far ≤ 32768) (hx : x = nI far) : Tt (P_distanceSymbol 200000 x) (fun u => u.1 = nI (dsym far)) := by
  subst hx
  unfold P_distanceSymbol
  have e0 : nI far - 1 = nI (far - 1) := pk_sub h0
  simp only [Tt_L, e0]
  refine Tt_W2 (fun m x1 x2 => ∃ e, e ≤ 13 ∧ x1 = nI (far - 1) ∧ x2 = nI e ∧ m = 13 - e ∧ (e = 0 ∨ 3 < (far - 1) / 2 ^ (e - 1))) ?_ 200000 13 _ _ (by omega) ⟨0, by omega, rfl, rfl, rfl, Or.inl rfl⟩
  rintro K m x1 x2 ⟨e, he, rfl, rfl, rfl, h1⟩ ih
  have l1 : (far - 1) / 2 ^ e ≤ far - 1 := Nat.div_le_self _ _
  unfold P_distanceSymbol_6 P_distanceSymbol_25
  simp (disch := omega) only [Tt_L, Tt_S, Tt_C, Tt_Z, Tt_R0, Tt_R1, Tt_R2, Tt_R3, Tt_R4, Tt_R5, q10, eq_self, Nat.not_lt_zero, if_true, if_false, i_0, i_1, i_2, i_3, i_4, i_5, i_6, i_7, i_8, i_9, i_10, i_11, i_13, i_14, i_15, i_16, i_17, i_18, i_19, i_24, i_29, i_30, i_31, i_32, i_138, i_143, i_144, i_254, i_255, i_256, i_257, i_258, i_261, i_264, i_265, i_279, i_280, i_284, i_285, i_286, i_288, i_319, i_320, i_338, i_339, i_575, i_576, i_599, i_600, i_4096, i_8191, i_8192, i_8249, i_8250, i_8256, i_9000, i_16384, i_32767, i_32768, i_65520, i_65521, i_65535, i_65536, i_65999, i_66000, i_1300, i_120, i_156, nI_leI, nI_add, n_shr, pk_mul]
  have fin : (far - 1) / 2 ^ e ≤ 3 → nI (2 * e + (far - 1) / 2 ^ e) = nI (dsym far) := by
    intro h
    have := dsym_e he h1 h
    rw [show far - 1 + 1 = far by omega] at this
    rw [this]
  split
  · rename_i h2
    apply fin
    rw [show e = 13 by omega]
    omega
  · split
    · rename_i h3
      exact fin h3
    · rename_i h2 h3
      exact ih (13 - (e + 1)) _ _ (by omega) ⟨e + 1, by omega, rfl, rfl, rfl, Or.inr (by rw [Nat.add_sub_cancel]; omega)⟩
theorem y_drest {far : Nat} (h0 : 1 ≤ far) (hf : far ≤ 32768) : dsym far < 30 ∧ dbase (dsym far) ≤ far ∧ far - dbase (dsym far) < 2 ^ dex (dsym far) := by
  have hx : ∃ s, s ≤ 29 ∧ dbase s ≤ far ∧ (s = 29 ∨ far < dbase (s + 1)) := by
    have : ∀ k, k ≤ 29 → (∃ s, s ≤ 29 ∧ dbase s ≤ far ∧ (s = 29 ∨ far < dbase (s + 1))) ∨ dbase k ≤ far := by
      intro k
      induction k with
      | zero => intro _; right; rw [y_dtop.2.2]; exact h0
      | succ k ih =>
        intro hk
        rcases ih (by omega) with h | h
        · exact Or.inl h
        · by_cases z : dbase (k + 1) ≤ far
          · exact Or.inr z
          · exact Or.inl ⟨k, by omega, h, Or.inr (by omega)⟩
    rcases this 29 (by omega) with h | h
    · exact h
    · exact ⟨29, by omega, h, Or.inl rfl⟩
  obtain ⟨s, hs, h1, h2⟩ := hx
  rw [dsym_c hs (Or.inr h1) h2]
  refine ⟨by omega, h1, ?_⟩
  rcases h2 with rfl | h2
  · rw [y_dtop.2.1]; have := y_dtop.1; omega
  · by_cases z : s = 29
    · subst z; rw [y_dtop.2.1]; have := y_dtop.1; omega
    · rw [y_dgap s (by omega)] at h2; omega
/-! matches: program and reference find the same -/
/-- bytes b of a row of n, as they lie in an array from a place on -/
def Row (c : Nat → Int32) (a n : Nat) (b : Nat → Nat) : Prop := (∀ i, i < n → c (a + i) = sx (b i)) ∧ ∀ i, b i < 256
def bz (b : Nat → Nat) (n i : Nat) : Nat := if i < n then b i else 0
theorem bz_lt {b : Nat → Nat} {n : Nat} (hb : ∀ i, b i < 256) (i : Nat) : bz b n i < 256 := by
  unfold bz
  split
  · exact hb i
  · omega
theorem e_at {F N n i : Nat} {c : Nat → Int32} {b : Nat → Nat} {x y : Int32} (h : Row c 0 n b) (hn : n ≤ N) (hN : N < 2 ^ 30) (hi : i < 2 ^ 31) (hy : y = nI n) (hx : x = nI i) : Bytes_at F N y c x = some (nI (bz b n i), ()) := by
  subst hx hy
  unfold Bytes_at mC mG bz
  rw [if_neg (nI_pos hi)]
  by_cases z : i < n
  · rw [if_neg (by rw [nI_leI (by omega) (by omega)]; omega), if_neg (nI_in (by omega) (by omega)), nI_clamp (by omega), if_pos z]
    have := h.1 i z
    rw [Nat.zero_add] at this
    rw [this]
    show some (sx (b i) &&& nI 255, ()) = _
    rw [sx_k _ (h.2 i)]
  · rw [if_pos (by rw [nI_leI (by omega) (by omega)]; omega), if_neg z]
    rfl
/-! chains -/
def lb (f : Nat → Nat) : Nat → Nat → Nat
  | 0, _ => 0
  | p + 1, h => if f p = h then p + 1 else lb f p h
theorem lb_le (f : Nat → Nat) (h : Nat) : ∀ p, lb f p h ≤ p := by
  intro p
  induction p with
  | zero => exact Nat.le_refl 0
  | succ p ih =>
    show (if f p = h then p + 1 else lb f p h) ≤ p + 1
    split <;> omega
theorem lb_hit (f : Nat → Nat) (h : Nat) : ∀ p k, lb f p h = k + 1 → f k = h := by
  intro p
  induction p with
  | zero => intro k e; cases e
  | succ p ih =>
    intro k e
    by_cases z : f p = h
    · have : lb f (p + 1) h = p + 1 := if_pos z
      rw [this] at e
      have : k = p := by omega
      subst this; exact z
    · have : lb f (p + 1) h = lb f p h := if_neg z
      rw [this] at e
      exact ih k e
theorem lb_gap (f : Nat → Nat) (h : Nat) : ∀ p k, lb f p h ≤ k → k < p → f k ≠ h := by
  intro p
  induction p with
  | zero => intro k _ e; omega
  | succ p ih =>
    intro k h1 h2
    by_cases z : f p = h
    · have : lb f (p + 1) h = p + 1 := if_pos z
      omega
    · have : lb f (p + 1) h = lb f p h := if_neg z
      rw [this] at h1
      by_cases y : k = p
      · subst y; exact z
      · exact ih k h1 (by omega)
def th3 (x y z : Nat) : Int32 := (nI x ||| (nI y <<< ((8 : Int32) &&& 31))) ||| (nI z <<< ((16 : Int32) &&& 31))
def hsN (t : Int32) : Nat := (t * (-1640531535)).toBitVec.toNat / 2 ^ 20
theorem hsN_lt (t : Int32) : hsN t < 4096 := by
  unfold hsN
  have := (t * (-1640531535)).toBitVec.isLt
  omega
theorem hsN_e (t : Int32) : (((t * (-1640531535)).toUInt32 >>> ((20 : Int32).toUInt32 &&& Int32.toUInt32 31)).toInt32) = nI (hsN t) := by
  have h := pk_ushr (t * (-1640531535)) 20 20 (by decide +kernel)
  apply Int32.toBitVec_inj.1
  apply BitVec.eq_of_toNat_eq
  rw [h, pk_tn (by have := hsN_lt t; omega)]
  rfl
/-- the hash of the three bytes at a place -/
def hf (b : Nat → Nat) (n p : Nat) : Nat := hsN (th3 (bz b n p) (bz b n (p + 1)) (bz b n (p + 2)))
theorem t_chain0 {c late before : Nat → Int32} {b : Nat → Nat} {n N4 : Nat} (h : Row c 0 n b) (hn : n ≤ 8192) (hN4 : N4 = 4096) : Tt (mR1 (Arr_fill 200000 N4 late 0) fun _ c1 => mW3 (Matches_chain_10 200000 8192 (nI n) c) 200000 c1 before 0) (fun u => ∀ p, p < n → u.2.2 p = nI (lb (hf b n) p (hf b n p))) := by
  have tf := @t_fill N4 late 0 (by omega)
  rw [Tt_R1]
  refine Tt_m tf ?_
  rintro ⟨_, c1⟩ h1
  refine Tt_W3 (fun m late before x1 => ∃ p, p ≤ n ∧ x1 = nI p ∧ m = n - p ∧ (∀ k, k < 4096 → late k = nI (lb (hf b n) p k)) ∧ ∀ q, q < p → before q = nI (lb (hf b n) q (hf b n q))) ?_ 200000 n c1 before 0 (by omega) ⟨0, by omega, rfl, rfl, fun k hk => by
    have := h1 k
    rw [if_pos (by omega)] at this
    exact this, fun q hq => by omega⟩
  rintro K m late before x1 ⟨p, hp, rfl, rfl, hl, hb⟩ ih
  have g0 := @e_at 200000 8192 n p c b (nI p) (nI n) h hn (by omega) (by omega) rfl rfl
  have g1 := @e_at 200000 8192 n (p + 1) c b (nI p + 1) (nI n) h hn (by omega) (by omega) rfl (nI_1 p)
  have g2 := @e_at 200000 8192 n (p + 2) c b (nI p + 2) (nI n) h hn (by omega) (by omega) rfl (nI_add p 2)
  have lt := hsN_lt (th3 (bz b n p) (bz b n (p + 1)) (bz b n (p + 2)))
  have key : (((((nI (bz b n p) ||| (nI (bz b n (p + 1)) <<< ((8 : Int32) &&& 31))) ||| (nI (bz b n (p + 2)) <<< ((16 : Int32) &&& 31))) * (-1640531535)).toUInt32 >>> ((20 : Int32).toUInt32 &&& Int32.toUInt32 31)).toInt32) = nI (hf b n p) := hsN_e _
  have lt' : hf b n p < 4096 := lt
  unfold Matches_chain_10 Bytes_length
  by_cases z : n ≤ p
  · simp only [Tt_R0, Tt_S, Tt_C]
    rw [if_pos (by rw [nI_leI (by omega) (by omega)]; exact z)]
    intro q hq
    exact hb q (by omega)
  · simp only [Tt_R0, Tt_S, Tt_C, Tt_L, g0, g1, g2, key]
    rw [if_neg (by rw [nI_leI (by omega) (by omega)]; exact z), if_neg (by rw [i_8192, nI_leI (by omega) (by omega)]; omega)]
    simp (disch := omega) only [Tt_N, Tt_L, nI_clamp, nI_1]
    refine ⟨lt', by omega, lt', ih (n - (p + 1)) _ _ _ (by omega) ⟨p + 1, by omega, rfl, rfl, fun k hk => ?_, fun q hq => ?_⟩⟩
    · show _ = nI (if hf b n p = k then p + 1 else lb (hf b n) p k)
      by_cases y : k = hf b n p
      · rw [y, pk_us, if_pos rfl]
      · rw [pk_un y, if_neg (fun q => y q.symm), hl k hk]
    · by_cases y : q = p
      · rw [y, pk_us, hl _ lt']
      · rw [pk_un y]; exact hb q (by omega)
theorem t_chain {c late before : Nat → Int32} {b : Nat → Nat} {n : Nat} {y : Int32} (h : Row c 0 n b) (hn : n ≤ 8192) (hy : y = nI n) : Tt (Matches_chain 200000 8192 y c late before) (fun u => ∀ p, p < n → u.2.2 p = nI (lb (hf b n) p (hf b n p))) := by
  subst hy
  exact t_chain0 h hn rfl
/-- the pair of bytes at a place -/
def pf (b : Nat → Nat) (p : Nat) : Nat := b p * 256 + b (p + 1)
theorem t_notePairs27 {N a n : Nat} {c last before : Nat → Int32} {b : Nat → Nat} (h : Row c a n b) (hn : n ≤ 8192) (haN : a + n ≤ N) (hN : N ≤ 65536) (hl : ∀ k, k < 65536 → last k = nI 0 - 1) : Tt (M_notePairs_24 200000 N c (nI a) (nI n) last before) (fun u => ∀ p, p + 1 < n → u.2.2 p = nI (lb (pf b) p (pf b p)) - 1) := by
  unfold M_notePairs_24
  refine Tt_W3 (fun m last before x4 => ∃ p, x4 = nI p ∧ p ≤ n ∧ m = n - p ∧ (∀ k, k < 65536 → last k = nI (lb (pf b) p k) - 1) ∧ ∀ q, q < p → before q = nI (lb (pf b) q (pf b q)) - 1) ?_ 200000 n last before 0 (by omega) ⟨0, rfl, by omega, rfl, hl, fun q hq => by omega⟩
  rintro K m last before x4 ⟨p, rfl, hp, rfl, hl, hb⟩ ih
  unfold M_notePairs_27
  by_cases z : n ≤ p + 1
  · simp only [Tt_C, Tt_S, i_0, i_1, i_2, i_3, i_4, i_5, i_6, i_7, i_8, i_9, i_10, i_11, i_13, i_14, i_15, i_16, i_17, i_18, i_19, i_24, i_29, i_30, i_31, i_32, i_138, i_143, i_144, i_254, i_255, i_256, i_257, i_258, i_261, i_264, i_265, i_279, i_280, i_284, i_285, i_286, i_288, i_319, i_320, i_338, i_339, i_575, i_576, i_599, i_600, i_4096, i_8191, i_8192, i_8249, i_8250, i_8256, i_9000, i_16384, i_32767, i_32768, i_65520, i_65521, i_65535, i_65536, i_65999, i_66000, i_1300, i_120, i_156, nI_add]
    rw [if_pos (by rw [nI_leI (by omega) (by omega)]; exact z)]
    intro q hq
    exact hb q (by omega)
  · have b0 := h.2 p
    have b1 := h.2 (p + 1)
    have e0 := h.1 p (by omega)
    have e1 := h.1 (p + 1) (by omega)
    have key : (((sx (b p)) &&& nI 255) <<< ((nI 8) &&& nI 31)) ||| ((sx (b (p + 1))) &&& nI 255) = nI (pf b p) := by
      rw [sx_k _ b0, sx_k _ b1, n_shl (by omega) (by omega), n_or, Nat.or_comm, ← n_or, n_ord (k := 8) b1]
      congr 1
      unfold pf
      omega
    have lt : pf b p < 65536 := by unfold pf; omega
    simp (disch := omega) only [Tt_L, Tt_C, Tt_S, i_0, i_1, i_2, i_3, i_4, i_5, i_6, i_7, i_8, i_9, i_10, i_11, i_13, i_14, i_15, i_16, i_17, i_18, i_19, i_24, i_29, i_30, i_31, i_32, i_138, i_143, i_144, i_254, i_255, i_256, i_257, i_258, i_261, i_264, i_265, i_279, i_280, i_284, i_285, i_286, i_288, i_319, i_320, i_338, i_339, i_575, i_576, i_599, i_600, i_4096, i_8191, i_8192, i_8249, i_8250, i_8256, i_9000, i_16384, i_32767, i_32768, i_65520, i_65521, i_65535, i_65536, i_65999, i_66000, i_1300, i_120, i_156, nI_add, nI_leI, Tt_N, nI_clamp]
    rw [show a + p + 1 = a + (p + 1) by omega, e0, e1, key]
    rw [if_neg z]
    simp (disch := omega) only [Tt_L, Tt_S, Tt_C, Tt_Z, Tt_R0, Tt_R1, Tt_R2, Tt_R3, Tt_R4, Tt_R5, q10, eq_self, Nat.not_lt_zero, if_true, if_false, i_0, i_1, i_2, i_3, i_4, i_5, i_6, i_7, i_8, i_9, i_10, i_11, i_13, i_14, i_15, i_16, i_17, i_18, i_19, i_24, i_29, i_30, i_31, i_32, i_138, i_143, i_144, i_254, i_255, i_256, i_257, i_258, i_261, i_264, i_265, i_279, i_280, i_284, i_285, i_286, i_288, i_319, i_320, i_338, i_339, i_575, i_576, i_599, i_600, i_4096, i_8191, i_8192, i_8249, i_8250, i_8256, i_9000, i_16384, i_32767, i_32768, i_65520, i_65521, i_65535, i_65536, i_65999, i_66000, i_1300, i_120, i_156, Tt_N, nI_clamp]
    refine ⟨by omega, by omega, lt, by omega, lt, ih (n - (p + 1)) _ _ _ (by omega) ⟨p + 1, rfl, by omega, rfl, fun k hk => ?_, fun q hq => ?_⟩⟩
    · show _ = nI (if pf b p = k then p + 1 else lb (pf b) p k) - 1
      by_cases y : k = pf b p
      · rw [y, pk_us, if_pos rfl, nI_pred]
      · rw [pk_un y, if_neg (fun q => y q.symm), hl k hk]
    · by_cases y : q = p
      · rw [y, pk_us, hl _ lt]
      · rw [pk_un y]; exact hb q (by omega)
theorem t_notePairs {N a n : Nat} {c last before : Nat → Int32} {b : Nat → Nat} {x2 x3 : Int32} (h : Row c a n b) (hn : n ≤ 8192) (haN : a + n ≤ N) (hN : N ≤ 65536) (h2 : x2 = nI a) (h3 : x3 = nI n) : Tt (M_notePairs 200000 N c last before x2 x3) (fun u => ∀ p, p + 1 < n → u.2.2 p = nI (lb (pf b) p (pf b p)) - 1) := by
  subst h2 h3
  unfold M_notePairs
  generalize hz : (0 : Int32) = z0
  obtain ⟨E, hE⟩ : ∃ E, E = 65536 := ⟨_, rfl⟩
  refine Tt_W3 (fun m last _ x4 => ∃ j, x4 = nI j ∧ j ≤ E ∧ m = E - j ∧ ∀ k, k < j → last k = nI 0 - 1) ?_ 200000 E last before z0 (by omega) ⟨0, hz.symm, by omega, rfl, fun k hk => by omega⟩
  rintro K m last before x4 ⟨j, rfl, hj, rfl, hl⟩ ih
  unfold M_notePairs_3
  simp (disch := omega) only [Tt_L, Tt_C, Tt_S, i_0, i_1, i_2, i_3, i_4, i_5, i_6, i_7, i_8, i_9, i_10, i_11, i_13, i_14, i_15, i_16, i_17, i_18, i_19, i_24, i_29, i_30, i_31, i_32, i_138, i_143, i_144, i_254, i_255, i_256, i_257, i_258, i_261, i_264, i_265, i_279, i_280, i_284, i_285, i_286, i_288, i_319, i_320, i_338, i_339, i_575, i_576, i_599, i_600, i_4096, i_8191, i_8192, i_8249, i_8250, i_8256, i_9000, i_16384, i_32767, i_32768, i_65520, i_65521, i_65535, i_65536, i_65999, i_66000, i_1300, i_120, i_156, nI_add, nI_leI, Tt_N, nI_clamp]
  split
  · rename_i h0
    exact t_notePairs27 h hn haN hN (fun k hk => hl k (by omega))
  · rename_i h0
    refine ⟨by omega, ih (E - (j + 1)) _ _ _ (by omega) ⟨j + 1, rfl, by omega, rfl, fun k hk => ?_⟩⟩
    by_cases y : k = j
    · rw [y, pk_us]; rfl
    · rw [pk_un y]; exact hl k (by omega)
/-! how many bytes are the same -/
def lcp (b : Nat → Nat) (q p : Nat) : Nat → Nat
  | 0 => 0
  | n + 1 => if lcp b q p n = n ∧ b (q + n) = b (p + n) then n + 1 else lcp b q p n
def isL (b : Nat → Nat) (q p most n : Nat) : Prop := n ≤ most ∧ (∀ s, s < n → b (q + s) = b (p + s)) ∧ (n = most ∨ b (q + n) ≠ b (p + n))
theorem lcp_ok (b : Nat → Nat) (q p : Nat) : ∀ most, isL b q p most (lcp b q p most) := by
  intro most
  induction most with
  | zero => exact ⟨Nat.le_refl 0, (fun s h => absurd h (Nat.not_lt_zero s)), Or.inl rfl⟩
  | succ n ih =>
    obtain ⟨i1, i2, i3⟩ := ih
    by_cases z : lcp b q p n = n ∧ b (q + n) = b (p + n)
    · have e : lcp b q p (n + 1) = n + 1 := if_pos z
      rw [e]
      refine ⟨Nat.le_refl _, fun s hs => ?_, Or.inl rfl⟩
      by_cases y : s = n
      · rw [y]; exact z.2
      · exact i2 s (by have := z.1; omega)
    · have e : lcp b q p (n + 1) = lcp b q p n := if_neg z
      rw [e]
      refine ⟨by omega, i2, Or.inr ?_⟩
      rcases i3 with i3 | i3
      · rw [i3]
        exact fun w => z ⟨i3, w⟩
      · exact i3
theorem isL_u {b : Nat → Nat} {q p most n k : Nat} (h : isL b q p most n) (g : isL b q p most k) : n = k := by
  obtain ⟨h1, h2, h3⟩ := h
  obtain ⟨g1, g2, g3⟩ := g
  rcases Nat.lt_trichotomy n k with z | z | z
  · rcases h3 with h3 | h3
    · omega
    · exact absurd (g2 n z) h3
  · exact z
  · rcases g3 with g3 | g3
    · omega
    · exact absurd (h2 k z) g3
theorem lcp_e {b : Nat → Nat} {q p most n : Nat} (h : isL b q p most n) : lcp b q p most = n := isL_u (lcp_ok b q p most) h
def scn (b : Nat → Nat) (p most : Nat) : Nat → Nat → Nat → Nat → Nat × Nat
  | 0, _, best, far => (best, far)
  | k + 1, seen, best, far => if 16 ≤ seen then (best, far) else if lcp b k p most < 3 then scn b p most k seen best far else if lcp b k p most ≤ best then scn b p most k (seen + 1) best far else scn b p most k (seen + 1) (lcp b k p most) (p - k)
theorem scn_end {b : Nat → Nat} {p most k seen best far : Nat} (h : 16 ≤ seen) : scn b p most k seen best far = (best, far) := by
  cases k with
  | zero => rfl
  | succ k => exact if_pos h
theorem scn_full (b : Nat → Nat) (p most far : Nat) : ∀ k seen, scn b p most k seen most far = (most, far) := by
  intro k
  induction k with
  | zero => intro _; rfl
  | succ k ih =>
    intro seen
    show (if 16 ≤ seen then (most, far) else if lcp b k p most < 3 then scn b p most k seen most far else if lcp b k p most ≤ most then scn b p most k (seen + 1) most far else scn b p most k (seen + 1) (lcp b k p most) (p - k)) = (most, far)
    rw [ih, ih, if_pos (lcp_ok b k p most).1]
    split
    · rfl
    · split <;> rfl
theorem scn_skip {b : Nat → Nat} {p most k' seen best far : Nat} : ∀ {k : Nat}, k' ≤ k → (∀ q, k' ≤ q → q < k → lcp b q p most < 3) → scn b p most k seen best far = scn b p most k' seen best far := by
  intro k
  induction k with
  | zero =>
    intro h _
    have : k' = 0 := by omega
    rw [this]
  | succ k ih =>
    intro h hq
    by_cases z : k' = k + 1
    · rw [z]
    · by_cases y : 16 ≤ seen
      · rw [scn_end y, scn_end y]
      · have e : scn b p most (k + 1) seen best far = scn b p most k seen best far := by
          show (if 16 ≤ seen then (best, far) else if lcp b k p most < 3 then scn b p most k seen best far else _) = _
          rw [if_neg y, if_pos (hq k (by omega) (by omega))]
        rw [e]
        exact ih (by omega) (fun q a b' => hq q a (by omega))
/-- what is found at p in a part up to an end: length and distance, or 0 -/
def bst (b : Nat → Nat) (p fin : Nat) : Nat × Nat := if fin - p < 3 then (0, 0) else scn b p (min 258 (fin - p)) p 0 0 0
theorem scn_b {b : Nat → Nat} {p most : Nat} : ∀ k seen best far, k ≤ p → (best = 0 ∧ far = 0 ∨ 3 ≤ best ∧ best ≤ most ∧ 1 ≤ far ∧ far ≤ p) → ((scn b p most k seen best far).1 = 0 ∧ (scn b p most k seen best far).2 = 0 ∨ 3 ≤ (scn b p most k seen best far).1 ∧ (scn b p most k seen best far).1 ≤ most ∧ 1 ≤ (scn b p most k seen best far).2 ∧ (scn b p most k seen best far).2 ≤ p) := by
  intro k
  induction k with
  | zero => intro seen best far _ h; exact h
  | succ k ih =>
    intro seen best far hk h
    have e : scn b p most (k + 1) seen best far = if 16 ≤ seen then (best, far) else if lcp b k p most < 3 then scn b p most k seen best far else if lcp b k p most ≤ best then scn b p most k (seen + 1) best far else scn b p most k (seen + 1) (lcp b k p most) (p - k) := rfl
    rw [e]
    split
    · exact h
    · split
      · exact ih _ _ _ (by omega) h
      · split
        · exact ih _ _ _ (by omega) h
        · have := (lcp_ok b k p most).1
          exact ih _ _ _ (by omega) (Or.inr ⟨by omega, by omega, by omega, by omega⟩)
theorem bst_b (b : Nat → Nat) (p fin : Nat) : (bst b p fin).1 = 0 ∧ (bst b p fin).2 = 0 ∨ 3 ≤ (bst b p fin).1 ∧ (bst b p fin).1 ≤ 258 ∧ (bst b p fin).1 ≤ fin - p ∧ 1 ≤ (bst b p fin).2 ∧ (bst b p fin).2 ≤ p := by
  unfold bst
  split
  · exact Or.inl ⟨rfl, rfl⟩
  · have := @scn_b b p (min 258 (fin - p)) p 0 0 0 (Nat.le_refl p) (Or.inl ⟨rfl, rfl⟩)
    omega
/-! the program -/
theorem t_same3 {c : Nat → Int32} {b : Nat → Nat} {n q p most : Nat} {x1 x2 x3 : Int32} (h : Row c 0 n b) (hn : n ≤ 8192) (hq : q < p) (hp : p + most ≤ n) (h1 : x1 = nI q) (h2 : x2 = nI p) (h3 : x3 = nI most) : Tt (Matches_sameBytes 200000 8192 (nI n) c x1 x2 x3) (fun u => u.1 = nI (lcp b q p most)) := by
  subst h1 h2 h3
  unfold Matches_sameBytes
  refine Tt_W1 (fun m x4 => ∃ s, x4 = nI s ∧ s ≤ most ∧ m = most - s ∧ ∀ t, t < s → b (q + t) = b (p + t)) ?_ 200000 most 0 (by omega) ⟨0, rfl, by omega, rfl, fun t ht => by omega⟩
  rintro K m x4 ⟨s, rfl, hs, rfl, hb⟩ ih
  unfold Matches_sameBytes_3
  by_cases z : most ≤ s
  · simp only [Tt_C, Tt_S]
    rw [if_pos (by rw [nI_leI (by omega) (by omega)]; exact z)]
    show nI s = nI (lcp b q p most)
    rw [lcp_e ⟨hs, hb, Or.inl (by omega)⟩]
  · have g0 := @e_at 200000 8192 n (q + s) c b (nI q + nI s) (nI n) h hn (by omega) (by omega) rfl (nI_add q s)
    have g1 := @e_at 200000 8192 n (p + s) c b (nI p + nI s) (nI n) h hn (by omega) (by omega) rfl (nI_add p s)
    have z0 : bz b n (q + s) = b (q + s) := if_pos (by omega)
    have z1 : bz b n (p + s) = b (p + s) := if_pos (by omega)
    rw [z0] at g0
    rw [z1] at g1
    have b0 := h.2 (q + s)
    have b1 := h.2 (p + s)
    simp (disch := omega) only [Tt_R0, Tt_S, Tt_C, Tt_L, g0, g1, nI_leI, nI_eq, nI_1]
    rw [if_neg z]
    split
    · rename_i y
      refine ih (most - (s + 1)) _ (by omega) ⟨s + 1, rfl, by omega, rfl, fun t ht => ?_⟩
      by_cases w : t = s
      · rw [w]; exact y
      · exact hb t (by omega)
    · rename_i y
      rw [lcp_e ⟨hs, hb, Or.inr y⟩]
theorem hf_same {b : Nat → Nat} {n q p most : Nat} (hq : q < p) (hp : p + most ≤ n) (h : 3 ≤ lcp b q p most) : hf b n q = hf b n p := by
  have o := lcp_ok b q p most
  have e0 := o.2.1 0 (by omega)
  have e1 := o.2.1 1 (by omega)
  have e2 := o.2.1 2 (by omega)
  have m3 := o.1
  have z : ∀ i, i < n → bz b n i = b i := fun i hi => if_pos hi
  unfold hf
  rw [z q (by omega), z (q + 1) (by omega), z (q + 2) (by omega), z p (by omega), z (p + 1) (by omega), z (p + 2) (by omega)]
  rw [Nat.add_zero, Nat.add_zero] at e0
  rw [e0, e1, e2]
theorem t_best {c before : Nat → Int32} {b : Nat → Nat} {n p fin : Nat} {x1 x2 : Int32} (h : Row c 0 n b) (hn : n ≤ 8192) (hB : ∀ p, p < n → before p = nI (lb (hf b n) p (hf b n p))) (hp : p < fin) (hf' : fin ≤ n) (h1 : x1 = nI p) (h2 : x2 = nI fin) : Tt (Matches_best 200000 8192 before (nI n) c x1 x2) (fun u => u.1 = nI ((bst b p fin).1 * 65536 + (bst b p fin).2)) := by
  subst h1 h2
  unfold Matches_best
  have e1 : nI fin - nI p = nI (fin - p) := pk_sub (by omega)
  have e2 : (if nI (fin - p) < 258 then nI (fin - p) else (258 : Int32)) = nI (min 258 (fin - p)) := by
    rw [i_258]
    by_cases z : fin - p < 258
    · rw [if_pos (by rw [nI_ltI (by omega) (by omega)]; exact z)]; exact congrArg nI (by omega)
    · rw [if_neg (by rw [nI_ltI (by omega) (by omega)]; exact z)]; exact congrArg nI (by omega)
  simp only [Tt_L, e1, e2]
  by_cases z : fin - p < 3
  · simp only [Tt_C, Tt_S, i_0, i_1, i_2, i_3, i_4, i_5, i_6, i_7, i_8, i_9, i_10, i_11, i_13, i_14, i_15, i_16, i_17, i_18, i_19, i_24, i_29, i_30, i_31, i_32, i_138, i_143, i_144, i_254, i_255, i_256, i_257, i_258, i_261, i_264, i_265, i_279, i_280, i_284, i_285, i_286, i_288, i_319, i_320, i_338, i_339, i_575, i_576, i_599, i_600, i_4096, i_8191, i_8192, i_8249, i_8250, i_8256, i_9000, i_16384, i_32767, i_32768, i_65520, i_65521, i_65535, i_65536, i_65999, i_66000, i_1300, i_120, i_156]
    rw [if_pos (by rw [nI_ltI (by omega) (by omega)]; omega)]
    show nI 0 = _
    unfold bst
    rw [if_pos z]
    rfl
  · have eb : bst b p fin = scn b p (min 258 (fin - p)) p 0 0 0 := if_neg z
    rw [eb]
    generalize hm : min 258 (fin - p) = most
    have hmost : 3 ≤ most ∧ most ≤ 258 ∧ p + most ≤ n := by omega
    have skip : ∀ q, q ≤ p → hf b n q = hf b n p ∨ q = p → ∀ k seen best far, k = lb (hf b n) q (hf b n p) → scn b p most q seen best far = scn b p most k seen best far := by
      intro q hq _ k seen best far hk
      rw [hk]
      apply scn_skip (lb_le _ _ _)
      intro r h3 h4
      have g := lb_gap (hf b n) (hf b n p) q r h3 h4
      have : ¬ (3 ≤ lcp b r p most) := fun w => g (hf_same (by omega) hmost.2.2 w)
      omega
    rw [Tt_C, if_neg (by rw [i_3, nI_ltI (by omega) (by omega)]; omega), Tt_C, if_neg (nI_pos (by omega)), Tt_C, if_pos (by rw [i_8192, nI_ltI (by omega) (by omega)]; omega), Tt_N (by omega), Tt_L, nI_clamp (by omega)]
    refine ⟨by omega, ?_⟩
    rw [hB p (by omega)]
    have inv := Tt_W5 (st := Matches_best_49 200000 8192 before (nI n) c (nI p)) (Q := fun u => u.1 = nI ((scn b p most p 0 0 0).1 * 65536 + (scn b p most p 0 0 0).2)) (fun m x3 x4 x5 x6 x7 => ∃ k len far seen, x3 = nI most ∧ x4 = nI len ∧ x5 = nI far ∧ x6 = nI seen ∧ x7 = nI k - 1 ∧ k = m ∧ k ≤ p ∧ (k = 0 ∨ hf b n (k - 1) = hf b n p) ∧ len ≤ most ∧ far ≤ p ∧ seen ≤ 16 ∧ scn b p most k seen len far = scn b p most p 0 0 0) ?_ 200000 (lb (hf b n) p (hf b n p)) (nI most) (nI 0) (nI 0) (nI 0) (nI (lb (hf b n) p (hf b n p)) - 1) (by have := lb_le (hf b n) (hf b n p) p; omega) ⟨_, 0, 0, 0, rfl, rfl, rfl, rfl, rfl, rfl, lb_le _ _ _, ?_, by omega, by omega, by omega, ?_⟩
    · exact inv
    · rintro K m x3 x4 x5 x6 x7 ⟨k, len, far, seen, rfl, rfl, rfl, rfl, rfl, rfl, hk, hh, hlen, hfar, hseen, hS⟩ ih
      have fin1 : scn b p most k seen len far = (len, far) → nI len <<< (nI 16 &&& nI 31) ||| nI far = nI ((scn b p most p 0 0 0).1 * 65536 + (scn b p most p 0 0 0).2) := by
        intro e
        rw [← hS, e, n_shl (by omega) (by omega), n_or, Nat.or_comm, ← n_or, n_ord (k := 16) (by omega)]
        congr 1
        show far + len * 2 ^ 16 = len * 65536 + far
        omega
      unfold Matches_best_49 Matches_best_109
      by_cases y0 : k = 0
      · simp only [Tt_C, Tt_S, i_0, i_1, i_2, i_3, i_4, i_5, i_6, i_7, i_8, i_9, i_10, i_11, i_13, i_14, i_15, i_16, i_17, i_18, i_19, i_24, i_29, i_30, i_31, i_32, i_138, i_143, i_144, i_254, i_255, i_256, i_257, i_258, i_261, i_264, i_265, i_279, i_280, i_284, i_285, i_286, i_288, i_319, i_320, i_338, i_339, i_575, i_576, i_599, i_600, i_4096, i_8191, i_8192, i_8249, i_8250, i_8256, i_9000, i_16384, i_32767, i_32768, i_65520, i_65521, i_65535, i_65536, i_65999, i_66000, i_1300, i_120, i_156]
        rw [if_pos (by rw [y0]; decide)]
        exact fin1 (by rw [y0]; rfl)
      · have ek : nI k - 1 = nI (k - 1) := n_pred (by omega)
        have hk1 : hf b n (k - 1) = hf b n p := by omega
        rw [ek]
        simp (disch := omega) only [Tt_C, Tt_S, i_0, i_1, i_2, i_3, i_4, i_5, i_6, i_7, i_8, i_9, i_10, i_11, i_13, i_14, i_15, i_16, i_17, i_18, i_19, i_24, i_29, i_30, i_31, i_32, i_138, i_143, i_144, i_254, i_255, i_256, i_257, i_258, i_261, i_264, i_265, i_279, i_280, i_284, i_285, i_286, i_288, i_319, i_320, i_338, i_339, i_575, i_576, i_599, i_600, i_4096, i_8191, i_8192, i_8249, i_8250, i_8256, i_9000, i_16384, i_32767, i_32768, i_65520, i_65521, i_65535, i_65536, i_65999, i_66000, i_1300, i_120, i_156, nI_leI, n_neg, Nat.not_lt_zero, if_false]
        rw [if_neg (by omega)]
        by_cases y1 : 16 ≤ seen
        · rw [if_pos y1]
          exact fin1 (scn_end y1)
        · rw [if_neg y1]
          by_cases y2 : most ≤ len
          · rw [if_pos y2]
            have : len = most := by omega
            exact fin1 (by rw [this]; exact scn_full _ _ _ _ _ _)
          · rw [if_neg y2, Tt_R0]
            refine Tt_m (t_same3 h hn (by omega) hmost.2.2 rfl rfl rfl) ?_
            rintro ⟨r, _⟩ hr
            have hr' : r = nI (lcp b (k - 1) p most) := hr
            subst hr'
            have lo := lcp_ok b (k - 1) p most
            have ll := lo.1
            have es : ∀ a2 a3 a4, scn b p most k a2 a3 a4 = if 16 ≤ a2 then (a3, a4) else if lcp b (k - 1) p most < 3 then scn b p most (k - 1) a2 a3 a4 else if lcp b (k - 1) p most ≤ a3 then scn b p most (k - 1) (a2 + 1) a3 a4 else scn b p most (k - 1) (a2 + 1) (lcp b (k - 1) p most) (p - (k - 1)) := by
              intro a2 a3 a4
              conv => lhs; rw [show k = (k - 1) + 1 by omega]
              rfl
            have el := lb_le (hf b n) (hf b n p) (k - 1)
            have et : (if k - 1 < lb (hf b n) (k - 1) (hf b n p) then nI (k - 1) else nI (lb (hf b n) (k - 1) (hf b n p))) = nI (lb (hf b n) (k - 1) (hf b n p)) := if_neg (by omega)
            have eb2 : before (k - 1) = nI (lb (hf b n) (k - 1) (hf b n p)) := by rw [hB (k - 1) (by omega), hk1]
            have next : ∀ len' far' seen', len' ≤ most → far' ≤ p → seen' ≤ 16 → scn b p most (k - 1) seen' len' far' = scn b p most p 0 0 0 → Tt (K (nI most) (nI len') (nI far') (nI seen') (nI (lb (hf b n) (k - 1) (hf b n p)) - nI 1)) (fun u => u.1 = nI ((scn b p most p 0 0 0).1 * 65536 + (scn b p most p 0 0 0).2)) := by
              intro len' far' seen' a1 a2 a3 a4
              refine ih (lb (hf b n) (k - 1) (hf b n p)) _ _ _ _ _ (by omega) ⟨_, len', far', seen', rfl, rfl, rfl, rfl, rfl, rfl, by omega, ?_, a1, a2, a3, ?_⟩
              · rcases Nat.eq_zero_or_pos (lb (hf b n) (k - 1) (hf b n p)) with w | w
                · exact Or.inl w
                · right
                  apply lb_hit (hf b n) (hf b n p) (k - 1)
                  omega
              · rw [← a4]
                exact (skip (k - 1) (by omega) (Or.inl hk1) _ _ _ _ rfl).symm
            simp (disch := omega) only [Tt_L, Tt_C, Tt_S, nI_ltI, nI_leI, Tt_N, nI_clamp, nI_add, eb2, et]
            split
            · rename_i y3
              refine ⟨by omega, next _ _ _ hlen hfar hseen ?_⟩
              rw [← hS, es, if_neg y1, if_pos y3]
            · rename_i y3
              split
              · rename_i y4
                refine ⟨by omega, next _ _ _ hlen hfar (by omega) ?_⟩
                rw [← hS, es, if_neg y1, if_neg y3, if_pos y4]
              · rename_i y4
                have ed : nI p - nI (k - 1) = nI (p - (k - 1)) := pk_sub (by omega)
                rw [ed]
                refine ⟨by omega, next _ _ _ ll (by omega) (by omega) ?_⟩
                rw [← hS, es, if_neg y1, if_neg y3, if_neg y4]
    · rcases Nat.eq_zero_or_pos (lb (hf b n) p (hf b n p)) with w | w
      · exact Or.inl w
      · right
        apply lb_hit (hf b n) (hf b n p) p
        omega
    · exact (skip p (Nat.le_refl p) (Or.inr rfl) _ _ _ _ rfl).symm
/-! tokens: program and reference cut a part alike -/
abbrev TkR := Option (Unit × Int32 × (Nat → Int32) × (Nat → Int32))
theorem t_lcpM {N a n q p fin : Nat} {c : Nat → Int32} {b : Nat → Nat} {k116 : Int32 → (Nat → Int32) → (Nat → Int32) → Int32 → Int32 → Int32 → Int32 → Int32 → Int32 → TkR} {Q : Unit × Int32 × (Nat → Int32) × (Nat → Int32) → Prop} {tok x6 x7 x8 : Int32} {tl tv : Nat → Int32} (h : Row c a n b) (hn : n ≤ 8192) (haN : a + n ≤ N) (hN : N ≤ 65536) (hq : q < p) (hp : p + 3 ≤ fin) (hf : fin ≤ n) (e0 : b q = b p) (e1 : b (q + 1) = b (p + 1)) (hQ : Tt (k116 tok tl tv (nI p) x6 x7 x8 (nI q) (nI (lcp b q p (min 258 (fin - p))))) Q) : Tt (mW9 (M_cutPart_71 200000 N c (nI a) (nI fin) k116) 200000 tok tl tv (nI p) x6 x7 x8 (nI q) 2) Q := by
  refine Tt_W9 (fun m t l v y5 y6 y7 y8 y9 y10 => t = tok ∧ l = tl ∧ v = tv ∧ y5 = nI p ∧ y6 = x6 ∧ y7 = x7 ∧ y8 = x8 ∧ y9 = nI q ∧ ∃ s, y10 = nI s ∧ 2 ≤ s ∧ s ≤ min 258 (fin - p) ∧ m = 258 - s ∧ ∀ t, t < s → b (q + t) = b (p + t)) ?_ 200000 256 _ _ _ _ _ _ _ _ _ (by omega) ⟨rfl, rfl, rfl, rfl, rfl, rfl, rfl, rfl, 2, rfl, by omega, by omega, rfl, fun t ht => ?_⟩
  · rintro K m t l v y5 y6 y7 y8 y9 y10 ⟨rfl, rfl, rfl, rfl, rfl, rfl, rfl, rfl, s, rfl, hs2, hs, rfl, hb⟩ ih
    unfold M_cutPart_71
    by_cases z : s = min 258 (fin - p)
    · have g : Tt (k116 t l v (nI p) y6 y7 y8 (nI q) (nI s)) Q := by
        have := lcp_e (b := b) (q := q) (p := p) (most := min 258 (fin - p)) (n := s) ⟨by omega, hb, Or.inl z⟩
        rw [← this]
        exact hQ
      simp (disch := omega) only [Tt_C, Tt_S, i_0, i_1, i_2, i_3, i_4, i_5, i_6, i_7, i_8, i_9, i_10, i_11, i_13, i_14, i_15, i_16, i_17, i_18, i_19, i_24, i_29, i_30, i_31, i_32, i_138, i_143, i_144, i_254, i_255, i_256, i_257, i_258, i_261, i_264, i_265, i_279, i_280, i_284, i_285, i_286, i_288, i_319, i_320, i_338, i_339, i_575, i_576, i_599, i_600, i_4096, i_8191, i_8192, i_8249, i_8250, i_8256, i_9000, i_16384, i_32767, i_32768, i_65520, i_65521, i_65535, i_65536, i_65999, i_66000, i_1300, i_120, i_156, nI_add, nI_leI]
      by_cases y : fin ≤ p + s
      · rw [if_pos y]; exact g
      · rw [if_neg y, if_pos (by omega)]; exact g
    · have c0 := h.1 (q + s) (by omega)
      have c1 := h.1 (p + s) (by omega)
      have b0 := h.2 (q + s)
      have b1 := h.2 (p + s)
      simp (disch := omega) only [Tt_C, Tt_S, Tt_L, i_0, i_1, i_2, i_3, i_4, i_5, i_6, i_7, i_8, i_9, i_10, i_11, i_13, i_14, i_15, i_16, i_17, i_18, i_19, i_24, i_29, i_30, i_31, i_32, i_138, i_143, i_144, i_254, i_255, i_256, i_257, i_258, i_261, i_264, i_265, i_279, i_280, i_284, i_285, i_286, i_288, i_319, i_320, i_338, i_339, i_575, i_576, i_599, i_600, i_4096, i_8191, i_8192, i_8249, i_8250, i_8256, i_9000, i_16384, i_32767, i_32768, i_65520, i_65521, i_65535, i_65536, i_65999, i_66000, i_1300, i_120, i_156, nI_add, nI_leI, Tt_N, nI_clamp]
      rw [if_neg (by omega), if_neg (by omega), show a + q + s = a + (q + s) by omega, show a + p + s = a + (p + s) by omega, c0, c1]
      refine ⟨by omega, by omega, ?_⟩
      by_cases y : b (q + s) = b (p + s)
      · rw [if_pos (by rw [y])]
        refine ih (258 - (s + 1)) _ _ _ _ _ _ _ _ _ (by omega) ⟨rfl, rfl, rfl, rfl, rfl, rfl, rfl, rfl, s + 1, rfl, by omega, by omega, rfl, fun t ht => ?_⟩
        by_cases w : t = s
        · rw [w]; exact y
        · exact hb t (by omega)
      · rw [if_neg (by rw [sx_inj _ b0 _ b1]; exact y)]
        have := lcp_e (b := b) (q := q) (p := p) (most := min 258 (fin - p)) (n := s) ⟨by omega, hb, Or.inr y⟩
        rw [← this]
        exact hQ
  · have : t = 0 ∨ t = 1 := by omega
    rcases this with rfl | rfl
    · exact e0
    · exact e1
theorem pf_2 {b : Nat → Nat} {q p : Nat} (hb : ∀ i, b i < 256) (h : pf b q = pf b p) : b q = b p ∧ b (q + 1) = b (p + 1) := by
  unfold pf at h
  have a1 := hb (q + 1)
  have a2 := hb (p + 1)
  omega
theorem pf_same {b : Nat → Nat} {q p most : Nat} (h : 3 ≤ lcp b q p most) : pf b q = pf b p := by
  have o := lcp_ok b q p most
  have e0 := o.2.1 0 (by omega)
  have e1 := o.2.1 1 (by omega)
  rw [Nat.add_zero, Nat.add_zero] at e0
  unfold pf
  rw [e0, e1]
theorem t_search {N a n p fin k : Nat} {c before : Nat → Int32} {b : Nat → Nat} {k192 : Int32 → (Nat → Int32) → (Nat → Int32) → Int32 → Int32 → Int32 → TkR} {Q : Unit × Int32 × (Nat → Int32) × (Nat → Int32) → Prop} {tok s0 : Int32} {tl tv : Nat → Int32} (h : Row c a n b) (hn : n ≤ 8192) (haN : a + n ≤ N) (hN : N ≤ 65536) (hB : ∀ p, p + 1 < n → before p = nI (lb (pf b) p (pf b p)) - 1) (hp : p + 3 ≤ fin) (hf : fin ≤ n) (hk : k = lb (pf b) p (pf b p)) (hs0 : s0 = nI k - 1) (hQ : Tt (k192 tok tl tv (nI p) (nI (bst b p fin).1) (nI (bst b p fin).2)) Q) : Tt (mW8 (M_cutPart_46 200000 N before c (nI a) (nI fin) k192) 200000 tok tl tv (nI p) 0 0 0 s0) Q := by
  subst hs0
  have eb : bst b p fin = scn b p (min 258 (fin - p)) p 0 0 0 := if_neg (by omega)
  rw [eb] at hQ
  generalize hm : min 258 (fin - p) = most at hQ
  have skip : ∀ q, q ≤ p → ∀ k seen best far, k = lb (pf b) q (pf b p) → scn b p most q seen best far = scn b p most k seen best far := by
    intro q hq k seen best far hk
    rw [hk]
    apply scn_skip (lb_le _ _ _)
    intro r h3 h4
    have g := lb_gap (pf b) (pf b p) q r h3 h4
    have : ¬ (3 ≤ lcp b r p most) := fun w => g (pf_same w)
    omega
  have kl := lb_le (pf b) (pf b p) p
  refine Tt_W8 (fun m t l v x5 x6 x7 x8 x9 => t = tok ∧ l = tl ∧ v = tv ∧ x5 = nI p ∧ ∃ k len far seen, x6 = nI len ∧ x7 = nI far ∧ x8 = nI seen ∧ x9 = nI k - 1 ∧ k = m ∧ k ≤ p ∧ (k = 0 ∨ pf b (k - 1) = pf b p) ∧ len ≤ most ∧ far ≤ p ∧ seen ≤ 16 ∧ scn b p most k seen len far = scn b p most p 0 0 0) ?_ 200000 k _ _ _ _ _ _ _ _ (by omega) ⟨rfl, rfl, rfl, rfl, k, 0, 0, 0, rfl, rfl, rfl, rfl, rfl, by omega, ?_, by omega, by omega, by omega, ?_⟩
  · rintro K m t l v x5 x6 x7 x8 x9 ⟨rfl, rfl, rfl, rfl, k, len, far, seen, rfl, rfl, rfl, rfl, rfl, hk, hh, hlen, hfar, hseen, hS⟩ ih
    have fin1 : scn b p most k seen len far = (len, far) → Tt (k192 t l v (nI p) (nI len) (nI far)) Q := by
      intro e
      rw [← hS, e] at hQ
      exact hQ
    unfold M_cutPart_46
    by_cases y0 : k = 0
    · simp only [Tt_C, Tt_S]
      rw [if_pos (by rw [y0]; decide)]
      exact fin1 (by rw [y0]; rfl)
    · have ek : nI k - 1 = nI (k - 1) := n_pred (by omega)
      have hk1 : pf b (k - 1) = pf b p := by omega
      have ed : nI p - nI (k - 1) = nI (p - (k - 1)) := pk_sub (by omega)
      rw [ek]
      simp (disch := omega) only [Tt_C, Tt_S, i_0, i_1, i_2, i_3, i_4, i_5, i_6, i_7, i_8, i_9, i_10, i_11, i_13, i_14, i_15, i_16, i_17, i_18, i_19, i_24, i_29, i_30, i_31, i_32, i_138, i_143, i_144, i_254, i_255, i_256, i_257, i_258, i_261, i_264, i_265, i_279, i_280, i_284, i_285, i_286, i_288, i_319, i_320, i_338, i_339, i_575, i_576, i_599, i_600, i_4096, i_8191, i_8192, i_8249, i_8250, i_8256, i_9000, i_16384, i_32767, i_32768, i_65520, i_65521, i_65535, i_65536, i_65999, i_66000, i_1300, i_120, i_156, nI_leI, nI_ltI, n_neg, Nat.not_lt_zero, if_false, ed]
      rw [if_neg (by omega)]
      by_cases y1 : 16 ≤ seen
      · rw [if_pos y1]
        exact fin1 (scn_end y1)
      · rw [if_neg y1]
        have pe := pf_2 h.2 hk1
        refine t_lcpM h hn haN hN (by omega) hp hf pe.1 pe.2 ?_
        rw [hm]
        have ll := (lcp_ok b (k - 1) p most).1
        have es : ∀ a2 a3 a4, scn b p most k a2 a3 a4 = if 16 ≤ a2 then (a3, a4) else if lcp b (k - 1) p most < 3 then scn b p most (k - 1) a2 a3 a4 else if lcp b (k - 1) p most ≤ a3 then scn b p most (k - 1) (a2 + 1) a3 a4 else scn b p most (k - 1) (a2 + 1) (lcp b (k - 1) p most) (p - (k - 1)) := by
          intro a2 a3 a4
          conv => lhs; rw [show k = (k - 1) + 1 by omega]
          rfl
        have el := lb_le (pf b) (pf b p) (k - 1)
        have eb2 : before (k - 1) = nI (lb (pf b) (k - 1) (pf b p)) - nI 1 := by rw [hB (k - 1) (by omega), hk1]; rfl
        have next : ∀ len' far' seen', len' ≤ most → far' ≤ p → seen' ≤ 16 → scn b p most (k - 1) seen' len' far' = scn b p most p 0 0 0 → Tt (K t l v (nI p) (nI len') (nI far') (nI seen') (nI (lb (pf b) (k - 1) (pf b p)) - nI 1)) Q := by
          intro len' far' seen' a1 a2 a3 a4
          refine ih (lb (pf b) (k - 1) (pf b p)) _ _ _ _ _ _ _ _ (by omega) ⟨rfl, rfl, rfl, rfl, _, len', far', seen', rfl, rfl, rfl, rfl, rfl, by omega, ?_, a1, a2, a3, ?_⟩
          · rcases Nat.eq_zero_or_pos (lb (pf b) (k - 1) (pf b p)) with w | w
            · exact Or.inl w
            · right
              apply lb_hit (pf b) (pf b p) (k - 1)
              omega
          · rw [← a4]
            exact (skip (k - 1) (by omega) _ _ _ _ rfl).symm
        unfold M_cutPart_116 M_cutPart_131 M_cutPart_154 M_cutPart_156 M_cutPart_176 M_cutPart_178
        simp (disch := omega) only [Tt_L, Tt_C, Tt_S, i_0, i_1, i_2, i_3, i_4, i_5, i_6, i_7, i_8, i_9, i_10, i_11, i_13, i_14, i_15, i_16, i_17, i_18, i_19, i_24, i_29, i_30, i_31, i_32, i_138, i_143, i_144, i_254, i_255, i_256, i_257, i_258, i_261, i_264, i_265, i_279, i_280, i_284, i_285, i_286, i_288, i_319, i_320, i_338, i_339, i_575, i_576, i_599, i_600, i_4096, i_8191, i_8192, i_8249, i_8250, i_8256, i_9000, i_16384, i_32767, i_32768, i_65520, i_65521, i_65535, i_65536, i_65999, i_66000, i_1300, i_120, i_156, nI_leI, Tt_N, nI_clamp, nI_add, eb2, ed]
        by_cases y3 : lcp b (k - 1) p most ≤ 2
        · rw [if_pos y3, if_pos y3, if_pos y3]
          refine ⟨by omega, next _ _ _ hlen hfar hseen ?_⟩
          rw [← hS, es, if_neg y1, if_pos (by omega)]
        · rw [if_neg y3, if_neg y3]
          by_cases y4 : lcp b (k - 1) p most ≤ len
          · rw [if_pos y4, if_neg y3, if_pos y4]
            refine ⟨by omega, next _ _ _ hlen hfar (by omega) ?_⟩
            rw [← hS, es, if_neg y1, if_neg (by omega), if_pos y4]
          · rw [if_neg y4, if_neg y3, if_neg y4]
            refine ⟨by omega, next _ _ _ ll (by omega) (by omega) ?_⟩
            rw [← hS, es, if_neg y1, if_neg (by omega), if_neg y4]
  · rcases Nat.eq_zero_or_pos k with w | w
    · exact Or.inl w
    · right
      apply lb_hit (pf b) (pf b p) p
      omega
  · exact (skip p (Nat.le_refl p) _ _ _ _ hk).symm
/-! the tokens of a part -/
def pos (b : Nat → Nat) (beg fin : Nat) : Nat → Nat
  | 0 => beg
  | t + 1 => pos b beg fin t + (if (bst b (pos b beg fin t) fin).1 = 0 then 1 else (bst b (pos b beg fin t) fin).1)
def tL (b : Nat → Nat) (beg fin t : Nat) : Nat := (bst b (pos b beg fin t) fin).1
def tV (b : Nat → Nat) (beg fin t : Nat) : Nat := if tL b beg fin t = 0 then b (pos b beg fin t) else (bst b (pos b beg fin t) fin).2
def isT (b : Nat → Nat) (beg fin T : Nat) : Prop := fin ≤ pos b beg fin T ∧ ∀ t, t < T → pos b beg fin t < fin
theorem isT_u {b : Nat → Nat} {beg fin T S : Nat} (h : isT b beg fin T) (g : isT b beg fin S) : T = S := by
  rcases Nat.lt_trichotomy T S with z | z | z
  · have := g.2 T z; have := h.1; omega
  · exact z
  · have := h.2 S z; have := g.1; omega
theorem tok_b {b : Nat → Nat} {beg fin n t : Nat} (hb : ∀ i, b i < 256) (hp : pos b beg fin t < fin) (hf : fin ≤ n) : (tL b beg fin t = 0 ∧ tV b beg fin t < 256) ∨ (3 ≤ tL b beg fin t ∧ tL b beg fin t ≤ 258 ∧ tL b beg fin t ≤ fin - pos b beg fin t ∧ 1 ≤ tV b beg fin t ∧ tV b beg fin t < n) := by
  have o := bst_b b (pos b beg fin t) fin
  unfold tV
  by_cases z : tL b beg fin t = 0
  · rw [if_pos z]
    exact Or.inl ⟨z, hb _⟩
  · rw [if_neg z]
    unfold tL at *
    right
    omega
theorem t_cutPart {N a n beg fin : Nat} {c before tl tv : Nat → Int32} {b : Nat → Nat} {tok x2 x3 x4 : Int32} (h : Row c a n b) (hn : n ≤ 8192) (haN : a + n ≤ N) (hN : N ≤ 65536) (hB : ∀ p, p + 1 < n → before p = nI (lb (pf b) p (pf b p)) - 1) (hf : fin ≤ n) (hbe : beg ≤ fin) (hl : fin - beg ≤ 4096) (h2 : x2 = nI a) (h3 : x3 = nI beg) (h4 : x4 = nI fin) : Tt (M_cutPart 200000 N before c tok tl tv x2 x3 x4) (fun u => ∃ T, T ≤ fin - beg ∧ isT b beg fin T ∧ u.2.1 = nI T ∧ ∀ t, t < T → u.2.2.1 t = nI (tL b beg fin t) ∧ u.2.2.2 t = nI (tV b beg fin t)) := by
  subst h2 h3 h4
  unfold M_cutPart
  refine Tt_W4 (fun m tok tl tv x5 => ∃ T, tok = nI T ∧ x5 = nI (pos b beg fin T) ∧ m = fin - pos b beg fin T ∧ T + beg ≤ pos b beg fin T ∧ pos b beg fin T ≤ fin ∧ (∀ t, t < T → pos b beg fin t < fin) ∧ ∀ t, t < T → tl t = nI (tL b beg fin t) ∧ tv t = nI (tV b beg fin t)) ?_ 200000 (fin - beg) 0 tl tv (nI beg) (by omega) ⟨0, rfl, rfl, rfl, by show 0 + beg ≤ beg; omega, hbe, fun t ht => by omega, fun t ht => by omega⟩
  rintro K m tok tl tv x5 ⟨T, rfl, rfl, rfl, hT, hpf, hpt, hv⟩ ih
  unfold M_cutPart_8
  by_cases z : fin ≤ pos b beg fin T
  · simp only [Tt_C, Tt_S]
    rw [if_pos (by rw [nI_leI (by omega) (by omega)]; exact z)]
    exact ⟨T, by omega, ⟨z, hpt⟩, rfl, hv⟩
  · have tb := @tok_b b beg fin n T h.2 (by omega) hf
    have hpos : pos b beg fin (T + 1) = pos b beg fin T + (if tL b beg fin T = 0 then 1 else tL b beg fin T) := rfl
    have fin1 : Tt (M_cutPart_192 200000 N c (nI a) K (nI T) tl tv (nI (pos b beg fin T)) (nI (bst b (pos b beg fin T) fin).1) (nI (bst b (pos b beg fin T) fin).2)) (fun u => ∃ T, T ≤ fin - beg ∧ isT b beg fin T ∧ u.2.1 = nI T ∧ ∀ t, t < T → u.2.2.1 t = nI (tL b beg fin t) ∧ u.2.2.2 t = nI (tV b beg fin t)) := by
      have c0 := h.1 (pos b beg fin T) (by omega)
      have b0 := h.2 (pos b beg fin T)
      have e1 : (bst b (pos b beg fin T) fin).1 = tL b beg fin T := rfl
      unfold M_cutPart_192 M_cutPart_231 M_cutPart_259
      rw [e1]
      have e2 : tV b beg fin T = if tL b beg fin T = 0 then b (pos b beg fin T) else (bst b (pos b beg fin T) fin).2 := rfl
      have fits : (bst b (pos b beg fin T) fin).2 < 2 ^ 31 := by
        have := bst_b b (pos b beg fin T) fin
        omega
      simp (disch := omega) only [Tt_L, Tt_C, Tt_S, i_0, i_1, i_2, i_3, i_4, i_5, i_6, i_7, i_8, i_9, i_10, i_11, i_13, i_14, i_15, i_16, i_17, i_18, i_19, i_24, i_29, i_30, i_31, i_32, i_138, i_143, i_144, i_254, i_255, i_256, i_257, i_258, i_261, i_264, i_265, i_279, i_280, i_284, i_285, i_286, i_288, i_319, i_320, i_338, i_339, i_575, i_576, i_599, i_600, i_4096, i_8191, i_8192, i_8249, i_8250, i_8256, i_9000, i_16384, i_32767, i_32768, i_65520, i_65521, i_65535, i_65536, i_65999, i_66000, i_1300, i_120, i_156, nI_leI, Tt_N, nI_clamp, nI_add, c0, sx_k]
      by_cases y : tL b beg fin T ≤ 0
      · have y0 : tL b beg fin T = 0 := by omega
        rw [if_pos y, if_pos y]
        rw [if_pos y0] at hpos e2
        refine ⟨by omega, by omega, by omega, ?_⟩
        rw [← hpos]
        refine ih (fin - pos b beg fin (T + 1)) _ _ _ _ (by omega) ⟨T + 1, rfl, rfl, rfl, by omega, by omega, fun t ht => ?_, fun t ht => ?_⟩
        · by_cases w : t = T
          · rw [w]; omega
          · exact hpt t (by omega)
        · by_cases w : t = T
          · rw [w, pk_us, pk_us, e2]; exact ⟨rfl, rfl⟩
          · rw [pk_un w, pk_un w]; exact hv t (by omega)
      · have y0 : ¬ (tL b beg fin T = 0) := by omega
        rw [if_neg y, if_neg y]
        rw [if_neg y0] at hpos e2
        refine ⟨by omega, by omega, ?_⟩
        rw [← hpos]
        refine ih (fin - pos b beg fin (T + 1)) _ _ _ _ (by omega) ⟨T + 1, rfl, rfl, rfl, by omega, by omega, fun t ht => ?_, fun t ht => ?_⟩
        · by_cases w : t = T
          · rw [w]; omega
          · exact hpt t (by omega)
        · by_cases w : t = T
          · rw [w, pk_us, pk_us, e2]; exact ⟨rfl, rfl⟩
          · rw [pk_un w, pk_un w]; exact hv t (by omega)
    unfold M_cutPart_44
    simp (disch := omega) only [Tt_C, Tt_S, i_0, i_1, i_2, i_3, i_4, i_5, i_6, i_7, i_8, i_9, i_10, i_11, i_13, i_14, i_15, i_16, i_17, i_18, i_19, i_24, i_29, i_30, i_31, i_32, i_138, i_143, i_144, i_254, i_255, i_256, i_257, i_258, i_261, i_264, i_265, i_279, i_280, i_284, i_285, i_286, i_288, i_319, i_320, i_338, i_339, i_575, i_576, i_599, i_600, i_4096, i_8191, i_8192, i_8249, i_8250, i_8256, i_9000, i_16384, i_32767, i_32768, i_65520, i_65521, i_65535, i_65536, i_65999, i_66000, i_1300, i_120, i_156, nI_leI, nI_ltI, nI_add]
    rw [if_neg z]
    by_cases y : fin < pos b beg fin T + 3
    · rw [if_pos y]
      have eb : bst b (pos b beg fin T) fin = (0, 0) := if_pos (by omega)
      rw [eb] at fin1
      have e : mW8 (M_cutPart_46 200000 N before c (nI a) (nI fin) (M_cutPart_192 200000 N c (nI a) K)) 200000 (nI T) tl tv (nI (pos b beg fin T)) (nI 0) (nI 0) (nI 0) (-nI 1) = M_cutPart_192 200000 N c (nI a) K (nI T) tl tv (nI (pos b beg fin T)) (nI 0) (nI 0) := by
        show M_cutPart_46 200000 N before c (nI a) (nI fin) (M_cutPart_192 200000 N c (nI a) K) (mW8 (M_cutPart_46 200000 N before c (nI a) (nI fin) (M_cutPart_192 200000 N c (nI a) K)) 199999) (nI T) tl tv (nI (pos b beg fin T)) (nI 0) (nI 0) (nI 0) (-nI 1) = _
        unfold M_cutPart_46 mC
        rw [if_pos (by decide)]
      rw [e]
      exact fin1
    · rw [if_neg y, Tt_N (by omega), nI_clamp (by omega)]
      refine ⟨by omega, ?_⟩
      exact t_search h hn haN hN hB (by omega) hf rfl (hB _ (by omega)) fin1
/-! tokens and their counts: the program's tokens, the reference's counts -/
def sOf (b : Nat → Nat) (beg fin t : Nat) : Nat := if tL b beg fin t = 0 then tV b beg fin t else lsym (tL b beg fin t)
def dOf (b : Nat → Nat) (beg fin t : Nat) : Nat := if tL b beg fin t = 0 then 99 else dsym (tV b beg fin t)
def xOf (b : Nat → Nat) (beg fin t : Nat) : Nat := if tL b beg fin t = 0 then 0 else lex (lsym (tL b beg fin t)) + dex (dsym (tV b beg fin t))
def vOf (b : Nat → Nat) (beg fin t : Nat) : Nat := if tL b beg fin t = 0 then tV b beg fin t else tL b beg fin t * 65536 + tV b beg fin t
theorem t_addByte {tc ex x1 : Int32} {toks sc dc : Nat → Int32} {t v : Nat} (h1 : tc = nI t) (ht : t < 4096) (h2 : x1 = nI v) (hv : v < 256) : Tt (Packer_addToken 200000 tc ex toks sc dc x1) (fun u => u.2.1 = nI (t + 1) ∧ u.2.2.1 = ex ∧ u.2.2.2.1 = upd toks t (nI v) ∧ u.2.2.2.2.1 = upd sc v (sc v + 1) ∧ u.2.2.2.2.2 = dc) := by
  subst h1 h2
  have h32 : ∀ tc2 toks2, Tt (Packer_addToken_32 200000 (nI v) tc2 ex toks2 sc dc) (fun u => u = ((), tc2, ex, toks2, upd sc v (sc v + 1), dc)) := by
    intro tc2 toks2
    unfold Packer_addToken_32
    rw [Tt_C, if_neg (by rw [i_65536, nI_leI (by omega) (by omega)]; omega)]
    unfold Packer_addToken_43
    rw [Tt_C, if_neg (show ¬ ((1 : Int32) = 0) by decide)]
    unfold Packer_addToken_59
    rw [Tt_C, if_neg (nI_pos (by omega)), Tt_C, if_neg (by rw [i_286, nI_leI (by omega) (by omega)]; omega), Tt_N (by omega), Tt_L, Tt_N (by omega), Tt_L, nI_clamp (by omega)]
    unfold Packer_addToken_83
    rw [Tt_C, if_neg (show ¬ ((1 : Int32) = 0) by decide)]
    exact ⟨by omega, by omega, Tt_Si rfl⟩
  unfold Packer_addToken
  rw [Tt_C, if_neg (by rw [i_4096, nI_leI (by omega) (by omega)]; omega), Tt_N (by omega), Tt_L, Tt_L, nI_clamp (by omega), nI_1]
  refine ⟨ht, Tt_m (h32 _ _) ?_⟩
  intro u hu
  rw [hu]
  exact ⟨rfl, rfl, rfl, rfl, rfl⟩
theorem t_addMatch {tc ex x1 : Int32} {toks sc dc : Nat → Int32} {t L V : Nat} (h1 : tc = nI t) (ht : t < 4096) (h2 : x1 = nI (L * 65536 + V)) (hL : 3 ≤ L) (hL2 : L ≤ 258) (hV : 1 ≤ V) (hV2 : V ≤ 32768) : Tt (Packer_addToken 200000 tc ex toks sc dc x1) (fun u => u.2.1 = nI (t + 1) ∧ u.2.2.1 = ex + nI (lex (lsym L) + dex (dsym V)) ∧ u.2.2.2.1 = upd toks t (nI (L * 65536 + V)) ∧ u.2.2.2.2.1 = upd sc (lsym L) (sc (lsym L) + 1) ∧ u.2.2.2.2.2 = upd dc (dsym V) (dc (dsym V) + 1)) := by
  subst h1 h2
  have yl := y_lsymP L (by omega) hL
  have ylb := y_lsymB L (by omega)
  have yd := y_drest hV hV2
  have yx := (y_lex (lsym L) ylb.2 ylb.1).2.1
  have ye := (y_dex (dsym V) yd.1).2.1
  have e1 : (L * 65536 + V) / 2 ^ 16 = L := by omega
  have e2 : (L * 65536 + V) % 65536 = V := by omega
  have h123 : ∀ tc2 toks2 sc2 dc2, Tt (Packer_addToken_123 200000 tc2 ex toks2 sc2 dc2 (nI (lsym L)) (nI (dsym V))) (fun u => u = ((), tc2, ex + nI (lex (lsym L) + dex (dsym V)), toks2, sc2, dc2)) := by
    intro tc2 toks2 sc2 dc2
    unfold Packer_addToken_123
    simp only [Tt_R0, Tt_S, Tt_L, yx, ye, nI_add]
  have h83 : ∀ tc2 toks2 sc2, Tt (Packer_addToken_83 200000 (nI (L * 65536 + V)) tc2 ex toks2 sc2 dc (nI 0) (nI (lsym L))) (fun u => u = ((), tc2, ex + nI (lex (lsym L) + dex (dsym V)), toks2, sc2, upd dc (dsym V) (dc (dsym V) + 1))) := by
    intro tc2 toks2 sc2
    unfold Packer_addToken_83
    rw [Tt_C, if_pos (show nI 0 = 0 from rfl), Tt_L, i_65535, n_65535, e2, Tt_R0]
    refine Tt_m (t_dsymP hV hV2 rfl) ?_
    rintro ⟨r, _⟩ hr
    have hr' : r = nI (dsym V) := hr
    subst hr'
    rw [Tt_C, if_neg (nI_pos (by omega)), Tt_C, if_neg (by rw [i_30, nI_leI (by omega) (by omega)]; omega), Tt_N (by omega), Tt_L, Tt_N (by omega), Tt_L, nI_clamp (by omega)]
    exact ⟨by omega, by omega, h123 _ _ _ _⟩
  have h32 : ∀ tc2 toks2, Tt (Packer_addToken_32 200000 (nI (L * 65536 + V)) tc2 ex toks2 sc dc) (fun u => u = ((), tc2, ex + nI (lex (lsym L) + dex (dsym V)), toks2, upd sc (lsym L) (sc (lsym L) + 1), upd dc (dsym V) (dc (dsym V) + 1))) := by
    intro tc2 toks2
    unfold Packer_addToken_32
    rw [Tt_C, if_pos (by rw [i_65536, nI_leI (by omega) (by omega)]; omega)]
    unfold Packer_addToken_43
    rw [Tt_C, if_pos (show (0 : Int32) = 0 from rfl), Tt_L, i_16, i_31, n_shr (by omega) (by omega), e1, yl, Tt_R0, Tt_S]
    unfold Packer_addToken_59
    rw [Tt_C, if_neg (nI_pos (by omega)), Tt_C, if_neg (by rw [i_286, nI_leI (by omega) (by omega)]; omega), Tt_N (by omega), Tt_L, Tt_N (by omega), Tt_L, nI_clamp (by omega)]
    exact ⟨by omega, by omega, h83 _ _ _⟩
  unfold Packer_addToken
  rw [Tt_C, if_neg (by rw [i_4096, nI_leI (by omega) (by omega)]; omega), Tt_N (by omega), Tt_L, Tt_L, nI_clamp (by omega), nI_1]
  refine ⟨ht, Tt_m (h32 _ _) ?_⟩
  intro u hu
  rw [hu]
  exact ⟨rfl, rfl, rfl, rfl, rfl⟩
theorem t_collect {c before toks sc dc : Nat → Int32} {b : Nat → Nat} {n beg fin : Nat} {tc ex x1 x2 : Int32} (h : Row c 0 n b) (hn : n ≤ 8192) (hB : ∀ p, p < n → before p = nI (lb (hf b n) p (hf b n p))) (hfn : fin ≤ n) (hbe : beg ≤ fin) (hl : fin - beg ≤ 4096) (h1 : x1 = nI beg) (h2 : x2 = nI fin) : Tt (Packer_collectTokens 200000 8192 before (nI n) c tc ex sc dc toks x1 x2) (fun u => ∃ T, T ≤ fin - beg ∧ isT b beg fin T ∧ u.2.1 = nI T ∧ u.2.2.1 = nI (sm (xOf b beg fin) T) ∧ (∀ s, s < 286 → u.2.2.2.1 s = nI (cn (sOf b beg fin) s T + (if s = 256 then 1 else 0))) ∧ (∀ d, d < 30 → u.2.2.2.2.1 d = nI (cn (dOf b beg fin) d T)) ∧ ∀ t, t < T → u.2.2.2.2.2 t = nI (vOf b beg fin t)) := by
  subst h1 h2
  unfold Packer_collectTokens
  generalize hN4 : (286 : Nat) = N4
  have tf := @t_fill N4 sc 0 (by omega)
  have tf2 := @t_fill 30 dc 0 (by decide)
  rw [Tt_R1]
  refine Tt_m tf ?_
  rintro ⟨_, sc1⟩ hs1
  subst hN4
  rw [Tt_R1]
  refine Tt_m tf2 ?_
  rintro ⟨_, dc1⟩ hd1
  refine Tt_W6 (fun m tc ex sc dc toks x3 => ∃ T, tc = nI T ∧ x3 = nI (pos b beg fin T) ∧ m = fin - pos b beg fin T ∧ T + beg ≤ pos b beg fin T ∧ pos b beg fin T ≤ fin ∧ (∀ t, t < T → pos b beg fin t < fin) ∧ ex = nI (sm (xOf b beg fin) T) ∧ (∀ s, s < 286 → sc s = nI (cn (sOf b beg fin) s T)) ∧ (∀ d, d < 30 → dc d = nI (cn (dOf b beg fin) d T)) ∧ ∀ t, t < T → toks t = nI (vOf b beg fin t)) ?_ 200000 (fin - beg) 0 0 sc1 dc1 toks (nI beg) (by omega) ⟨0, rfl, rfl, rfl, by show 0 + beg ≤ beg; omega, hbe, fun t ht => by omega, rfl, fun s hs => by
    have := hs1 s
    rw [if_pos hs] at this
    exact this, fun d hd => by
    have := hd1 d
    rw [if_pos hd] at this
    exact this, fun t ht => by omega⟩
  rintro K m tc ex sc dc toks x3 ⟨T, rfl, rfl, rfl, hT, hpf, hpt, rfl, hsc, hdc, hv⟩ ih
  unfold Packer_collectTokens_28
  by_cases z : fin ≤ pos b beg fin T
  · simp only [Tt_C, Tt_S]
    rw [if_pos (by rw [nI_leI (by omega) (by omega)]; exact z)]
    unfold Packer_collectTokens_81
    simp (disch := omega) only [Tt_L, Tt_S, Tt_C, Tt_Z, Tt_R0, Tt_R1, Tt_R2, Tt_R3, Tt_R4, Tt_R5, q10, eq_self, Nat.not_lt_zero, if_true, if_false, i_0, i_1, i_2, i_3, i_4, i_5, i_6, i_7, i_8, i_9, i_10, i_11, i_13, i_14, i_15, i_16, i_17, i_18, i_19, i_24, i_29, i_30, i_31, i_32, i_138, i_143, i_144, i_254, i_255, i_256, i_257, i_258, i_261, i_264, i_265, i_279, i_280, i_284, i_285, i_286, i_288, i_319, i_320, i_338, i_339, i_575, i_576, i_599, i_600, i_4096, i_8191, i_8192, i_8249, i_8250, i_8256, i_9000, i_16384, i_32767, i_32768, i_65520, i_65521, i_65535, i_65536, i_65999, i_66000, i_1300, i_120, i_156, Tt_N, nI_clamp]
    refine ⟨by omega, T, by omega, ⟨z, hpt⟩, rfl, rfl, fun s hs => ?_, hdc, hv⟩
    by_cases w : s = 256
    · rw [w, pk_us, if_pos rfl]
      have : cn (sOf b beg fin) 256 T = 0 := by
        have : ∀ k, k ≤ T → cn (sOf b beg fin) 256 k = 0 := by
          intro k
          induction k with
          | zero => intro _; rfl
          | succ k ik =>
            intro hk
            show cn (sOf b beg fin) 256 k + (if sOf b beg fin k = 256 then 1 else 0) = 0
            rw [ik (by omega), if_neg]
            have tb := @tok_b b beg fin n k h.2 (hpt k (by omega)) hfn
            unfold sOf
            rcases tb with tb | tb
            · rw [if_pos tb.1]; omega
            · rw [if_neg (by omega)]
              have := y_lsymB (tL b beg fin k) (by omega)
              omega
        exact this T (Nat.le_refl T)
      rw [this]
    · rw [pk_un w, if_neg w]
      exact hsc s hs
  · have tb := @tok_b b beg fin n T h.2 (by omega) hfn
    have hpos : pos b beg fin (T + 1) = pos b beg fin T + (if tL b beg fin T = 0 then 1 else tL b beg fin T) := rfl
    have next : ∀ ex' sc' dc' toks', ex' = nI (sm (xOf b beg fin) T + xOf b beg fin T) → (∀ s, s < 286 → sc' s = nI (cn (sOf b beg fin) s T + (if sOf b beg fin T = s then 1 else 0))) → (∀ d, d < 30 → dc' d = nI (cn (dOf b beg fin) d T + (if dOf b beg fin T = d then 1 else 0))) → toks' = upd toks T (nI (vOf b beg fin T)) → Tt (K (nI (T + 1)) ex' sc' dc' toks' (nI (pos b beg fin (T + 1)))) (fun u => ∃ T, T ≤ fin - beg ∧ isT b beg fin T ∧ u.2.1 = nI T ∧ u.2.2.1 = nI (sm (xOf b beg fin) T) ∧ (∀ s, s < 286 → u.2.2.2.1 s = nI (cn (sOf b beg fin) s T + (if s = 256 then 1 else 0))) ∧ (∀ d, d < 30 → u.2.2.2.2.1 d = nI (cn (dOf b beg fin) d T)) ∧ ∀ t, t < T → u.2.2.2.2.2 t = nI (vOf b beg fin t)) := by
      intro ex' sc' dc' toks' a1 a2 a3 a4
      have hp1 : pos b beg fin T + 1 ≤ pos b beg fin (T + 1) ∧ pos b beg fin (T + 1) ≤ fin := by
        rw [hpos]
        rcases tb with tb | tb
        · rw [if_pos tb.1]; omega
        · rw [if_neg (by omega)]; omega
      refine ih (fin - pos b beg fin (T + 1)) _ _ _ _ _ _ (by omega) ⟨T + 1, rfl, rfl, rfl, by omega, by omega, fun t ht => ?_, a1, a2, a3, fun t ht => ?_⟩
      · by_cases w : t = T
        · rw [w]; omega
        · exact hpt t (by omega)
      · rw [a4]
        by_cases w : t = T
        · rw [w, pk_us]
        · rw [pk_un w]; exact hv t (by omega)
    simp only [Tt_C, Tt_S]
    rw [if_neg (by rw [nI_leI (by omega) (by omega)]; exact z), Tt_R0]
    refine Tt_m (t_best h hn hB (by omega) hfn rfl rfl) ?_
    rintro ⟨r, _⟩ hr
    have hr' : r = nI (tL b beg fin T * 65536 + (bst b (pos b beg fin T) fin).2) := hr
    subst hr'
    have g0 := @e_at 200000 8192 n (pos b beg fin T) c b (nI (pos b beg fin T)) (nI n) h hn (by omega) (by omega) rfl rfl
    have z0 : bz b n (pos b beg fin T) = b (pos b beg fin T) := if_pos (by omega)
    rw [z0] at g0
    have bb := bst_b b (pos b beg fin T) fin
    have e1 : (bst b (pos b beg fin T) fin).1 = tL b beg fin T := rfl
    rw [e1] at bb
    have b0 := h.2 (pos b beg fin T)
    unfold Packer_collectTokens_63
    rcases tb with tb | tb
    · have e2 : (bst b (pos b beg fin T) fin).2 = 0 := by omega
      have e3 : tV b beg fin T = b (pos b beg fin T) := if_pos tb.1
      have s1 : sOf b beg fin T = b (pos b beg fin T) := by unfold sOf; rw [if_pos tb.1, e3]
      have s2 : dOf b beg fin T = 99 := if_pos tb.1
      have s3 : xOf b beg fin T = 0 := if_pos tb.1
      have s4 : vOf b beg fin T = b (pos b beg fin T) := by unfold vOf; rw [if_pos tb.1, e3]
      rw [tb.1, e2]
      simp (disch := omega) only [Tt_L, Tt_S, Tt_C, Tt_Z, Tt_R0, Tt_R1, Tt_R2, Tt_R3, Tt_R4, Tt_R5, q10, eq_self, Nat.not_lt_zero, if_true, if_false, i_0, i_1, i_2, i_3, i_4, i_5, i_6, i_7, i_8, i_9, i_10, i_11, i_13, i_14, i_15, i_16, i_17, i_18, i_19, i_24, i_29, i_30, i_31, i_32, i_138, i_143, i_144, i_254, i_255, i_256, i_257, i_258, i_261, i_264, i_265, i_279, i_280, i_284, i_285, i_286, i_288, i_319, i_320, i_338, i_339, i_575, i_576, i_599, i_600, i_4096, i_8191, i_8192, i_8249, i_8250, i_8256, i_9000, i_16384, i_32767, i_32768, i_65520, i_65521, i_65535, i_65536, i_65999, i_66000, i_1300, i_120, i_156, nI_leI, g0, Nat.zero_mul, Nat.add_zero]
      rw [if_pos (Nat.le_refl 0)]
      refine Tt_m (t_addByte rfl (by omega) rfl b0) ?_
      rintro ⟨_, tc2, ex2, toks2, sc2, dc2⟩ ⟨q1, q2, q3, q4, q5⟩
      dsimp only at q1 q2 q3 q4 q5 ⊢
      subst q1 q2 q3 q4 q5
      have ep : nI (pos b beg fin T) + (if (1 : Int32) < nI 0 >>> (nI 16 &&& nI 31) then nI 0 >>> (nI 16 &&& nI 31) else 1) = nI (pos b beg fin (T + 1)) := by
        rw [hpos, if_pos tb.1, if_neg (by decide)]
        exact nI_1 _
      have ep2 : nI (pos b beg fin T) + (if nI 1 < nI 0 >>> (nI 16 &&& nI 31) then nI 0 >>> (nI 16 &&& nI 31) else nI 1) = nI (pos b beg fin (T + 1)) := ep
      rw [ep2]
      refine next _ _ _ _ (by rw [s3]; rfl) (fun s hs => ?_) (fun d hd => ?_) (by rw [s4])
      · rw [s1]
        by_cases w : s = b (pos b beg fin T)
        · rw [← w, pk_us, if_pos rfl, hsc s hs]; exact nI_1 _
        · rw [pk_un w, if_neg (fun q => w q.symm)]; exact hsc s hs
      · rw [s2, if_neg (by omega)]; exact hdc d hd
    · have e3 : tV b beg fin T = (bst b (pos b beg fin T) fin).2 := if_neg (by omega)
      have n0 : ¬ (tL b beg fin T = 0) := by omega
      have s1 : sOf b beg fin T = lsym (tL b beg fin T) := if_neg n0
      have s2 : dOf b beg fin T = dsym (tV b beg fin T) := if_neg n0
      have s3 : xOf b beg fin T = lex (lsym (tL b beg fin T)) + dex (dsym (tV b beg fin T)) := if_neg n0
      have s4 : vOf b beg fin T = tL b beg fin T * 65536 + tV b beg fin T := if_neg n0
      rw [← e3]
      have e5 : (tL b beg fin T * 65536 + tV b beg fin T) / 2 ^ 16 = tL b beg fin T := by omega
      simp (disch := omega) only [Tt_L, Tt_S, Tt_C, Tt_Z, Tt_R0, Tt_R1, Tt_R2, Tt_R3, Tt_R4, Tt_R5, q10, eq_self, Nat.not_lt_zero, if_true, if_false, i_0, i_1, i_2, i_3, i_4, i_5, i_6, i_7, i_8, i_9, i_10, i_11, i_13, i_14, i_15, i_16, i_17, i_18, i_19, i_24, i_29, i_30, i_31, i_32, i_138, i_143, i_144, i_254, i_255, i_256, i_257, i_258, i_261, i_264, i_265, i_279, i_280, i_284, i_285, i_286, i_288, i_319, i_320, i_338, i_339, i_575, i_576, i_599, i_600, i_4096, i_8191, i_8192, i_8249, i_8250, i_8256, i_9000, i_16384, i_32767, i_32768, i_65520, i_65521, i_65535, i_65536, i_65999, i_66000, i_1300, i_120, i_156, nI_leI, n_shr, e5]
      rw [if_neg (by omega)]
      refine Tt_m (t_addMatch rfl (by omega) rfl tb.1 tb.2.1 tb.2.2.2.1 (by omega)) ?_
      rintro ⟨_, tc2, ex2, toks2, sc2, dc2⟩ ⟨q1, q2, q3, q4, q5⟩
      dsimp only at q1 q2 q3 q4 q5 ⊢
      subst q1 q2 q3 q4 q5
      have ep2 : nI (pos b beg fin T) + (if nI 1 < nI (tL b beg fin T) then nI (tL b beg fin T) else nI 1) = nI (pos b beg fin (T + 1)) := by
        rw [hpos, if_neg n0, if_pos (by rw [nI_ltI (by omega) (by omega)]; omega), nI_add]
      rw [ep2]
      refine next _ _ _ _ (by rw [s3, nI_add]) (fun s hs => ?_) (fun d hd => ?_) (by rw [s4])
      · rw [s1]
        by_cases w : s = lsym (tL b beg fin T)
        · rw [← w, pk_us, if_pos rfl, hsc s hs]; exact nI_1 _
        · rw [pk_un w, if_neg (fun q => w q.symm)]; exact hsc s hs
      · rw [s2]
        by_cases w : d = dsym (tV b beg fin T)
        · rw [← w, pk_us, if_pos rfl, hdc d hd]; exact nI_1 _
        · rw [pk_un w, if_neg (fun q => w q.symm)]; exact hdc d hd
/-- the counts of all three kinds, in the reference's order -/
def cntA (b : Nat → Nat) (beg fin T s : Nat) : Nat := if s < 288 then cn (sOf b beg fin) s T + (if s = 256 then 1 else 0) else if s < 320 then cn (dOf b beg fin) (s - 288) T else 0
theorem t_countTokens {b : Nat → Nat} {n beg fin T : Nat} {tok : Int32} {tl tv c : Nat → Int32} (hb : ∀ i, b i < 256) (hn : n ≤ 8192) (hfn : fin ≤ n) (hT : T ≤ 4096) (hpt : ∀ t, t < T → pos b beg fin t < fin) (h1 : tok = nI T) (hv : ∀ t, t < T → tl t = nI (tL b beg fin t) ∧ tv t = nI (tV b beg fin t)) : Tt (M_countTokens 200000 tok tl tv c) (fun u => ∀ s, s < 339 → u.2 s = nI (cntA b beg fin T s)) := by
  subst h1
  unfold M_countTokens
  generalize hz : (0 : Int32) = z0
  obtain ⟨E, hE⟩ : ∃ E, E = 339 := ⟨_, rfl⟩
  refine Tt_W2 (fun m c x1 => ∃ j, x1 = nI j ∧ j ≤ E ∧ m = E - j ∧ ∀ s, s < j → c s = nI 0) ?_ 200000 E c z0 (by omega) ⟨0, hz.symm, by omega, rfl, fun s hs => by omega⟩
  rintro K m c x1 ⟨j, rfl, hj, rfl, hc⟩ ih
  unfold M_countTokens_2
  simp (disch := omega) only [Tt_L, Tt_S, Tt_C, Tt_Z, Tt_R0, Tt_R1, Tt_R2, Tt_R3, Tt_R4, Tt_R5, q10, eq_self, Nat.not_lt_zero, if_true, if_false, i_0, i_1, i_2, i_3, i_4, i_5, i_6, i_7, i_8, i_9, i_10, i_11, i_13, i_14, i_15, i_16, i_17, i_18, i_19, i_24, i_29, i_30, i_31, i_32, i_138, i_143, i_144, i_254, i_255, i_256, i_257, i_258, i_261, i_264, i_265, i_279, i_280, i_284, i_285, i_286, i_288, i_319, i_320, i_338, i_339, i_575, i_576, i_599, i_600, i_4096, i_8191, i_8192, i_8249, i_8250, i_8256, i_9000, i_16384, i_32767, i_32768, i_65520, i_65521, i_65535, i_65536, i_65999, i_66000, i_1300, i_120, i_156, nI_leI, Tt_N, nI_clamp, nI_add]
  split
  · rename_i h0
    unfold M_countTokens_22
    simp (disch := omega) only [Tt_L, Tt_S, Tt_C, Tt_Z, Tt_R0, Tt_R1, Tt_R2, Tt_R3, Tt_R4, Tt_R5, q10, eq_self, Nat.not_lt_zero, if_true, if_false, i_0, i_1, i_2, i_3, i_4, i_5, i_6, i_7, i_8, i_9, i_10, i_11, i_13, i_14, i_15, i_16, i_17, i_18, i_19, i_24, i_29, i_30, i_31, i_32, i_138, i_143, i_144, i_254, i_255, i_256, i_257, i_258, i_261, i_264, i_265, i_279, i_280, i_284, i_285, i_286, i_288, i_319, i_320, i_338, i_339, i_575, i_576, i_599, i_600, i_4096, i_8191, i_8192, i_8249, i_8250, i_8256, i_9000, i_16384, i_32767, i_32768, i_65520, i_65521, i_65535, i_65536, i_65999, i_66000, i_1300, i_120, i_156, Tt_N, nI_clamp]
    refine ⟨by omega, ?_⟩
    refine Tt_W2 (fun m c x1 => ∃ t, x1 = nI t ∧ t ≤ T ∧ m = T - t ∧ ∀ s, s < 339 → c s = nI (cntA b beg fin t s)) ?_ 200000 T _ _ (by omega) ⟨0, rfl, by omega, rfl, fun s hs => ?_⟩
    · rintro K2 m c x1 ⟨t, rfl, ht, rfl, hc⟩ ih2
      unfold M_countTokens_33 M_countTokens_108
      by_cases z : T ≤ t
      · simp only [Tt_C, Tt_S]
        rw [if_pos (by rw [nI_leI (by omega) (by omega)]; exact z)]
        intro s hs
        have : t = T := by omega
        rw [← this]
        exact hc s hs
      · have tb := @tok_b b beg fin n t hb (hpt t (by omega)) hfn
        have v1 := (hv t (by omega)).1
        have v2 := (hv t (by omega)).2
        have stepS : ∀ s, s < 339 → cntA b beg fin (t + 1) s = cntA b beg fin t s + (if s < 288 then (if sOf b beg fin t = s then 1 else 0) else if s < 320 then (if dOf b beg fin t = s - 288 then 1 else 0) else 0) := by
          intro s hs
          unfold cntA
          by_cases w : s < 288
          · rw [if_pos w, if_pos w, if_pos w]
            show cn (sOf b beg fin) s t + (if sOf b beg fin t = s then 1 else 0) + _ = _
            omega
          · rw [if_neg w, if_neg w, if_neg w]
            by_cases w2 : s < 320
            · rw [if_pos w2, if_pos w2, if_pos w2]; rfl
            · rw [if_neg w2, if_neg w2, if_neg w2]
        rcases tb with tb | tb
        · have s1 : sOf b beg fin t = tV b beg fin t := if_pos tb.1
          have s2 : dOf b beg fin t = 99 := if_pos tb.1
          simp (disch := omega) only [Tt_L, Tt_S, Tt_C, Tt_Z, Tt_R0, Tt_R1, Tt_R2, Tt_R3, Tt_R4, Tt_R5, q10, eq_self, Nat.not_lt_zero, if_true, if_false, i_0, i_1, i_2, i_3, i_4, i_5, i_6, i_7, i_8, i_9, i_10, i_11, i_13, i_14, i_15, i_16, i_17, i_18, i_19, i_24, i_29, i_30, i_31, i_32, i_138, i_143, i_144, i_254, i_255, i_256, i_257, i_258, i_261, i_264, i_265, i_279, i_280, i_284, i_285, i_286, i_288, i_319, i_320, i_338, i_339, i_575, i_576, i_599, i_600, i_4096, i_8191, i_8192, i_8249, i_8250, i_8256, i_9000, i_16384, i_32767, i_32768, i_65520, i_65521, i_65535, i_65536, i_65999, i_66000, i_1300, i_120, i_156, nI_leI, Tt_N, nI_clamp, v1, v2, nI_eq, nI_add]
          rw [if_neg z, if_pos tb.1]
          refine ⟨by omega, by omega, by omega, by omega, ih2 (T - (t + 1)) _ _ (by omega) ⟨t + 1, rfl, by omega, rfl, fun s hs => ?_⟩⟩
          rw [stepS s hs, s1, s2]
          by_cases w : s = tV b beg fin t
          · rw [← w, pk_us, if_pos (by omega), if_pos rfl, hc s hs]; exact nI_1 _
          · rw [pk_un w, hc s hs]
            congr 1
            split
            · rw [if_neg (fun q => w q.symm)]; rfl
            · split
              · rw [if_neg (by omega)]; rfl
              · rfl
        · have n0 : ¬ (tL b beg fin t = 0) := by omega
          have s1 : sOf b beg fin t = lsym (tL b beg fin t) := if_neg n0
          have s2 : dOf b beg fin t = dsym (tV b beg fin t) := if_neg n0
          have yl := y_lsymM (tL b beg fin t) (by omega)
          have ylb := y_lsymB (tL b beg fin t) (by omega)
          have yd := @y_drest (tV b beg fin t) (by omega) (by omega)
          simp (disch := omega) only [Tt_L, Tt_S, Tt_C, Tt_Z, Tt_R0, Tt_R1, Tt_R2, Tt_R3, Tt_R4, Tt_R5, q10, eq_self, Nat.not_lt_zero, if_true, if_false, i_0, i_1, i_2, i_3, i_4, i_5, i_6, i_7, i_8, i_9, i_10, i_11, i_13, i_14, i_15, i_16, i_17, i_18, i_19, i_24, i_29, i_30, i_31, i_32, i_138, i_143, i_144, i_254, i_255, i_256, i_257, i_258, i_261, i_264, i_265, i_279, i_280, i_284, i_285, i_286, i_288, i_319, i_320, i_338, i_339, i_575, i_576, i_599, i_600, i_4096, i_8191, i_8192, i_8249, i_8250, i_8256, i_9000, i_16384, i_32767, i_32768, i_65520, i_65521, i_65535, i_65536, i_65999, i_66000, i_1300, i_120, i_156, nI_leI, Tt_N, nI_clamp, v1, v2, nI_eq, nI_add, yl]
          rw [if_neg z, if_neg n0]
          refine ⟨by omega, by omega, by omega, by omega, by omega, ?_⟩
          refine Tt_m (t_dsymM (by omega) rfl) ?_
          rintro ⟨r, _⟩ hr
          have hr' : r = nI (dsym (tV b beg fin t)) := hr
          subst hr'
          simp (disch := omega) only [Tt_L, Tt_S, Tt_C, Tt_Z, Tt_R0, Tt_R1, Tt_R2, Tt_R3, Tt_R4, Tt_R5, q10, eq_self, Nat.not_lt_zero, if_true, if_false, i_0, i_1, i_2, i_3, i_4, i_5, i_6, i_7, i_8, i_9, i_10, i_11, i_13, i_14, i_15, i_16, i_17, i_18, i_19, i_24, i_29, i_30, i_31, i_32, i_138, i_143, i_144, i_254, i_255, i_256, i_257, i_258, i_261, i_264, i_265, i_279, i_280, i_284, i_285, i_286, i_288, i_319, i_320, i_338, i_339, i_575, i_576, i_599, i_600, i_4096, i_8191, i_8192, i_8249, i_8250, i_8256, i_9000, i_16384, i_32767, i_32768, i_65520, i_65521, i_65535, i_65536, i_65999, i_66000, i_1300, i_120, i_156, Tt_N, nI_clamp, nI_add]
          refine ⟨by omega, by omega, ih2 (T - (t + 1)) _ _ (by omega) ⟨t + 1, rfl, by omega, rfl, fun s hs => ?_⟩⟩
          rw [stepS s hs, s1, s2]
          by_cases w : s = 288 + dsym (tV b beg fin t)
          · rw [← w, pk_us, pk_un (by omega), if_neg (by omega), if_pos (by omega), if_pos (by omega), hc s hs]; exact nI_1 _
          · rw [pk_un w]
            by_cases w2 : s = lsym (tL b beg fin t)
            · rw [← w2, pk_us, if_pos (by omega), if_pos rfl, hc s hs]; exact nI_1 _
            · rw [pk_un w2, hc s hs]
              congr 1
              split
              · rw [if_neg (fun q => w2 q.symm)]; rfl
              · split
                · rw [if_neg (by omega)]; rfl
                · rfl
    · unfold cntA
      by_cases w : s = 256
      · rw [w, pk_us, if_pos (by omega), if_pos rfl]; rfl
      · rw [pk_un w, hc s (by omega)]
        congr 1
        split
        · rfl
        · split <;> rfl
  · rename_i h0
    refine ⟨by omega, ih (E - (j + 1)) _ _ (by omega) ⟨j + 1, rfl, by omega, rfl, fun s hs => ?_⟩⟩
    by_cases w : s = j
    · rw [w, pk_us]
    · rw [pk_un w]; exact hc s (by omega)
/-! lengths of codes: the program's lists -/
theorem gV_b {m : Nat} {w : Nat → Nat} {B : Nat} (hw : ∀ a, a < m → w a ≤ B) : ∀ k i, i < gZ m k → gV m w k i ≤ B * 2 ^ k := by
  intro k
  induction k with
  | zero =>
    intro i hi
    have hi' : i < m := hi
    have z := gL0 m w i
    have hy : gS m 0 w (fun _ => 0) i = true := by
      apply decide_eq_true
      left
      have : gA m 0 w (fun _ => 0) i = i := z
      rw [this]
      exact Nat.sub_self i
    show gW m 0 w (fun _ => 0) i ≤ B * 2 ^ 0
    rw [gW_t hy]
    have : gA m 0 w (fun _ => 0) i = i := z
    rw [this, Nat.pow_zero, Nat.mul_one]
    exact hw i hi'
  | succ k ih =>
    intro i hi
    rw [gV_e]
    have b := @gA_b m (gQ m (k + 1)) w (gP m w (k + 1)) i (by rw [← gZ_e]; omega)
    have b1 := @gA_b m (gQ m (k + 1)) w (gP m w (k + 1)) (i + 1) (by rw [← gZ_e]; omega)
    have l := @gA_le m (gQ m (k + 1)) w (gP m w (k + 1)) i
    have p2 : B * 2 ^ (k + 1) = B * 2 ^ k + B * 2 ^ k := by rw [Nat.pow_succ, ← Nat.mul_assoc]; omega
    cases h : gS m (gQ m (k + 1)) w (gP m w (k + 1)) i with
    | true =>
      rw [gW_t h]
      rw [gA_t h] at b1
      have h1 := hw (gA m (gQ m (k + 1)) w (gP m w (k + 1)) i) (by omega)
      have h2 : B * 1 ≤ B * 2 ^ k := Nat.mul_le_mul_left _ (Nat.two_pow_pos k)
      omega
    | false =>
      rw [gW_f h]
      rw [gA_f h] at b1
      have q : gQ m (k + 1) = gZ m k / 2 := rfl
      generalize hj : i - gA m (gQ m (k + 1)) w (gP m w (k + 1)) i = j at *
      have h1 := ih (2 * j) (by omega)
      have h2 := ih (2 * j + 1) (by omega)
      show gV m w k (2 * j) + gV m w k (2 * j + 1) ≤ _
      omega
theorem gP_b {m : Nat} {w : Nat → Nat} {B : Nat} (hw : ∀ a, a < m → w a ≤ B) (k b : Nat) (hb : b < gQ m k) : gP m w k b ≤ B * 2 ^ k := by
  cases k with
  | zero => exact absurd hb (Nat.not_lt_zero b)
  | succ k =>
    have q : gQ m (k + 1) = gZ m k / 2 := rfl
    have h1 := gV_b hw k (2 * b) (by omega)
    have h2 := gV_b hw k (2 * b + 1) (by omega)
    show gV m w k (2 * b) + gV m w k (2 * b + 1) ≤ _
    rw [Nat.pow_succ, ← Nat.mul_assoc]
    omega
/-- ranked symbols with their counts, as the program has them -/
def isRk (cs sy : Nat → Int32) (c r : Nat → Nat) (m : Nat) : Prop := ∀ a, a < m → cs a = nI (c (r a)) ∧ sy a = nI (r a)
theorem t_insert {cs sy : Nat → Int32} {c r : Nat → Nat} {m s : Nat} {v x1 x2 : Int32} (hv : v = nI m) (h1 : x1 = nI s) (h2 : x2 = nI (c s)) (hm : m < 288) (hc : ∀ i, c i < 2 ^ 30) (h : isRk cs sy c r m) : Tt (Lists_insert 200000 v cs sy x1 x2) (fun u => u.2.1 = nI (m + 1) ∧ isRk u.2.2.1 u.2.2.2 c (rkI r (rkP c r (c s) m) s) (m + 1)) := by
  subst hv h1 h2
  unfold Lists_insert
  refine Tt_W4 (fun (k' : Nat) (v : Int32) (cs sy : Nat → Int32) (x3 : Int32) => ∃ k, v = nI m ∧ x3 = nI k ∧ k = k' ∧ k ≤ m ∧ rkP c r (c s) m = rkP c r (c s) k ∧ (∀ j, j < k → cs j = nI (c (r j)) ∧ sy j = nI (r j)) ∧ ∀ j, k < j → j ≤ m → cs j = nI (c (r (j - 1))) ∧ sy j = nI (r (j - 1))) ?_ 200000 m _ cs sy (nI m) (by omega) ⟨m, rfl, rfl, rfl, Nat.le_refl m, rfl, h, fun j a b => by omega⟩
  rintro K k' v cs sy x3 ⟨k, rfl, rfl, rfl, hk, hP, hlo, hhi⟩ ih
  have fin : rkP c r (c s) k = k → Tt (Lists_insert_64 200000 (nI s) (nI (c s)) (nI m) cs sy (nI k)) (fun u => u.2.1 = nI (m + 1) ∧ isRk u.2.2.1 u.2.2.2 c (rkI r (rkP c r (c s) m) s) (m + 1)) := by
    intro e
    unfold Lists_insert_64
    simp (disch := omega) only [Tt_L, Tt_S, Tt_C, Tt_Z, Tt_R0, Tt_R1, Tt_R2, Tt_R3, Tt_R4, Tt_R5, q10, eq_self, Nat.not_lt_zero, if_true, if_false, i_0, i_1, i_2, i_3, i_4, i_5, i_6, i_7, i_8, i_9, i_10, i_11, i_13, i_14, i_15, i_16, i_17, i_18, i_19, i_24, i_29, i_30, i_31, i_32, i_138, i_143, i_144, i_254, i_255, i_256, i_257, i_258, i_261, i_264, i_265, i_279, i_280, i_284, i_285, i_286, i_288, i_319, i_320, i_338, i_339, i_575, i_576, i_599, i_600, i_4096, i_8191, i_8192, i_8249, i_8250, i_8256, i_9000, i_16384, i_32767, i_32768, i_65520, i_65521, i_65535, i_65536, i_65999, i_66000, i_1300, i_120, i_156, Tt_N, nI_clamp, nI_add]
    refine ⟨by omega, by omega, trivial, ?_⟩
    intro a ha
    rw [hP, e]
    unfold rkI
    by_cases w : a = k
    · rw [w, pk_us, pk_us, if_neg (by omega), if_pos rfl]; exact ⟨rfl, rfl⟩
    · rw [pk_un w, pk_un w]
      by_cases y : a < k
      · rw [if_pos y]; exact hlo a y
      · rw [if_neg y, if_neg w]; exact hhi a (by omega) (by omega)
  unfold Lists_insert_5
  by_cases z : k = 0
  · simp only [Tt_C, Tt_S]
    rw [if_pos (by rw [z]; decide)]
    exact fin (by rw [z]; rfl)
  · have e1 : nI k - nI 1 = nI (k - 1) := pk_sub (by omega)
    have l1 := hlo (k - 1) (by omega)
    have c1 := hc (r (k - 1))
    have c2 := hc s
    simp (disch := omega) only [Tt_L, Tt_S, Tt_C, Tt_Z, Tt_R0, Tt_R1, Tt_R2, Tt_R3, Tt_R4, Tt_R5, q10, eq_self, Nat.not_lt_zero, if_true, if_false, i_0, i_1, i_2, i_3, i_4, i_5, i_6, i_7, i_8, i_9, i_10, i_11, i_13, i_14, i_15, i_16, i_17, i_18, i_19, i_24, i_29, i_30, i_31, i_32, i_138, i_143, i_144, i_254, i_255, i_256, i_257, i_258, i_261, i_264, i_265, i_279, i_280, i_284, i_285, i_286, i_288, i_319, i_320, i_338, i_339, i_575, i_576, i_599, i_600, i_4096, i_8191, i_8192, i_8249, i_8250, i_8256, i_9000, i_16384, i_32767, i_32768, i_65520, i_65521, i_65535, i_65536, i_65999, i_66000, i_1300, i_120, i_156, nI_leI, Tt_N, nI_clamp, e1, l1.1, l1.2, n_dec2]
    rw [if_neg (by omega), if_neg (by omega)]
    refine ⟨by omega, ?_⟩
    have ek : k = (k - 1) + 1 := by omega
    by_cases y : c (r (k - 1)) ≤ c s
    · rw [if_pos y]
      apply fin
      conv => lhs; rw [ek]
      show (if c s < c (r (k - 1)) then rkP c r (c s) (k - 1) else k - 1 + 1) = k
      rw [if_neg (by omega)]
      omega
    · rw [if_neg y]
      refine ⟨by omega, by omega, by omega, by omega, ih (k - 1) _ _ _ _ (by omega) ⟨k - 1, rfl, rfl, rfl, by omega, ?_, fun j hj => ?_, fun j a b => ?_⟩⟩
      · rw [hP]
        conv => lhs; rw [ek]
        show (if c s < c (r (k - 1)) then rkP c r (c s) (k - 1) else k - 1 + 1) = _
        rw [if_pos (by omega)]
      · rw [pk_un (by omega), pk_un (by omega)]; exact hlo j (by omega)
      · by_cases w : j = k
        · rw [w, pk_us, pk_us]; exact ⟨rfl, rfl⟩
        · rw [pk_un w, pk_un w]; exact hhi j (by omega) b
theorem t_sort {n : Nat} {p cs sy : Nat → Int32} {c : Nat → Nat} {v : Int32} (hn : n ≤ 288) (hp : ∀ s, s < n → p s = nI (c s)) (hc : ∀ i, c i < 2 ^ 30) : Tt (Lists_sort 200000 n p v cs sy) (fun u => u.2.1 = nI (rk c n).1 ∧ isRk u.2.2.1 u.2.2.2 c (rk c n).2 (rk c n).1) := by
  unfold Lists_sort
  refine Tt_W4 (fun m v cs sy x2 => ∃ s, x2 = nI s ∧ s ≤ n ∧ m = n - s ∧ v = nI (rk c s).1 ∧ isRk cs sy c (rk c s).2 (rk c s).1) ?_ 200000 n 0 cs sy 0 (by omega) ⟨0, rfl, by omega, rfl, rfl, fun a ha => absurd ha (Nat.not_lt_zero a)⟩
  rintro K m v cs sy x2 ⟨s, rfl, hs, rfl, rfl, hR⟩ ih
  have ok := (rk_ok c s).1
  unfold Lists_sort_7 Lists_sort_39
  by_cases z : n ≤ s
  · simp only [Tt_C, Tt_S]
    rw [if_pos (by rw [nI_leI (by omega) (by omega)]; exact z)]
    rw [show n = s by omega]
    exact ⟨rfl, hR⟩
  · have e := hp s (by omega)
    have c1 := hc s
    simp (disch := omega) only [Tt_L, Tt_S, Tt_C, Tt_Z, Tt_R0, Tt_R1, Tt_R2, Tt_R3, Tt_R4, Tt_R5, q10, eq_self, Nat.not_lt_zero, if_true, if_false, i_0, i_1, i_2, i_3, i_4, i_5, i_6, i_7, i_8, i_9, i_10, i_11, i_13, i_14, i_15, i_16, i_17, i_18, i_19, i_24, i_29, i_30, i_31, i_32, i_138, i_143, i_144, i_254, i_255, i_256, i_257, i_258, i_261, i_264, i_265, i_279, i_280, i_284, i_285, i_286, i_288, i_319, i_320, i_338, i_339, i_575, i_576, i_599, i_600, i_4096, i_8191, i_8192, i_8249, i_8250, i_8256, i_9000, i_16384, i_32767, i_32768, i_65520, i_65521, i_65535, i_65536, i_65999, i_66000, i_1300, i_120, i_156, nI_leI, Tt_N, nI_clamp, e, nI_add]
    rw [if_neg z, if_neg (by omega)]
    refine ⟨by omega, ?_⟩
    by_cases y : c s ≤ 0
    · rw [if_pos y]
      have e1 : rk c (s + 1) = rk c s := if_neg (by omega)
      refine ih (n - (s + 1)) _ _ _ _ (by omega) ⟨s + 1, rfl, by omega, rfl, ?_, ?_⟩
      · rw [e1]
      · rw [e1]; exact hR
    · rw [if_neg y]
      have e1 : rk c (s + 1) = ((rk c s).1 + 1, rkI (rk c s).2 (rkP c (rk c s).2 (c s) (rk c s).1) s) := if_pos (by omega)
      refine ⟨by omega, ?_⟩
      refine Tt_m (t_insert rfl rfl rfl (by omega) hc hR) ?_
      rintro ⟨_, v2, cs2, sy2⟩ ⟨q1, q2⟩
      refine ih (n - (s + 1)) _ _ _ _ (by omega) ⟨s + 1, rfl, by omega, rfl, ?_, ?_⟩
      · rw [e1]; exact q1
      · rw [e1]; exact q2
theorem n_half {a : Nat} (h : a < 2 ^ 31) : nI a / nI 2 = nI (a / 2) := pk_div h (by omega) (by omega)
/-- one list of the program -/
theorem t_makeList {m k sz : Nat} {w : Nat → Nat} {cs ib it : Nat → Int32} {pr : Nat → Nat → Int32} {v x1 x2 : Int32} (hv : v = nI m) (hm1 : 2 ≤ m) (hm : m ≤ 288) (h1 : x1 = nI k) (hk : k < 15) (h2 : x2 = nI sz) (hsz : sz / 2 = gQ m k) (hsz2 : sz < 576) (hw : ∀ a, a < m → w a ≤ 8192) (hcs : ∀ a, a < m → cs a = nI (w a)) (hit : ∀ b, b < gQ m k → it (2 * b) + it (2 * b + 1) = nI (gP m w k b)) : Tt (Lists_makeList 200000 v cs ib it pr x1 x2) (fun u => u.1 = nI (gZ m k) ∧ (∀ i, i < gZ m k → u.2.2.1 i = nI (gV m w k i)) ∧ (∀ i, i < gZ m k → u.2.2.2 k i = if gY m w k i = true then nI 0 else nI 1) ∧ ∀ j, j ≠ k → u.2.2.2 j = pr j) := by
  subst hv h1 h2
  have zhi := @gZ_hi m (by omega) k
  have ze := gZ_e m k
  unfold Lists_makeList
  simp only [Tt_L, i_0, i_1, i_2, i_3, i_4, i_5, i_6, i_7, i_8, i_9, i_10, i_11, i_13, i_14, i_15, i_16, i_17, i_18, i_19, i_24, i_29, i_30, i_31, i_32, i_138, i_143, i_144, i_254, i_255, i_256, i_257, i_258, i_261, i_264, i_265, i_279, i_280, i_284, i_285, i_286, i_288, i_319, i_320, i_338, i_339, i_575, i_576, i_599, i_600, i_4096, i_8191, i_8192, i_8249, i_8250, i_8256, i_9000, i_16384, i_32767, i_32768, i_65520, i_65521, i_65535, i_65536, i_65999, i_66000, i_1300, i_120, i_156]
  rw [n_half (by omega), hsz]
  refine Tt_W7 (fun mm ib it' pr' x4 x5 x6 x7 => ∃ i, ib = it ∧ x4 = nI (gQ m k) ∧ x5 = nI (gL m w k i) ∧ x6 = nI (i - gL m w k i) ∧ x7 = nI i ∧ i ≤ gZ m k ∧ mm = gZ m k - i ∧ (∀ j, j < i → it' j = nI (gV m w k j)) ∧ (∀ j, j < i → pr' k j = if gY m w k j = true then nI 0 else nI 1) ∧ ∀ j, j ≠ k → pr' j = pr j) ?_ 200000 (gZ m k) _ _ _ _ _ _ _ (by omega) ⟨0, rfl, rfl, rfl, rfl, rfl, by omega, rfl, fun j hj => by omega, fun j hj => by omega, fun j _ => rfl⟩
  rintro K mm ib' it' pr' x4 x5 x6 x7 ⟨i, rfl, rfl, rfl, rfl, rfl, hi, rfl, hit', hpr, hpo⟩ ih
  have b0 := @gA_b m (gQ m k) w (gP m w k) i (by omega)
  have l0 := @gA_le m (gQ m k) w (gP m w k) i
  have b0' : gL m w k i ≤ m ∧ i - gL m w k i ≤ gQ m k := b0
  have l0' : gL m w k i ≤ i := l0
  have next : ∀ (y : Bool) (val : Nat) (it2 : Nat → Int32) (pr2 : Nat → Nat → Int32) (a b : Nat), gY m w k i = y → i < gZ m k → val = gV m w k i → it2 = upd it' i (nI val) → pr2 = xup2 pr' k (upd (pr' k) i (if y = true then nI 0 else nI 1)) → a = gL m w k (i + 1) → b = i + 1 - gL m w k (i + 1) → Tt (K ib' it2 pr2 (nI (gQ m k)) (nI a) (nI b) (nI (i + 1))) (fun u => u.1 = nI (gZ m k) ∧ (∀ i, i < gZ m k → u.2.2.1 i = nI (gV m w k i)) ∧ (∀ i, i < gZ m k → u.2.2.2 k i = if gY m w k i = true then nI 0 else nI 1) ∧ ∀ j, j ≠ k → u.2.2.2 j = pr j) := by
    intro y val it2 pr2 a b hy hiz hval h2 h3 h4 h5
    subst h2 h3 h4 h5
    refine ih (gZ m k - (i + 1)) _ _ _ _ _ _ _ (by omega) ⟨i + 1, rfl, rfl, rfl, rfl, rfl, by omega, rfl, fun j hj => ?_, fun j hj => ?_, fun j hj => ?_⟩
    · by_cases e : j = i
      · rw [e, pk_us, hval]
      · rw [pk_un e]; exact hit' j (by omega)
    · have : xup2 pr' k (upd (pr' k) i (if y = true then nI 0 else nI 1)) k = upd (pr' k) i (if y = true then nI 0 else nI 1) := if_pos rfl
      rw [this]
      by_cases e : j = i
      · rw [e, pk_us, hy]
      · rw [pk_un e]; exact hpr j (by omega)
    · have : xup2 pr' k (upd (pr' k) i (if y = true then nI 0 else nI 1)) j = pr' j := if_neg hj
      rw [this]; exact hpo j hj
  unfold Lists_makeList_32
  by_cases z : gZ m k ≤ i
  · have ei : i = gZ m k := by omega
    have ea : gL m w k i = m ∧ i - gL m w k i = gQ m k := by omega
    simp (disch := omega) only [Tt_L, Tt_S, Tt_C, Tt_Z, Tt_R0, Tt_R1, Tt_R2, Tt_R3, Tt_R4, Tt_R5, q10, eq_self, Nat.not_lt_zero, if_true, if_false, i_0, i_1, i_2, i_3, i_4, i_5, i_6, i_7, i_8, i_9, i_10, i_11, i_13, i_14, i_15, i_16, i_17, i_18, i_19, i_24, i_29, i_30, i_31, i_32, i_138, i_143, i_144, i_254, i_255, i_256, i_257, i_258, i_261, i_264, i_265, i_279, i_280, i_284, i_285, i_286, i_288, i_319, i_320, i_338, i_339, i_575, i_576, i_599, i_600, i_4096, i_8191, i_8192, i_8249, i_8250, i_8256, i_9000, i_16384, i_32767, i_32768, i_65520, i_65521, i_65535, i_65536, i_65999, i_66000, i_1300, i_120, i_156, nI_leI, nI_ltI]
    rw [if_neg (by omega), if_neg (by omega), if_pos (by omega)]
    refine ⟨by rw [ei], fun j hj => hit' j (by omega), fun j hj => hpr j (by omega), hpo⟩
  · have sB : (8192 : Nat) * 2 ^ k ≤ 8192 * 2 ^ 14 := Nat.mul_le_mul_left _ (Nat.pow_le_pow_right (by omega) (by omega))
    have sB2 : (8192 : Nat) * 2 ^ 14 = 134217728 := by decide
    have b1 := @gA_b m (gQ m k) w (gP m w k) (i + 1) (by omega)
    have nS : ∀ s0, gY m w k i = true → Tt (Lists_makeList_122 200000 cs (nI k) K ib' it' pr' (nI (gQ m k)) (nI (gL m w k i)) (nI (i - gL m w k i)) (nI i) s0) (fun u => u.1 = nI (gZ m k) ∧ (∀ i, i < gZ m k → u.2.2.1 i = nI (gV m w k i)) ∧ (∀ i, i < gZ m k → u.2.2.2 k i = if gY m w k i = true then nI 0 else nI 1) ∧ ∀ j, j ≠ k → u.2.2.2 j = pr j) := by
      intro s0 hy
      have ea : gL m w k (i + 1) = gL m w k i + 1 := gA_t hy
      have am : gL m w k i < m := by
        have : gA m (gQ m k) w (gP m w k) (i + 1) = gL m w k i + 1 := ea
        omega
      have ev : gV m w k i = w (gL m w k i) := by rw [gV_e]; exact gW_t hy
      have wl := hw _ am
      unfold Lists_makeList_122 Lists_makeList_123 Lists_makeList_148 Lists_makeList_167 Lists_makeList_181 Lists_makeList_196
      simp (disch := omega) only [Tt_L, Tt_S, Tt_C, Tt_Z, Tt_R0, Tt_R1, Tt_R2, Tt_R3, Tt_R4, Tt_R5, q10, eq_self, Nat.not_lt_zero, if_true, if_false, i_0, i_1, i_2, i_3, i_4, i_5, i_6, i_7, i_8, i_9, i_10, i_11, i_13, i_14, i_15, i_16, i_17, i_18, i_19, i_24, i_29, i_30, i_31, i_32, i_138, i_143, i_144, i_254, i_255, i_256, i_257, i_258, i_261, i_264, i_265, i_279, i_280, i_284, i_285, i_286, i_288, i_319, i_320, i_338, i_339, i_575, i_576, i_599, i_600, i_4096, i_8191, i_8192, i_8249, i_8250, i_8256, i_9000, i_16384, i_32767, i_32768, i_65520, i_65521, i_65535, i_65536, i_65999, i_66000, i_1300, i_120, i_156, Tt_N, nI_clamp, nI_add, sx_nar, hcs _ am, nI_eq]
      refine ⟨by omega, by omega, by omega, by omega, ?_⟩
      exact next true (w (gL m w k i)) _ _ _ _ hy (by omega) ev.symm rfl rfl (by omega) (by omega)
    have nP : gY m w k i = false → Tt (Lists_makeList_118 200000 cs (nI k) K ib' it' pr' (nI (gQ m k)) (nI (gL m w k i)) (nI (i - gL m w k i)) (nI i) (nI (gP m w k (i - gL m w k i)))) (fun u => u.1 = nI (gZ m k) ∧ (∀ i, i < gZ m k → u.2.2.1 i = nI (gV m w k i)) ∧ (∀ i, i < gZ m k → u.2.2.2 k i = if gY m w k i = true then nI 0 else nI 1) ∧ ∀ j, j ≠ k → u.2.2.2 j = pr j) := by
      intro hy
      have ea : gL m w k (i + 1) = gL m w k i := gA_f hy
      have ev : gV m w k i = gP m w k (i - gL m w k i) := by rw [gV_e]; exact gW_f hy
      unfold Lists_makeList_118 Lists_makeList_123 Lists_makeList_148 Lists_makeList_167 Lists_makeList_181 Lists_makeList_196
      simp (disch := omega) only [Tt_L, Tt_S, Tt_C, Tt_Z, Tt_R0, Tt_R1, Tt_R2, Tt_R3, Tt_R4, Tt_R5, q10, eq_self, Nat.not_lt_zero, if_true, if_false, i_0, i_1, i_2, i_3, i_4, i_5, i_6, i_7, i_8, i_9, i_10, i_11, i_13, i_14, i_15, i_16, i_17, i_18, i_19, i_24, i_29, i_30, i_31, i_32, i_138, i_143, i_144, i_254, i_255, i_256, i_257, i_258, i_261, i_264, i_265, i_279, i_280, i_284, i_285, i_286, i_288, i_319, i_320, i_338, i_339, i_575, i_576, i_599, i_600, i_4096, i_8191, i_8192, i_8249, i_8250, i_8256, i_9000, i_16384, i_32767, i_32768, i_65520, i_65521, i_65535, i_65536, i_65999, i_66000, i_1300, i_120, i_156, Tt_N, nI_clamp, nI_add, sx_nar, nI_eq]
      refine ⟨by omega, by omega, by omega, ?_⟩
      exact next false (gP m w k (i - gL m w k i)) _ _ _ _ hy (by omega) ev.symm rfl rfl (by omega) (by omega)
    have body : Tt (Lists_makeList_56 200000 (nI m) cs (nI k) K ib' it' pr' (nI (gQ m k)) (nI (gL m w k i)) (nI (i - gL m w k i)) (nI i)) (fun u => u.1 = nI (gZ m k) ∧ (∀ i, i < gZ m k → u.2.2.1 i = nI (gV m w k i)) ∧ (∀ i, i < gZ m k → u.2.2.2 k i = if gY m w k i = true then nI 0 else nI 1) ∧ ∀ j, j ≠ k → u.2.2.2 j = pr j) := by
      unfold Lists_makeList_56 Lists_makeList_88
      by_cases y : gQ m k ≤ i - gL m w k i
      · have hy : gY m w k i = true := decide_eq_true (Or.inl (show i - gL m w k i = gQ m k by omega))
        simp (disch := omega) only [Tt_L, Tt_S, Tt_C, Tt_Z, Tt_R0, Tt_R1, Tt_R2, Tt_R3, Tt_R4, Tt_R5, q10, eq_self, Nat.not_lt_zero, if_true, if_false, i_0, i_1, i_2, i_3, i_4, i_5, i_6, i_7, i_8, i_9, i_10, i_11, i_13, i_14, i_15, i_16, i_17, i_18, i_19, i_24, i_29, i_30, i_31, i_32, i_138, i_143, i_144, i_254, i_255, i_256, i_257, i_258, i_261, i_264, i_265, i_279, i_280, i_284, i_285, i_286, i_288, i_319, i_320, i_338, i_339, i_575, i_576, i_599, i_600, i_4096, i_8191, i_8192, i_8249, i_8250, i_8256, i_9000, i_16384, i_32767, i_32768, i_65520, i_65521, i_65535, i_65536, i_65999, i_66000, i_1300, i_120, i_156, nI_leI]
        rw [if_pos y, if_neg (by omega), if_pos y]
        exact nS _ hy
      · have hq : gQ m k ≤ 287 := by omega
        have pb := gP_b hw k (i - gL m w k i) (by omega)
        have e1 := hit (i - gL m w k i) (by omega)
        simp (disch := omega) only [Tt_L, Tt_S, Tt_C, Tt_Z, Tt_R0, Tt_R1, Tt_R2, Tt_R3, Tt_R4, Tt_R5, q10, eq_self, Nat.not_lt_zero, if_true, if_false, i_0, i_1, i_2, i_3, i_4, i_5, i_6, i_7, i_8, i_9, i_10, i_11, i_13, i_14, i_15, i_16, i_17, i_18, i_19, i_24, i_29, i_30, i_31, i_32, i_138, i_143, i_144, i_254, i_255, i_256, i_257, i_258, i_261, i_264, i_265, i_279, i_280, i_284, i_285, i_286, i_288, i_319, i_320, i_338, i_339, i_575, i_576, i_599, i_600, i_4096, i_8191, i_8192, i_8249, i_8250, i_8256, i_9000, i_16384, i_32767, i_32768, i_65520, i_65521, i_65535, i_65536, i_65999, i_66000, i_1300, i_120, i_156, nI_leI, pk_mul, nI_add, Tt_N, nI_clamp]
        rw [if_neg y]
        refine ⟨by omega, by omega, ?_⟩
        rw [e1]
        by_cases am : m ≤ gL m w k i
        · rw [if_pos am]
          apply nP
          apply decide_eq_false
          rintro (q | q)
          · have : i - gL m w k i = gQ m k := q
            omega
          · have : gL m w k i < m := q.1
            omega
        · rw [if_neg am, hcs _ (by omega)]
          have wl := hw (gL m w k i) (by omega)
          simp (disch := omega) only [Tt_L, Tt_S, Tt_C, Tt_Z, Tt_R0, Tt_R1, Tt_R2, Tt_R3, Tt_R4, Tt_R5, q10, eq_self, Nat.not_lt_zero, if_true, if_false, i_0, i_1, i_2, i_3, i_4, i_5, i_6, i_7, i_8, i_9, i_10, i_11, i_13, i_14, i_15, i_16, i_17, i_18, i_19, i_24, i_29, i_30, i_31, i_32, i_138, i_143, i_144, i_254, i_255, i_256, i_257, i_258, i_261, i_264, i_265, i_279, i_280, i_284, i_285, i_286, i_288, i_319, i_320, i_338, i_339, i_575, i_576, i_599, i_600, i_4096, i_8191, i_8192, i_8249, i_8250, i_8256, i_9000, i_16384, i_32767, i_32768, i_65520, i_65521, i_65535, i_65536, i_65999, i_66000, i_1300, i_120, i_156, nI_leI]
          rw [if_neg y]
          refine ⟨by omega, ?_⟩
          by_cases q : w (gL m w k i) ≤ gP m w k (i - gL m w k i)
          · rw [if_pos q]
            exact nS _ (decide_eq_true (Or.inr ⟨show gL m w k i < m by omega, q⟩))
          · rw [if_neg q]
            apply nP
            apply decide_eq_false
            rintro (q' | q')
            · have : i - gL m w k i = gQ m k := q'
              omega
            · exact q q'.2
    simp (disch := omega) only [Tt_C, Tt_S, i_0, i_1, i_2, i_3, i_4, i_5, i_6, i_7, i_8, i_9, i_10, i_11, i_13, i_14, i_15, i_16, i_17, i_18, i_19, i_24, i_29, i_30, i_31, i_32, i_138, i_143, i_144, i_254, i_255, i_256, i_257, i_258, i_261, i_264, i_265, i_279, i_280, i_284, i_285, i_286, i_288, i_319, i_320, i_338, i_339, i_575, i_576, i_599, i_600, i_4096, i_8191, i_8192, i_8249, i_8250, i_8256, i_9000, i_16384, i_32767, i_32768, i_65520, i_65521, i_65535, i_65536, i_65999, i_66000, i_1300, i_120, i_156, nI_leI, nI_ltI]
    rw [if_neg (by omega)]
    by_cases y : gL m w k i < m
    · rw [if_pos y]; exact body
    · rw [if_neg y, if_neg (by omega)]; exact body
theorem t_addOne {n s : Nat} {c : Nat → Int32} {x : Int32} (hx : x = nI s) (hs : s < n) (hn : n ≤ 339) : Tt (Lists_addOne 200000 n c x) (fun u => u.2 = upd c s (c s + 1)) := by
  subst hx
  unfold Lists_addOne
  simp (disch := omega) only [Tt_L, Tt_S, Tt_C, Tt_Z, Tt_R0, Tt_R1, Tt_R2, Tt_R3, Tt_R4, Tt_R5, q10, eq_self, Nat.not_lt_zero, if_true, if_false, i_0, i_1, i_2, i_3, i_4, i_5, i_6, i_7, i_8, i_9, i_10, i_11, i_13, i_14, i_15, i_16, i_17, i_18, i_19, i_24, i_29, i_30, i_31, i_32, i_138, i_143, i_144, i_254, i_255, i_256, i_257, i_258, i_261, i_264, i_265, i_279, i_280, i_284, i_285, i_286, i_288, i_319, i_320, i_338, i_339, i_575, i_576, i_599, i_600, i_4096, i_8191, i_8192, i_8249, i_8250, i_8256, i_9000, i_16384, i_32767, i_32768, i_65520, i_65521, i_65535, i_65536, i_65999, i_66000, i_1300, i_120, i_156, n_neg, nI_leI, Tt_N, nI_clamp]
  rw [if_neg (by omega)]
  exact ⟨hs, hs, trivial⟩
/-- what the program takes of one list -/
theorem t_take {n m k t : Nat} {w r : Nat → Nat} {pr : Nat → Nat → Int32} {sy c : Nat → Int32} {v x1 x2 : Int32} (hv : v = nI m) (hm1 : 2 ≤ m) (hm : m ≤ 288) (h1 : x1 = nI k) (hk : k < 15) (h2 : x2 = nI t) (ht : t ≤ gZ m k) (hpr : ∀ i, i < gZ m k → pr k i = if gY m w k i = true then nI 0 else nI 1) (hsy : ∀ a, a < m → sy a = nI (r a)) (hr : ∀ a, a < m → r a < n) (hn : n ≤ 339) : Tt (Lists_take 200000 n v pr sy c x1 x2) (fun u => u.1 = nI (2 * (t - gL m w k t)) ∧ ∀ x, u.2 x = c x + nI (gN r (gL m w k t) x)) := by
  subst hv h1 h2
  have zhi := @gZ_hi m (by omega) k
  have ze := gZ_e m k
  unfold Lists_take
  refine Tt_W3 (fun mm c' x4 x5 => ∃ i, x4 = nI (gL m w k i) ∧ x5 = nI i ∧ i ≤ t ∧ mm = t - i ∧ ∀ x, c' x = c x + nI (gN r (gL m w k i) x)) ?_ 200000 t c 0 0 (by omega) ⟨0, rfl, rfl, by omega, rfl, fun x => by
    show c x = c x + nI 0
    rw [nI_0, Int32.add_zero]⟩
  rintro K mm c' x4 x5 ⟨i, rfl, rfl, hi, rfl, hc⟩ ih
  have b0 : gL m w k i ≤ m ∧ i - gL m w k i ≤ gQ m k := @gA_b m (gQ m k) w (gP m w k) i (by omega)
  have l0 : gL m w k i ≤ i := @gA_le m (gQ m k) w (gP m w k) i
  unfold Lists_take_6 Lists_take_55
  by_cases z : t ≤ i
  · have e : i = t := by omega
    subst e
    simp (disch := omega) only [Tt_L, Tt_S, Tt_C, Tt_Z, Tt_R0, Tt_R1, Tt_R2, Tt_R3, Tt_R4, Tt_R5, q10, eq_self, Nat.not_lt_zero, if_true, if_false, i_0, i_1, i_2, i_3, i_4, i_5, i_6, i_7, i_8, i_9, i_10, i_11, i_13, i_14, i_15, i_16, i_17, i_18, i_19, i_24, i_29, i_30, i_31, i_32, i_138, i_143, i_144, i_254, i_255, i_256, i_257, i_258, i_261, i_264, i_265, i_279, i_280, i_284, i_285, i_286, i_288, i_319, i_320, i_338, i_339, i_575, i_576, i_599, i_600, i_4096, i_8191, i_8192, i_8249, i_8250, i_8256, i_9000, i_16384, i_32767, i_32768, i_65520, i_65521, i_65535, i_65536, i_65999, i_66000, i_1300, i_120, i_156, nI_leI, pk_sub, pk_mul]
    rw [if_pos z]
    exact ⟨trivial, hc⟩
  · have b1 : gL m w k (i + 1) ≤ m ∧ i + 1 - gL m w k (i + 1) ≤ gQ m k := @gA_b m (gQ m k) w (gP m w k) (i + 1) (by omega)
    have p0 := hpr i (by omega)
    simp (disch := omega) only [Tt_L, Tt_S, Tt_C, Tt_Z, Tt_R0, Tt_R1, Tt_R2, Tt_R3, Tt_R4, Tt_R5, q10, eq_self, Nat.not_lt_zero, if_true, if_false, i_0, i_1, i_2, i_3, i_4, i_5, i_6, i_7, i_8, i_9, i_10, i_11, i_13, i_14, i_15, i_16, i_17, i_18, i_19, i_24, i_29, i_30, i_31, i_32, i_138, i_143, i_144, i_254, i_255, i_256, i_257, i_258, i_261, i_264, i_265, i_279, i_280, i_284, i_285, i_286, i_288, i_319, i_320, i_338, i_339, i_575, i_576, i_599, i_600, i_4096, i_8191, i_8192, i_8249, i_8250, i_8256, i_9000, i_16384, i_32767, i_32768, i_65520, i_65521, i_65535, i_65536, i_65999, i_66000, i_1300, i_120, i_156, nI_leI, Tt_N, nI_clamp, nI_add]
    rw [if_neg z, if_neg (by omega)]
    refine ⟨by omega, by omega, ?_⟩
    cases hy : gY m w k i with
    | true =>
      have ea : gL m w k (i + 1) = gL m w k i + 1 := gA_t hy
      rw [hy, if_pos rfl] at p0
      rw [p0, if_pos rfl, if_neg (by omega)]
      refine ⟨by omega, ?_⟩
      refine Tt_m (t_addOne (hsy _ (by omega)) (hr _ (by omega)) hn) ?_
      rintro ⟨_, c2⟩ hc2
      dsimp only at hc2 ⊢
      subst hc2
      rw [← ea]
      refine ih (t - (i + 1)) _ _ _ (by omega) ⟨i + 1, rfl, rfl, by omega, rfl, fun x => ?_⟩
      rw [ea]
      show _ = c x + nI (gN r (gL m w k i) x + (if r (gL m w k i) = x then 1 else 0))
      by_cases e : x = r (gL m w k i)
      · rw [e, pk_us, hc, if_pos rfl, ← nI_add, Int32.add_assoc]; rfl
      · rw [pk_un e, hc, if_neg (fun q => e q.symm)]; rfl
    | false =>
      have ea : gL m w k (i + 1) = gL m w k i := gA_f hy
      rw [hy, if_neg Bool.false_ne_true] at p0
      rw [p0, if_neg (by decide)]
      refine ih (t - (i + 1)) _ _ _ (by omega) ⟨i + 1, by rw [ea], rfl, by omega, rfl, fun x => ?_⟩
      rw [ea]; exact hc x
/-- the program's lengths of codes -/
theorem t_fit {n K : Nat} {p c3 cs sy ib it : Nat → Int32} {pr : Nat → Nat → Int32} {c : Nat → Nat} {v x2 : Int32} (hn : n ≤ 288) (hp : ∀ s, s < n → p s = nI (c s)) (hc : ∀ i, c i ≤ 8192) (hK0 : 0 < K) (hK1 : K ≤ 15) (hK : (n - 1) / 2 ^ (K - 1) = 0) (h2 : x2 = nI K) : Tt (Lists_fit 200000 n n p c3 v cs sy ib it pr x2) (fun u => ∀ x, x < n → u.2.1 x = nI (fitL c n K x)) := by
  subst h2
  unfold Lists_fit
  rw [Tt_R1]
  refine Tt_m (t_fill (by omega)) ?_
  rintro ⟨_, c1⟩ hc1
  rw [Tt_R3]
  refine Tt_m (t_sort hn hp (fun i => by have := hc i; omega)) ?_
  rintro ⟨_, v2, cs2, sy2⟩ ⟨q1, q2⟩
  dsimp only at hc1 q1 q2 ⊢
  obtain ⟨o1, o2, o3, o4, o5⟩ := rk_ok c n
  have fe : ∀ x, fitL c n K x = if (rk c n).1 = 0 then 0 else if (rk c n).1 = 1 then (if (rk c n).2 0 = x then 1 else 0) else gH (rk c n).1 (fun a => c ((rk c n).2 a)) (rk c n).2 K x := fun x => rfl
  generalize (rk c n).1 = m at *
  generalize (rk c n).2 = r at *
  subst q1
  have c0 : ∀ x, x < n → c1 x = nI 0 := fun x hx => by
    have := hc1 x
    rw [if_pos hx] at this
    exact this
  unfold Lists_fit_28
  by_cases z1 : m = 1
  · subst z1
    have g1 := (q2 0 (by omega)).2
    have g2 := (o2 0 (by omega)).1
    simp (disch := omega) only [Tt_L, Tt_S, Tt_C, Tt_Z, Tt_R0, Tt_R1, Tt_R2, Tt_R3, Tt_R4, Tt_R5, q10, eq_self, Nat.not_lt_zero, if_true, if_false, i_0, i_1, i_2, i_3, i_4, i_5, i_6, i_7, i_8, i_9, i_10, i_11, i_13, i_14, i_15, i_16, i_17, i_18, i_19, i_24, i_29, i_30, i_31, i_32, i_138, i_143, i_144, i_254, i_255, i_256, i_257, i_258, i_261, i_264, i_265, i_279, i_280, i_284, i_285, i_286, i_288, i_319, i_320, i_338, i_339, i_575, i_576, i_599, i_600, i_4096, i_8191, i_8192, i_8249, i_8250, i_8256, i_9000, i_16384, i_32767, i_32768, i_65520, i_65521, i_65535, i_65536, i_65999, i_66000, i_1300, i_120, i_156, nI_eq, Tt_N, nI_clamp, nI_leI]
    rw [g1]
    refine ⟨by omega, ?_⟩
    refine Tt_m (t_addOne rfl g2 (by omega)) ?_
    rintro ⟨_, c2⟩ hc2
    dsimp only at hc2 ⊢
    subst hc2
    rw [if_neg (by omega)]
    intro x hx
    rw [fe, if_neg (by omega), if_pos rfl]
    by_cases e : x = r 0
    · rw [e, pk_us, c0 _ g2, if_pos rfl]; rfl
    · rw [pk_un e, c0 x hx, if_neg (fun q => e q.symm)]
  · by_cases z2 : m = 0
    · subst z2
      simp (disch := omega) only [Tt_L, Tt_S, Tt_C, Tt_Z, Tt_R0, Tt_R1, Tt_R2, Tt_R3, Tt_R4, Tt_R5, q10, eq_self, Nat.not_lt_zero, if_true, if_false, i_0, i_1, i_2, i_3, i_4, i_5, i_6, i_7, i_8, i_9, i_10, i_11, i_13, i_14, i_15, i_16, i_17, i_18, i_19, i_24, i_29, i_30, i_31, i_32, i_138, i_143, i_144, i_254, i_255, i_256, i_257, i_258, i_261, i_264, i_265, i_279, i_280, i_284, i_285, i_286, i_288, i_319, i_320, i_338, i_339, i_575, i_576, i_599, i_600, i_4096, i_8191, i_8192, i_8249, i_8250, i_8256, i_9000, i_16384, i_32767, i_32768, i_65520, i_65521, i_65535, i_65536, i_65999, i_66000, i_1300, i_120, i_156, nI_eq, nI_leI]
      rw [if_neg (by omega), if_neg (by omega)]
      intro x hx
      rw [fe, if_pos rfl]
      exact c0 x hx
    · have hm2 : 2 ≤ m := by omega
      have hK' : (m - 1) / 2 ^ (K - 1) = 0 := by
        have : (m - 1) / 2 ^ (K - 1) ≤ (n - 1) / 2 ^ (K - 1) := Nat.div_le_div_right (by omega)
        rw [hK] at this
        exact Nat.le_zero.mp this
      have fe' : ∀ x, fitL c n K x = gH m (fun a => c (r a)) r K x := fun x => by rw [fe, if_neg z2, if_neg z1]
      generalize hw : (fun a => c (r a)) = w at *
      have hw1 : ∀ a, a < m → w a ≤ 8192 := fun a _ => by rw [← hw]; exact hc (r a)
      have hcs : ∀ a, a < m → cs2 a = nI (w a) := fun a ha => by rw [← hw]; exact (q2 a ha).1
      have hsy : ∀ a, a < m → sy2 a = nI (r a) := fun a ha => (q2 a ha).2
      simp (disch := omega) only [Tt_L, Tt_S, Tt_C, Tt_Z, Tt_R0, Tt_R1, Tt_R2, Tt_R3, Tt_R4, Tt_R5, q10, eq_self, Nat.not_lt_zero, if_true, if_false, i_0, i_1, i_2, i_3, i_4, i_5, i_6, i_7, i_8, i_9, i_10, i_11, i_13, i_14, i_15, i_16, i_17, i_18, i_19, i_24, i_29, i_30, i_31, i_32, i_138, i_143, i_144, i_254, i_255, i_256, i_257, i_258, i_261, i_264, i_265, i_279, i_280, i_284, i_285, i_286, i_288, i_319, i_320, i_338, i_339, i_575, i_576, i_599, i_600, i_4096, i_8191, i_8192, i_8249, i_8250, i_8256, i_9000, i_16384, i_32767, i_32768, i_65520, i_65521, i_65535, i_65536, i_65999, i_66000, i_1300, i_120, i_156, nI_eq, nI_leI]
      rw [if_neg z1, if_pos hm2]
      refine Tt_W9 (fun mm c3 v cs sy ib it pr x4 x5 => c3 = c1 ∧ v = nI m ∧ cs = cs2 ∧ sy = sy2 ∧ ∃ k, x5 = nI k ∧ k ≤ K ∧ mm = K - k ∧ x4 = nI (if k = 0 then 0 else gZ m (k - 1)) ∧ (∀ i, 0 < k → i < gZ m (k - 1) → it i = nI (gV m w (k - 1) i)) ∧ ∀ l, l < k → ∀ i, i < gZ m l → pr l i = if gY m w l i = true then nI 0 else nI 1) ?_ 200000 K _ _ _ _ _ _ _ _ _ (by omega) ⟨rfl, rfl, rfl, rfl, 0, rfl, by omega, rfl, rfl, fun i h => by omega, fun l h => by omega⟩
      rintro KK mm c3 v cs sy ib it pr x4 x5 ⟨rfl, rfl, rfl, rfl, k, rfl, hk, rfl, rfl, hit, hpr⟩ ih
      unfold Lists_fit_43
      by_cases z : K ≤ k
      · have ek : k = K := by omega
        subst ek
        simp (disch := omega) only [Tt_C, Tt_S, nI_leI]
        rw [if_pos z]
        unfold Lists_fit_72
        have e15 : (if (15 : Int32) < nI k then (15 : Int32) else nI k) - 1 = nI (k - 1) := by
          rw [if_neg (by rw [i_15, nI_ltI (by omega) (by omega)]; omega)]
          exact n_pred (by omega)
        have e2m : (2 : Int32) * nI m - 2 = nI (2 * m - 2) := by
          rw [i_2, pk_mul, pk_sub (by omega)]
        simp only [Tt_L, e15, e2m]
        refine Tt_W9 (fun mm c3' v cs' sy' ib' it' pr' x5 x6 => v = nI m ∧ cs' = cs ∧ sy' = sy ∧ pr' = pr ∧ ∃ j, j ≤ k ∧ mm = k - j ∧ x6 = nI (k - j) - 1 ∧ x5 = nI (gT m w k j) ∧ ∀ x, c3' x = c3 x + nI (sm (fun j => gN r (gL m w (k - 1 - j) (gT m w k j)) x) j)) ?_ 200000 k _ _ _ _ _ _ _ _ _ (by omega) ⟨rfl, rfl, rfl, rfl, 0, by omega, rfl, (pk_sub (by omega)).symm, rfl, fun x => by
          show c3 x = c3 x + nI 0
          rw [nI_0, Int32.add_zero]⟩
        rintro K3 mm c3' v cs' sy' ib' it' pr' x5 x6 ⟨rfl, rfl, rfl, rfl, j, hj, rfl, rfl, rfl, hcx⟩ ih3
        unfold Lists_fit_92
        by_cases y : j = k
        · subst y
          simp only [Tt_C, Tt_S]
          rw [if_pos (by rw [Nat.sub_self]; decide)]
          intro x hx
          rw [fe']
          have := hcx x
          rw [c0 x hx, nI_add, Nat.zero_add] at this
          exact this
        · have e1 : nI (k - j) - 1 = nI (k - 1 - j) := by rw [i_1, pk_sub (by omega)]; exact congrArg nI (by omega)
          rw [e1]
          simp (disch := omega) only [Tt_C, Tt_S, i_0, i_1, i_2, i_3, i_4, i_5, i_6, i_7, i_8, i_9, i_10, i_11, i_13, i_14, i_15, i_16, i_17, i_18, i_19, i_24, i_29, i_30, i_31, i_32, i_138, i_143, i_144, i_254, i_255, i_256, i_257, i_258, i_261, i_264, i_265, i_279, i_280, i_284, i_285, i_286, i_288, i_319, i_320, i_338, i_339, i_575, i_576, i_599, i_600, i_4096, i_8191, i_8192, i_8249, i_8250, i_8256, i_9000, i_16384, i_32767, i_32768, i_65520, i_65521, i_65535, i_65536, i_65999, i_66000, i_1300, i_120, i_156, n_neg, Nat.not_lt_zero, if_false]
          rw [Tt_R1]
          refine Tt_m (t_take (w := w) (r := r) (k := k - 1 - j) (t := gT m w k j) rfl hm2 (by omega) rfl (by omega) rfl (gT_le (by omega) hK' j (by omega)) (hpr _ (by omega)) hsy (fun a ha => (o2 a ha).1) (by omega)) ?_
          rintro ⟨x', c4⟩ ⟨g1, g2⟩
          dsimp only at g1 g2 ⊢
          subst g1
          simp only [Tt_L]
          refine ih3 (k - (j + 1)) _ _ _ _ _ _ _ _ _ (by omega) ⟨rfl, rfl, rfl, rfl, j + 1, by omega, rfl, ?_, rfl, fun x => ?_⟩
          · show nI (k - 1 - j) + -nI 1 = nI (k - (j + 1)) - nI 1
            rw [show k - (j + 1) = k - 1 - j by omega, Int32.sub_eq_add_neg]
          · rw [g2 x, hcx x, Int32.add_assoc, nI_add]; rfl
      · simp (disch := omega) only [Tt_C, Tt_S, i_0, i_1, i_2, i_3, i_4, i_5, i_6, i_7, i_8, i_9, i_10, i_11, i_13, i_14, i_15, i_16, i_17, i_18, i_19, i_24, i_29, i_30, i_31, i_32, i_138, i_143, i_144, i_254, i_255, i_256, i_257, i_258, i_261, i_264, i_265, i_279, i_280, i_284, i_285, i_286, i_288, i_319, i_320, i_338, i_339, i_575, i_576, i_599, i_600, i_4096, i_8191, i_8192, i_8249, i_8250, i_8256, i_9000, i_16384, i_32767, i_32768, i_65520, i_65521, i_65535, i_65536, i_65999, i_66000, i_1300, i_120, i_156, nI_leI]
        rw [if_neg z, if_neg (by omega), Tt_R3]
        have hzz : (if k = 0 then 0 else gZ m (k - 1)) / 2 = gQ m k := by
          cases k with
          | zero => rw [if_pos rfl]; rfl
          | succ k => rw [if_neg (by omega), Nat.add_sub_cancel]; rfl
        have hz2 : (if k = 0 then 0 else gZ m (k - 1)) < 576 := by
          have := @gZ_hi m (by omega) (k - 1)
          split <;> omega
        refine Tt_m (t_makeList (w := w) (k := k) rfl hm2 (by omega) rfl (by omega) rfl hzz hz2 hw1 hcs (fun b hb => ?_)) ?_
        · cases k with
          | zero => exact absurd hb (Nat.not_lt_zero b)
          | succ k =>
            have q : gQ m (k + 1) = gZ m k / 2 := rfl
            have h3 := hit (2 * b) (by omega) (by rw [Nat.add_sub_cancel]; omega)
            have h4 := hit (2 * b + 1) (by omega) (by rw [Nat.add_sub_cancel]; omega)
            rw [Nat.add_sub_cancel] at h3 h4
            rw [h3, h4, nI_add]
            rfl
        · rintro ⟨r1, ib2, it2, pr2⟩ ⟨g1, g2, g3, g4⟩
          dsimp only at g1 g2 g3 g4 ⊢
          subst g1
          simp only [Tt_L, nI_add]
          refine ih (K - (k + 1)) _ _ _ _ _ _ _ _ _ (by omega) ⟨rfl, rfl, rfl, rfl, k + 1, rfl, by omega, rfl, ?_, fun i _ hi => ?_, fun l hl i hi => ?_⟩
          · rw [if_neg (by omega), Nat.add_sub_cancel]
          · rw [Nat.add_sub_cancel] at hi ⊢
            exact g2 i hi
          · by_cases e : l = k
            · subst e; exact g3 i hi
            · rw [g4 l e]; exact hpr l (by omega) i hi
/-! lengths of codes: the reference -/
theorem t_rank {a n : Nat} {counts ranked : Nat → Int32} {c : Nat → Nat} {x1 x2 : Int32} (h1 : x1 = nI a) (h2 : x2 = nI n) (hn : n ≤ 288) (han : a + n ≤ 339) (hp : ∀ s, s < n → counts (a + s) = nI (c s)) (hc : ∀ i, c i < 2 ^ 30) : Tt (M_rank 200000 counts ranked x1 x2) (fun u => u.1 = nI (rk c n).1 ∧ ∀ z, z < (rk c n).1 → u.2 z = nI ((rk c n).2 z)) := by
  subst h1 h2
  unfold M_rank
  refine Tt_W3 (fun mm ranked x3 x4 => ∃ s, x4 = nI s ∧ s ≤ n ∧ mm = n - s ∧ x3 = nI (rk c s).1 ∧ ∀ z, z < (rk c s).1 → ranked z = nI ((rk c s).2 z)) ?_ 200000 n ranked 0 0 (by omega) ⟨0, rfl, by omega, rfl, rfl, fun z hz => absurd hz (Nat.not_lt_zero z)⟩
  rintro K mm ranked x3 x4 ⟨s, rfl, hs, rfl, rfl, hR⟩ ih
  obtain ⟨ok, ok2, _⟩ := rk_ok c s
  unfold M_rank_5
  by_cases z : n ≤ s
  · simp only [Tt_C, Tt_S]
    rw [if_pos (by rw [nI_leI (by omega) (by omega)]; exact z)]
    rw [show n = s by omega]
    exact ⟨rfl, hR⟩
  · have e := hp s (by omega)
    have c1 := hc s
    simp (disch := omega) only [Tt_L, Tt_S, Tt_C, Tt_Z, Tt_R0, Tt_R1, Tt_R2, Tt_R3, Tt_R4, Tt_R5, q10, eq_self, Nat.not_lt_zero, if_true, if_false, i_0, i_1, i_2, i_3, i_4, i_5, i_6, i_7, i_8, i_9, i_10, i_11, i_13, i_14, i_15, i_16, i_17, i_18, i_19, i_24, i_29, i_30, i_31, i_32, i_138, i_143, i_144, i_254, i_255, i_256, i_257, i_258, i_261, i_264, i_265, i_279, i_280, i_284, i_285, i_286, i_288, i_319, i_320, i_338, i_339, i_575, i_576, i_599, i_600, i_4096, i_8191, i_8192, i_8249, i_8250, i_8256, i_9000, i_16384, i_32767, i_32768, i_65520, i_65521, i_65535, i_65536, i_65999, i_66000, i_1300, i_120, i_156, nI_leI, Tt_N, nI_clamp, e, nI_add]
    rw [if_neg z]
    refine ⟨by omega, ?_⟩
    by_cases y : c s ≤ 0
    · rw [if_pos y]
      unfold M_rank_93
      have e1 : rk c (s + 1) = rk c s := if_neg (by omega)
      simp only [Tt_L, i_0, i_1, i_2, i_3, i_4, i_5, i_6, i_7, i_8, i_9, i_10, i_11, i_13, i_14, i_15, i_16, i_17, i_18, i_19, i_24, i_29, i_30, i_31, i_32, i_138, i_143, i_144, i_254, i_255, i_256, i_257, i_258, i_261, i_264, i_265, i_279, i_280, i_284, i_285, i_286, i_288, i_319, i_320, i_338, i_339, i_575, i_576, i_599, i_600, i_4096, i_8191, i_8192, i_8249, i_8250, i_8256, i_9000, i_16384, i_32767, i_32768, i_65520, i_65521, i_65535, i_65536, i_65999, i_66000, i_1300, i_120, i_156, nI_add]
      refine ih (n - (s + 1)) _ _ _ (by omega) ⟨s + 1, rfl, by omega, rfl, ?_, ?_⟩
      · rw [e1]
      · rw [e1]; exact hR
    · rw [if_neg y]
      have e1 : rk c (s + 1) = ((rk c s).1 + 1, rkI (rk c s).2 (rkP c (rk c s).2 (c s) (rk c s).1) s) := if_pos (by omega)
      have fin : ∀ ranked', (∀ z, z < (rk c s).1 + 1 → ranked' z = nI (rkI (rk c s).2 (rkP c (rk c s).2 (c s) (rk c s).1) s z)) → Tt (K ranked' (nI ((rk c s).1 + 1)) (nI (s + 1))) (fun u => u.1 = nI (rk c n).1 ∧ ∀ z, z < (rk c n).1 → u.2 z = nI ((rk c n).2 z)) := by
        intro ranked' h
        refine ih (n - (s + 1)) _ _ _ (by omega) ⟨s + 1, rfl, by omega, rfl, ?_, ?_⟩
        · rw [e1]
        · rw [e1]; exact h
      generalize (rk c s).1 = m at *
      generalize (rk c s).2 = r at *
      refine Tt_W4 (fun k' ranked x3 x4 x5 => ∃ k, x3 = nI m ∧ x4 = nI s ∧ x5 = nI k ∧ k = k' ∧ k ≤ m ∧ rkP c r (c s) m = rkP c r (c s) k ∧ (∀ j, j < k → ranked j = nI (r j)) ∧ ∀ j, k < j → j ≤ m → ranked j = nI (r (j - 1))) ?_ 200000 m ranked _ _ _ (by omega) ⟨m, rfl, rfl, rfl, rfl, Nat.le_refl m, rfl, hR, fun j a b => by omega⟩
      rintro K2 k' ranked x3 x4 x5 ⟨k, rfl, rfl, rfl, rfl, hk, hP, hlo, hhi⟩ ih2
      have fin2 : rkP c r (c s) k = k → Tt (M_rank_81 200000 K ranked (nI m) (nI s) (nI k)) (fun u => u.1 = nI (rk c n).1 ∧ ∀ z, z < (rk c n).1 → u.2 z = nI ((rk c n).2 z)) := by
        intro e
        unfold M_rank_81 M_rank_93
        simp (disch := omega) only [Tt_L, Tt_S, Tt_C, Tt_Z, Tt_R0, Tt_R1, Tt_R2, Tt_R3, Tt_R4, Tt_R5, q10, eq_self, Nat.not_lt_zero, if_true, if_false, i_0, i_1, i_2, i_3, i_4, i_5, i_6, i_7, i_8, i_9, i_10, i_11, i_13, i_14, i_15, i_16, i_17, i_18, i_19, i_24, i_29, i_30, i_31, i_32, i_138, i_143, i_144, i_254, i_255, i_256, i_257, i_258, i_261, i_264, i_265, i_279, i_280, i_284, i_285, i_286, i_288, i_319, i_320, i_338, i_339, i_575, i_576, i_599, i_600, i_4096, i_8191, i_8192, i_8249, i_8250, i_8256, i_9000, i_16384, i_32767, i_32768, i_65520, i_65521, i_65535, i_65536, i_65999, i_66000, i_1300, i_120, i_156, Tt_N, nI_clamp, nI_add]
        refine ⟨by omega, fin _ (fun z hz => ?_)⟩
        rw [hP, e]
        unfold rkI
        by_cases w : z = k
        · rw [w, pk_us, if_neg (by omega), if_pos rfl]
        · rw [pk_un w]
          by_cases y : z < k
          · rw [if_pos y]; exact hlo z y
          · rw [if_neg y, if_neg w]; exact hhi z (by omega) (by omega)
      unfold M_rank_26
      by_cases z0 : k = 0
      · simp only [Tt_C, Tt_S]
        rw [if_pos (by rw [z0]; decide)]
        exact fin2 (by rw [z0]; rfl)
      · have e2 : nI k - nI 1 = nI (k - 1) := pk_sub (by omega)
        have l1 := hlo (k - 1) (by omega)
        have l2 := (ok2 (k - 1) (by omega)).1
        have l3 := hp (r (k - 1)) (by omega)
        have c3 := hc (r (k - 1))
        simp (disch := omega) only [Tt_L, Tt_S, Tt_C, Tt_Z, Tt_R0, Tt_R1, Tt_R2, Tt_R3, Tt_R4, Tt_R5, q10, eq_self, Nat.not_lt_zero, if_true, if_false, i_0, i_1, i_2, i_3, i_4, i_5, i_6, i_7, i_8, i_9, i_10, i_11, i_13, i_14, i_15, i_16, i_17, i_18, i_19, i_24, i_29, i_30, i_31, i_32, i_138, i_143, i_144, i_254, i_255, i_256, i_257, i_258, i_261, i_264, i_265, i_279, i_280, i_284, i_285, i_286, i_288, i_319, i_320, i_338, i_339, i_575, i_576, i_599, i_600, i_4096, i_8191, i_8192, i_8249, i_8250, i_8256, i_9000, i_16384, i_32767, i_32768, i_65520, i_65521, i_65535, i_65536, i_65999, i_66000, i_1300, i_120, i_156, nI_leI, Tt_N, nI_clamp, e2, l1, l3, e, nI_add, n_dec2]
        rw [if_neg (by omega)]
        refine ⟨by omega, by omega, by omega, ?_⟩
        have ek : k = (k - 1) + 1 := by omega
        by_cases y : c (r (k - 1)) ≤ c s
        · rw [if_pos y]
          apply fin2
          conv => lhs; rw [ek]
          show (if c s < c (r (k - 1)) then rkP c r (c s) (k - 1) else k - 1 + 1) = k
          rw [if_neg (by omega)]
          omega
        · rw [if_neg y]
          refine ⟨by omega, by omega, ih2 (k - 1) _ _ _ _ (by omega) ⟨k - 1, rfl, rfl, rfl, rfl, by omega, ?_, fun j hj => ?_, fun j a b => ?_⟩⟩
          · rw [hP]
            conv => lhs; rw [ek]
            show (if c s < c (r (k - 1)) then rkP c r (c s) (k - 1) else k - 1 + 1) = _
            rw [if_pos (by omega)]
          · rw [pk_un (by omega)]; exact hlo j (by omega)
          · by_cases w : j = k
            · rw [w, pk_us]
            · rw [pk_un w]; exact hhi j (by omega) b
theorem n_it1 (x : Int32) : -1 - (-1 - x) = x := by grind
theorem n_it2 (x : Int32) : -(-1 - x) = x + 1 := by grind
theorem n_it3 (x : Int32) : -1 - x = 0 - (x + 1) := by grind
theorem takeR_eq (F : Nat) (c_items : Nat → Int32) (c_ranked : Nat → Int32) (k_rec : (Nat → Int32) → Int32 → Int32 → Int32 → Option (Unit × (Nat → Int32))) (c_lengths : Nat → Int32) (x1 : Int32) (x2 : Int32) (x3 : Int32) : M_takeItem_r F c_items c_ranked k_rec c_lengths x1 x2 x3 = mL ((600 * x2) + x3) fun i_1 => mG i_1 9000 (mL (c_items i_1.toNatClampNeg) fun y4_2 => mC (y4_2 < 0) (mL ((-1) - y4_2) fun t_3 => mL (x2 - 1) fun t_4 => mR1 (k_rec c_lengths x1 t_4 t_3) fun _ c_lengths_5 => mL (-y4_2) fun t_7 => mL (x2 - 1) fun t_8 => mR1 (k_rec c_lengths_5 x1 t_8 t_7) fun _ c_lengths_9 => some ((), c_lengths_9)) (mG y4_2 288 (mL (x1 + (c_ranked y4_2.toNatClampNeg)) fun t_11 => mG t_11 339 (mL ((c_lengths t_11.toNatClampNeg) + 1) fun v_12 => mG t_11 339 (mL (upd c_lengths t_11.toNatClampNeg v_12) fun c_13 => some ((), c_13)))))) := rfl
/-- an item of the reference's lists -/
def itm (m : Nat) (w : Nat → Nat) (k i : Nat) : Int32 := if gY m w k i = true then nI (gL m w k i) else -1 - nI (2 * (i - gL m w k i))
theorem t_takeItem {m a K : Nat} {w r : Nat → Nat} {items ranked : Nat → Int32} (hm1 : 2 ≤ m) (hm : m ≤ 288) (hK : K ≤ 15) (hI : ∀ k i, k < K → i < gZ m k → items (600 * k + i) = itm m w k i) (hr : ∀ z, z < m → ranked z = nI (r z)) (ha : ∀ z, z < m → a + r z < 339) : ∀ k i fuel (lens : Nat → Int32), k < K → i < gZ m k → k < fuel → Tt (mW4 (M_takeItem_r 200000 items ranked) fuel lens (nI a) (nI k) (nI i)) (fun u => ∀ j, u.2 j = lens j + nI (gD m w (fun z => a + r z) j k i)) := by
  intro k
  induction k with
  | zero =>
    intro i fuel lens hk hi hf
    obtain ⟨f, rfl⟩ : ∃ f, fuel = f + 1 := ⟨fuel - 1, by omega⟩
    have hi' : i < m := hi
    have gl := gL0 m w i
    have gy : gY m w 0 i = true := by
      apply decide_eq_true
      left
      have : gA m (gQ m 0) w (gP m w 0) i = i := gl
      rw [this]
      exact Nat.sub_self i
    have e0 := hI 0 i hk hi
    unfold itm at e0
    rw [gy, if_pos rfl, gl] at e0
    have ez := hr i hi'
    have az := ha i hi'
    show Tt (M_takeItem_r 200000 items ranked (mW4 (M_takeItem_r 200000 items ranked) f) lens (nI a) (nI 0) (nI i)) _
    rw [takeR_eq]
    simp (disch := omega) only [Tt_L, Tt_S, Tt_C, Tt_Z, Tt_R0, Tt_R1, Tt_R2, Tt_R3, Tt_R4, Tt_R5, q10, eq_self, Nat.not_lt_zero, if_true, if_false, i_0, i_1, i_2, i_3, i_4, i_5, i_6, i_7, i_8, i_9, i_10, i_11, i_13, i_14, i_15, i_16, i_17, i_18, i_19, i_24, i_29, i_30, i_31, i_32, i_138, i_143, i_144, i_254, i_255, i_256, i_257, i_258, i_261, i_264, i_265, i_279, i_280, i_284, i_285, i_286, i_288, i_319, i_320, i_338, i_339, i_575, i_576, i_599, i_600, i_4096, i_8191, i_8192, i_8249, i_8250, i_8256, i_9000, i_16384, i_32767, i_32768, i_65520, i_65521, i_65535, i_65536, i_65999, i_66000, i_1300, i_120, i_156, pk_mul, nI_add, Tt_N, nI_clamp, e0, n_neg, ez]
    refine ⟨by omega, by omega, by omega, by omega, fun j => ?_⟩
    have eD : gD m w (fun z => a + r z) j 0 i = if a + r (gL m w 0 i) = j then 1 else 0 := rfl
    rw [eD, gl]
    by_cases q : j = a + r i
    · rw [q, pk_us, if_pos rfl]
    · rw [pk_un q, if_neg (fun z => q z.symm), nI_0, Int32.add_zero]
  | succ k ih =>
    intro i fuel lens hk hi hf
    obtain ⟨f, rfl⟩ : ∃ f, fuel = f + 1 := ⟨fuel - 1, by omega⟩
    have zhi := @gZ_hi m (by omega) (k + 1)
    have ze := gZ_e m (k + 1)
    have b1 : gL m w (k + 1) (i + 1) ≤ m ∧ i + 1 - gL m w (k + 1) (i + 1) ≤ gQ m (k + 1) := @gA_b m (gQ m (k + 1)) w (gP m w (k + 1)) (i + 1) (by omega)
    have l0 : gL m w (k + 1) i ≤ i := @gA_le m (gQ m (k + 1)) w (gP m w (k + 1)) i
    have e0 := hI (k + 1) i hk hi
    unfold itm at e0
    have eD : ∀ j, gD m w (fun z => a + r z) j (k + 1) i = if gY m w (k + 1) i = true then (if a + r (gL m w (k + 1) i) = j then 1 else 0) else gD m w (fun z => a + r z) j k (2 * (i - gL m w (k + 1) i)) + gD m w (fun z => a + r z) j k (2 * (i - gL m w (k + 1) i) + 1) := fun j => rfl
    show Tt (M_takeItem_r 200000 items ranked (mW4 (M_takeItem_r 200000 items ranked) f) lens (nI a) (nI (k + 1)) (nI i)) _
    rw [takeR_eq]
    cases gy : gY m w (k + 1) i with
    | true =>
      have ea : gL m w (k + 1) (i + 1) = gL m w (k + 1) i + 1 := gA_t gy
      rw [gy, if_pos rfl] at e0
      have ez := hr (gL m w (k + 1) i) (by omega)
      have az := ha (gL m w (k + 1) i) (by omega)
      simp (disch := omega) only [Tt_L, Tt_S, Tt_C, Tt_Z, Tt_R0, Tt_R1, Tt_R2, Tt_R3, Tt_R4, Tt_R5, q10, eq_self, Nat.not_lt_zero, if_true, if_false, i_0, i_1, i_2, i_3, i_4, i_5, i_6, i_7, i_8, i_9, i_10, i_11, i_13, i_14, i_15, i_16, i_17, i_18, i_19, i_24, i_29, i_30, i_31, i_32, i_138, i_143, i_144, i_254, i_255, i_256, i_257, i_258, i_261, i_264, i_265, i_279, i_280, i_284, i_285, i_286, i_288, i_319, i_320, i_338, i_339, i_575, i_576, i_599, i_600, i_4096, i_8191, i_8192, i_8249, i_8250, i_8256, i_9000, i_16384, i_32767, i_32768, i_65520, i_65521, i_65535, i_65536, i_65999, i_66000, i_1300, i_120, i_156, pk_mul, nI_add, Tt_N, nI_clamp, e0, n_neg, ez]
      refine ⟨by omega, by omega, by omega, by omega, fun j => ?_⟩
      rw [eD, gy, if_pos rfl]
      by_cases q : j = a + r (gL m w (k + 1) i)
      · rw [q, pk_us, if_pos rfl]
      · rw [pk_un q, if_neg (fun z => q z.symm), nI_0, Int32.add_zero]
    | false =>
      have ea : gL m w (k + 1) (i + 1) = gL m w (k + 1) i := gA_f gy
      rw [gy, if_neg Bool.false_ne_true] at e0
      have q1 : gQ m (k + 1) = gZ m k / 2 := rfl
      generalize hb : i - gL m w (k + 1) i = b at *
      have neg : (-1 - nI (2 * b) : Int32) < 0 := by
        rw [n_it3, nI_1]
        exact pk_sneg (a := 0) (by omega) (by omega)
      have t1 : (-1 : Int32) - (-1 - nI (2 * b)) = nI (2 * b) := n_it1 _
      have t2 : -(-1 - nI (2 * b)) = nI (2 * b + 1) := by rw [n_it2, nI_1]
      have t3 : nI (k + 1) - 1 = nI k := nI_pred k
      have t4 : (600 : Int32) * nI (k + 1) + nI i = nI (600 * (k + 1) + i) := by rw [i_600, pk_mul, nI_add]
      simp only [Tt_L, t4]
      rw [Tt_N (by omega), nI_clamp (by omega), e0]
      simp only [Tt_C, Tt_S, Tt_L, if_pos neg, t1, t2, t3]
      refine ⟨by omega, Tt_R1.mpr ?_⟩
      refine Tt_m (ih (2 * b) f lens (by omega) (by omega) (by omega)) ?_
      rintro ⟨_, l2⟩ h2
      simp only [Tt_L]
      refine Tt_R1.mpr ?_
      refine Tt_m (ih (2 * b + 1) f l2 (by omega) (by omega) (by omega)) ?_
      rintro ⟨_, l3⟩ h3
      refine Tt_Si ?_
      intro j
      have h2' := h2 j
      have h3' := h3 j
      dsimp only at h2' h3' ⊢
      rw [eD, gy, if_neg Bool.false_ne_true, h3', h2', Int32.add_assoc, nI_add]
theorem t_find309 {m a K : Nat} {w r : Nat → Nat} {items ranked lens weight wb : Nat → Int32} (hm : m ≤ 288) (hK0 : 0 < K) (hK : K ≤ 15) (hK' : (m - 1) / 2 ^ (K - 1) = 0) (hI : ∀ k i, k < K → i < gZ m k → items (600 * k + i) = itm m w k i) (hr : ∀ z, z < m → ranked z = nI (r z)) (ha : ∀ z, z < m → a + r z < 339) : Tt (M_findLengths_309 200000 (nI a) (nI K) ranked lens weight wb items (nI m)) (fun u => ∀ j, u.2.2.1 j = lens j + nI (if m ≤ 1 then 0 else gH m w (fun z => a + r z) K j)) := by
  unfold M_findLengths_309
  by_cases z : m ≤ 1
  · have e : mW7 (M_findLengths_312 200000 (nI a) (nI K)) 200000 ranked lens weight wb items (nI m) 0 = some ((), ranked, lens, weight, wb, items) := by
      show M_findLengths_312 200000 (nI a) (nI K) (mW7 (M_findLengths_312 200000 (nI a) (nI K)) 199999) ranked lens weight wb items (nI m) 0 = _
      have : m = 0 ∨ m = 1 := by omega
      rcases this with rfl | rfl
      · unfold M_findLengths_312 mC
        rw [if_pos (by decide)]
      · unfold M_findLengths_312 mC
        rw [if_pos (by decide)]
    rw [e]
    refine Tt_Si ?_
    intro j
    rw [if_pos z, nI_0, Int32.add_zero]
  · refine Tt_W7 (fun mm ra le we wb' it x4 x6 => ra = ranked ∧ we = weight ∧ wb' = wb ∧ it = items ∧ x4 = nI m ∧ ∃ i, x6 = nI i ∧ i ≤ 2 * m - 2 ∧ mm = 2 * m - 2 - i ∧ ∀ j, le j = lens j + nI (sm (gD m w (fun z => a + r z) j (K - 1)) i)) ?_ 200000 (2 * m - 2) _ _ _ _ _ _ _ (by omega) ⟨rfl, rfl, rfl, rfl, rfl, 0, rfl, by omega, rfl, fun j => by
      show lens j = lens j + nI 0
      rw [nI_0, Int32.add_zero]⟩
    rintro K2 mm ra le we wb' it x4 x6 ⟨rfl, rfl, rfl, rfl, rfl, i, rfl, hi, rfl, hl⟩ ih
    have e2m : (2 : Int32) * nI m - 2 = nI (2 * m - 2) := by rw [i_2, pk_mul, pk_sub (by omega)]
    unfold M_findLengths_312
    simp only [Tt_C, Tt_S, e2m]
    by_cases y : 2 * m - 2 ≤ i
    · rw [if_pos (by rw [nI_leI (by omega) (by omega)]; exact y)]
      intro j
      rw [if_neg z, ← gD_H m w _ j K hK0]
      have : i = 2 * m - 2 := by omega
      rw [← this]
      exact hl j
    · rw [if_neg (by rw [nI_leI (by omega) (by omega)]; exact y), if_neg (by rw [i_1, nI_leI (by omega) (by omega)]; exact z)]
      have zl := @gZ_lo m (by omega) (K - 1)
      have e1 : nI K - 1 = nI (K - 1) := n_pred (by omega)
      simp only [Tt_L, e1]
      unfold M_takeItem
      rw [Tt_R1]
      refine Tt_m (t_takeItem (by omega) hm hK hI hr ha (K - 1) i 16 le (by omega) (by omega) (by omega)) ?_
      rintro ⟨_, l2⟩ h2
      simp only [Tt_L, nI_1]
      refine ih (2 * m - 2 - (i + 1)) _ _ _ _ _ _ _ (by omega) ⟨rfl, rfl, rfl, rfl, rfl, i + 1, rfl, by omega, rfl, fun j => ?_⟩
      have := h2 j
      dsimp only at this ⊢
      rw [this, hl j, Int32.add_assoc, nI_add]
      rfl
abbrev FlR := Option (Unit × (Nat → Int32) × (Nat → Int32) × (Nat → Int32) × (Nat → Int32) × (Nat → Int32))
theorem t_mlist {m a k : Nat} {w r : Nat → Nat} {counts items ranked lens weight wb : Nat → Int32} {k273 : (Nat → Int32) → (Nat → Int32) → (Nat → Int32) → (Nat → Int32) → (Nat → Int32) → Int32 → Int32 → Int32 → FlR} {Q : Unit × (Nat → Int32) × (Nat → Int32) × (Nat → Int32) × (Nat → Int32) × (Nat → Int32) → Prop} (hm1 : 2 ≤ m) (hm : m ≤ 288) (hk : k < 15) (hr : ∀ z, z < m → ranked z = nI (r z)) (ha : ∀ z, z < m → a + r z < 339) (hcs : ∀ z, z < m → counts (a + r z) = nI (w z)) (hw : ∀ z, z < m → w z ≤ 8192) (hwb : ∀ b, b < gQ m k → wb (2 * b) + wb (2 * b + 1) = nI (gP m w k b)) (hQ : ∀ weight' items', (∀ i, i < gZ m k → weight' i = nI (gV m w k i)) → (∀ i, i < gZ m k → items' (600 * k + i) = itm m w k i) → (∀ j, j < 600 * k → items' j = items j) → Tt (k273 ranked lens weight' wb items' (nI m) (nI (gZ m k)) (nI k)) Q) : Tt (mW11 (M_findLengths_86 200000 counts (nI a) k273) 200000 ranked lens weight wb items (nI m) 0 (nI k) (nI (gQ m k)) 0 0) Q := by
  have zhi := @gZ_hi m (by omega) k
  have ze := gZ_e m k
  refine Tt_W11 (fun mm ra le we wb' it x4 x5 x6 x7 x8 x9 => ra = ranked ∧ le = lens ∧ wb' = wb ∧ x4 = nI m ∧ x6 = nI k ∧ x7 = nI (gQ m k) ∧ ∃ i, x5 = nI i ∧ x8 = nI (gL m w k i) ∧ x9 = nI (i - gL m w k i) ∧ i ≤ gZ m k ∧ mm = gZ m k - i ∧ (∀ j, j < i → we j = nI (gV m w k j)) ∧ (∀ j, j < i → it (600 * k + j) = itm m w k j) ∧ ∀ j, j < 600 * k → it j = items j) ?_ 200000 (gZ m k) _ _ _ _ _ _ _ _ _ _ _ (by omega) ⟨rfl, rfl, rfl, rfl, rfl, rfl, 0, rfl, rfl, rfl, by omega, rfl, fun j hj => by omega, fun j hj => by omega, fun j _ => rfl⟩
  rintro K mm ra le we wb' it x4 x5 x6 x7 x8 x9 ⟨rfl, rfl, rfl, rfl, rfl, rfl, i, rfl, rfl, rfl, hi, rfl, hwe, hit, hio⟩ ih
  have b0 : gL m w k i ≤ m ∧ i - gL m w k i ≤ gQ m k := @gA_b m (gQ m k) w (gP m w k) i (by omega)
  have l0 : gL m w k i ≤ i := @gA_le m (gQ m k) w (gP m w k) i
  unfold M_findLengths_86
  by_cases z : gZ m k ≤ i
  · have ei : i = gZ m k := by omega
    simp (disch := omega) only [Tt_C, Tt_S, nI_leI, nI_ltI]
    rw [if_neg (by omega), if_pos (by omega), ei]
    rw [ei] at hwe hit
    exact hQ _ _ hwe hit hio
  · have b1 : gL m w k (i + 1) ≤ m ∧ i + 1 - gL m w k (i + 1) ≤ gQ m k := @gA_b m (gQ m k) w (gP m w k) (i + 1) (by omega)
    have sB : (8192 : Nat) * 2 ^ k ≤ 8192 * 2 ^ 14 := Nat.mul_le_mul_left _ (Nat.pow_le_pow_right (by omega) (by omega))
    have sB2 : (8192 : Nat) * 2 ^ 14 = 134217728 := by decide
    have next : ∀ (we2 it2 : Nat → Int32) (x8 x9 : Nat), we2 = upd we i (nI (gV m w k i)) → it2 = upd it (600 * k + i) (itm m w k i) → x8 = gL m w k (i + 1) → x9 = i + 1 - gL m w k (i + 1) → Tt (K ra le we2 wb' it2 (nI m) (nI (i + 1)) (nI k) (nI (gQ m k)) (nI x8) (nI x9)) Q := by
      intro we2 it2 x8 x9 h1 h2 h3 h4
      subst h1 h2 h3 h4
      refine ih (gZ m k - (i + 1)) _ _ _ _ _ _ _ _ _ _ _ (by omega) ⟨rfl, rfl, rfl, rfl, rfl, rfl, i + 1, rfl, rfl, rfl, by omega, rfl, fun j hj => ?_, fun j hj => ?_, fun j hj => ?_⟩
      · by_cases e : j = i
        · rw [e, pk_us]
        · rw [pk_un e]; exact hwe j (by omega)
      · by_cases e : j = i
        · rw [e, pk_us]
        · rw [pk_un (by omega)]; exact hit j (by omega)
      · rw [pk_un (by omega)]; exact hio j hj
    have nS : ∀ s0, gY m w k i = true → Tt (M_findLengths_167 200000 counts (nI a) K ra le we wb' it (nI m) (nI i) (nI k) (nI (gQ m k)) (nI (gL m w k i)) (nI (i - gL m w k i)) s0) Q := by
      intro s0 hy
      have ea : gL m w k (i + 1) = gL m w k i + 1 := gA_t hy
      have ev : gV m w k i = w (gL m w k i) := by rw [gV_e]; exact gW_t hy
      have ei : itm m w k i = nI (gL m w k i) := by unfold itm; rw [hy, if_pos rfl]
      have am : gL m w k i < m := by omega
      have e1 := hr _ am
      have e2 := ha _ am
      have e3 := hcs _ am
      unfold M_findLengths_167 M_findLengths_172 M_findLengths_204 M_findLengths_234 M_findLengths_249 M_findLengths_265
      simp (disch := omega) only [Tt_L, Tt_S, Tt_C, Tt_Z, Tt_R0, Tt_R1, Tt_R2, Tt_R3, Tt_R4, Tt_R5, q10, eq_self, Nat.not_lt_zero, if_true, if_false, i_0, i_1, i_2, i_3, i_4, i_5, i_6, i_7, i_8, i_9, i_10, i_11, i_13, i_14, i_15, i_16, i_17, i_18, i_19, i_24, i_29, i_30, i_31, i_32, i_138, i_143, i_144, i_254, i_255, i_256, i_257, i_258, i_261, i_264, i_265, i_279, i_280, i_284, i_285, i_286, i_288, i_319, i_320, i_338, i_339, i_575, i_576, i_599, i_600, i_4096, i_8191, i_8192, i_8249, i_8250, i_8256, i_9000, i_16384, i_32767, i_32768, i_65520, i_65521, i_65535, i_65536, i_65999, i_66000, i_1300, i_120, i_156, Tt_N, nI_clamp, nI_add, pk_mul, e1, e3, nI_eq]
      refine ⟨by omega, by omega, by omega, by omega, ?_⟩
      exact next _ _ _ _ (by rw [ev]) (by rw [ei]) (by omega) (by omega)
    have nP : gY m w k i = false → Tt (M_findLengths_171 200000 counts (nI a) K ra le we wb' it (nI m) (nI i) (nI k) (nI (gQ m k)) (nI (gL m w k i)) (nI (i - gL m w k i)) (nI (gP m w k (i - gL m w k i)))) Q := by
      intro hy
      have ea : gL m w k (i + 1) = gL m w k i := gA_f hy
      have ev : gV m w k i = gP m w k (i - gL m w k i) := by rw [gV_e]; exact gW_f hy
      have ei : itm m w k i = -nI 1 - nI (2 * (i - gL m w k i)) := by unfold itm; rw [hy, if_neg Bool.false_ne_true]; rfl
      unfold M_findLengths_171 M_findLengths_172 M_findLengths_204 M_findLengths_234 M_findLengths_249 M_findLengths_265
      simp (disch := omega) only [Tt_L, Tt_S, Tt_C, Tt_Z, Tt_R0, Tt_R1, Tt_R2, Tt_R3, Tt_R4, Tt_R5, q10, eq_self, Nat.not_lt_zero, if_true, if_false, i_0, i_1, i_2, i_3, i_4, i_5, i_6, i_7, i_8, i_9, i_10, i_11, i_13, i_14, i_15, i_16, i_17, i_18, i_19, i_24, i_29, i_30, i_31, i_32, i_138, i_143, i_144, i_254, i_255, i_256, i_257, i_258, i_261, i_264, i_265, i_279, i_280, i_284, i_285, i_286, i_288, i_319, i_320, i_338, i_339, i_575, i_576, i_599, i_600, i_4096, i_8191, i_8192, i_8249, i_8250, i_8256, i_9000, i_16384, i_32767, i_32768, i_65520, i_65521, i_65535, i_65536, i_65999, i_66000, i_1300, i_120, i_156, Tt_N, nI_clamp, nI_add, pk_mul, nI_eq]
      refine ⟨by omega, by omega, ?_⟩
      exact next _ _ _ _ (by rw [ev]) (by rw [ei]) (by omega) (by omega)
    have body : Tt (M_findLengths_100 200000 counts (nI a) K ra le we wb' it (nI m) (nI i) (nI k) (nI (gQ m k)) (nI (gL m w k i)) (nI (i - gL m w k i))) Q := by
      unfold M_findLengths_100 M_findLengths_132
      by_cases y : gQ m k ≤ i - gL m w k i
      · have hy : gY m w k i = true := decide_eq_true (Or.inl (show i - gL m w k i = gQ m k by omega))
        simp (disch := omega) only [Tt_L, Tt_S, Tt_C, Tt_Z, Tt_R0, Tt_R1, Tt_R2, Tt_R3, Tt_R4, Tt_R5, q10, eq_self, Nat.not_lt_zero, if_true, if_false, i_0, i_1, i_2, i_3, i_4, i_5, i_6, i_7, i_8, i_9, i_10, i_11, i_13, i_14, i_15, i_16, i_17, i_18, i_19, i_24, i_29, i_30, i_31, i_32, i_138, i_143, i_144, i_254, i_255, i_256, i_257, i_258, i_261, i_264, i_265, i_279, i_280, i_284, i_285, i_286, i_288, i_319, i_320, i_338, i_339, i_575, i_576, i_599, i_600, i_4096, i_8191, i_8192, i_8249, i_8250, i_8256, i_9000, i_16384, i_32767, i_32768, i_65520, i_65521, i_65535, i_65536, i_65999, i_66000, i_1300, i_120, i_156, nI_leI, nI_eq]
        rw [if_pos y, if_pos (by omega)]
        exact nS _ hy
      · have pb := gP_b hw k (i - gL m w k i) (by omega)
        have e1 := hwb (i - gL m w k i) (by omega)
        simp (disch := omega) only [Tt_L, Tt_S, Tt_C, Tt_Z, Tt_R0, Tt_R1, Tt_R2, Tt_R3, Tt_R4, Tt_R5, q10, eq_self, Nat.not_lt_zero, if_true, if_false, i_0, i_1, i_2, i_3, i_4, i_5, i_6, i_7, i_8, i_9, i_10, i_11, i_13, i_14, i_15, i_16, i_17, i_18, i_19, i_24, i_29, i_30, i_31, i_32, i_138, i_143, i_144, i_254, i_255, i_256, i_257, i_258, i_261, i_264, i_265, i_279, i_280, i_284, i_285, i_286, i_288, i_319, i_320, i_338, i_339, i_575, i_576, i_599, i_600, i_4096, i_8191, i_8192, i_8249, i_8250, i_8256, i_9000, i_16384, i_32767, i_32768, i_65520, i_65521, i_65535, i_65536, i_65999, i_66000, i_1300, i_120, i_156, nI_leI, pk_mul, nI_add, Tt_N, nI_clamp, nI_eq]
        rw [if_neg y]
        refine ⟨by omega, by omega, ?_⟩
        rw [if_neg (by omega), e1]
        by_cases am : m ≤ gL m w k i
        · rw [if_pos am]
          apply nP
          apply decide_eq_false
          rintro (q | q)
          · have : i - gL m w k i = gQ m k := q
            omega
          · have : gL m w k i < m := q.1
            omega
        · rw [if_neg am]
          have wl := hw (gL m w k i) (by omega)
          have g1 := hr (gL m w k i) (by omega)
          have g2 := ha (gL m w k i) (by omega)
          have g3 := hcs (gL m w k i) (by omega)
          rw [g1]
          simp (disch := omega) only [Tt_L, Tt_S, Tt_C, Tt_Z, Tt_R0, Tt_R1, Tt_R2, Tt_R3, Tt_R4, Tt_R5, q10, eq_self, Nat.not_lt_zero, if_true, if_false, i_0, i_1, i_2, i_3, i_4, i_5, i_6, i_7, i_8, i_9, i_10, i_11, i_13, i_14, i_15, i_16, i_17, i_18, i_19, i_24, i_29, i_30, i_31, i_32, i_138, i_143, i_144, i_254, i_255, i_256, i_257, i_258, i_261, i_264, i_265, i_279, i_280, i_284, i_285, i_286, i_288, i_319, i_320, i_338, i_339, i_575, i_576, i_599, i_600, i_4096, i_8191, i_8192, i_8249, i_8250, i_8256, i_9000, i_16384, i_32767, i_32768, i_65520, i_65521, i_65535, i_65536, i_65999, i_66000, i_1300, i_120, i_156, nI_add, Tt_N, nI_clamp, g3, nI_ltI]
          refine ⟨by omega, by omega, ?_⟩
          by_cases q : gP m w k (i - gL m w k i) < w (gL m w k i)
          · rw [if_pos q]
            apply nP
            apply decide_eq_false
            rintro (q' | q')
            · have : i - gL m w k i = gQ m k := q'
              omega
            · have : w (gL m w k i) ≤ gP m w k (i - gL m w k i) := q'.2
              omega
          · rw [if_neg q]
            exact nS _ (decide_eq_true (Or.inr ⟨show gL m w k i < m by omega, show w (gL m w k i) ≤ gP m w k (i - gL m w k i) by omega⟩))
    simp (disch := omega) only [Tt_C, Tt_S, nI_leI, nI_ltI]
    by_cases y : gL m w k i < m
    · rw [if_pos y]; exact body
    · rw [if_neg y, if_neg (by omega)]; exact body
theorem gH_sh {m a K x : Nat} {w r : Nat → Nat} : gH m w (fun z => a + r z) K (a + x) = gH m w r K x := by
  unfold gH
  apply sm_c
  intro j _
  unfold gN
  apply sm_c
  intro z _
  show (if a + r z = a + x then 1 else 0) = (if r z = x then 1 else 0)
  by_cases e : r z = x
  · rw [if_pos (by rw [e]), if_pos e]
  · rw [if_neg (by omega), if_neg e]
theorem t_find53 {m a n K : Nat} {w r : Nat → Nat} {counts items ranked lens weight wb : Nat → Int32} (hm : m ≤ 288) (hK0 : 0 < K) (hK : K ≤ 15) (hK' : (m - 1) / 2 ^ (K - 1) = 0) (hr : ∀ z, z < m → ranked z = nI (r z)) (ha : ∀ z, z < m → a + r z < 339) (hcs : ∀ z, z < m → counts (a + r z) = nI (w z)) (hw : ∀ z, z < m → w z ≤ 8192) : Tt (M_findLengths_53 200000 counts (nI a) (nI K) ranked lens weight wb items (nI m)) (fun u => ∀ j, u.2.2.1 j = lens j + nI (if m ≤ 1 then 0 else gH m w (fun z => a + r z) K j)) := by
  unfold M_findLengths_53
  by_cases z : m ≤ 1
  · have e : mW8 (M_findLengths_59 200000 counts (nI a) (nI K) (M_findLengths_309 200000 (nI a) (nI K))) 200000 ranked lens weight wb items (nI m) 0 0 = M_findLengths_309 200000 (nI a) (nI K) ranked lens weight wb items (nI m) := by
      show M_findLengths_59 200000 counts (nI a) (nI K) (M_findLengths_309 200000 (nI a) (nI K)) (mW8 (M_findLengths_59 200000 counts (nI a) (nI K) (M_findLengths_309 200000 (nI a) (nI K))) 199999) ranked lens weight wb items (nI m) 0 0 = _
      unfold M_findLengths_59 mC
      rw [if_neg (by rw [i_0, nI_leI (by omega) (by omega)]; omega), if_pos (by rw [i_1, nI_leI (by omega) (by omega)]; exact z)]
    rw [e]
    have e2 : M_findLengths_309 200000 (nI a) (nI K) ranked lens weight wb items (nI m) = some ((), ranked, lens, weight, wb, items) := by
      unfold M_findLengths_309
      show M_findLengths_312 200000 (nI a) (nI K) (mW7 (M_findLengths_312 200000 (nI a) (nI K)) 199999) ranked lens weight wb items (nI m) 0 = _
      have : m = 0 ∨ m = 1 := by omega
      rcases this with rfl | rfl
      · unfold M_findLengths_312 mC
        rw [if_pos (by decide)]
      · unfold M_findLengths_312 mC
        rw [if_pos (by decide)]
    rw [e2]
    refine Tt_Si ?_
    intro j
    rw [if_pos z, nI_0, Int32.add_zero]
  · refine Tt_W8 (fun mm ra le we wb' it x4 x5 x6 => ra = ranked ∧ le = lens ∧ x4 = nI m ∧ ∃ k, x6 = nI k ∧ k ≤ K ∧ mm = K - k ∧ x5 = nI (if k = 0 then 0 else gZ m (k - 1)) ∧ (∀ i, 0 < k → i < gZ m (k - 1) → wb' i = nI (gV m w (k - 1) i)) ∧ ∀ l i, l < k → i < gZ m l → it (600 * l + i) = itm m w l i) ?_ 200000 K _ _ _ _ _ _ _ _ (by omega) ⟨rfl, rfl, rfl, 0, rfl, by omega, rfl, rfl, fun i h => by omega, fun l i h => by omega⟩
    rintro KK mm ra le we wb' it x4 x5 x6 ⟨rfl, rfl, rfl, k, rfl, hk, rfl, rfl, hwb, hit⟩ ih
    unfold M_findLengths_59
    by_cases y : K ≤ k
    · simp (disch := omega) only [Tt_C, Tt_S, nI_leI]
      rw [if_pos y]
      exact t_find309 hm hK0 hK hK' (fun l i h1 h2 => hit l i (by omega) h2) hr ha
    · have hzz : (if k = 0 then 0 else gZ m (k - 1)) / 2 = gQ m k := by
        cases k with
        | zero => rw [if_pos rfl]; rfl
        | succ k => rw [if_neg (by omega), Nat.add_sub_cancel]; rfl
      have hz2 : (if k = 0 then 0 else gZ m (k - 1)) < 576 := by
        have := @gZ_hi m (by omega) (k - 1)
        split <;> omega
      simp (disch := omega) only [Tt_C, Tt_S, Tt_L, i_0, i_1, i_2, i_3, i_4, i_5, i_6, i_7, i_8, i_9, i_10, i_11, i_13, i_14, i_15, i_16, i_17, i_18, i_19, i_24, i_29, i_30, i_31, i_32, i_138, i_143, i_144, i_254, i_255, i_256, i_257, i_258, i_261, i_264, i_265, i_279, i_280, i_284, i_285, i_286, i_288, i_319, i_320, i_338, i_339, i_575, i_576, i_599, i_600, i_4096, i_8191, i_8192, i_8249, i_8250, i_8256, i_9000, i_16384, i_32767, i_32768, i_65520, i_65521, i_65535, i_65536, i_65999, i_66000, i_1300, i_120, i_156, nI_leI]
      rw [if_neg y, if_neg z, n_half (by omega), hzz]
      refine t_mlist (w := w) (by omega) hm (by omega) hr ha hcs hw (fun b hb => ?_) ?_
      · cases k with
        | zero => exact absurd hb (Nat.not_lt_zero b)
        | succ k =>
          have q : gQ m (k + 1) = gZ m k / 2 := rfl
          have h3 := hwb (2 * b) (by omega) (by rw [Nat.add_sub_cancel]; omega)
          have h4 := hwb (2 * b + 1) (by omega) (by rw [Nat.add_sub_cancel]; omega)
          rw [Nat.add_sub_cancel] at h3 h4
          rw [h3, h4, nI_add]
          rfl
      · intro we2 it2 g1 g2 g3
        have zhi := @gZ_hi m (by omega) k
        have hit2 : ∀ l i, l < k + 1 → i < gZ m l → it2 (600 * l + i) = itm m w l i := by
          intro l i hl hi
          by_cases e : l = k
          · subst e; exact g2 i hi
          · have zl := @gZ_hi m (by omega) l
            rw [g3 _ (by omega)]
            exact hit l i (by omega) hi
        unfold M_findLengths_273
        refine Tt_W9 (fun mm ra' le' we' wb2 it' x4 x5 x6 x10 => ra' = ra ∧ le' = le ∧ we' = we2 ∧ it' = it2 ∧ x4 = nI m ∧ x5 = nI (gZ m k) ∧ x6 = nI k ∧ ∃ i, x10 = nI i ∧ i ≤ gZ m k ∧ mm = gZ m k - i ∧ ∀ j, j < i → wb2 j = nI (gV m w k j)) ?_ 200000 (gZ m k) _ _ _ _ _ _ _ _ _ (by omega) ⟨rfl, rfl, rfl, rfl, rfl, rfl, rfl, 0, rfl, by omega, rfl, fun j hj => by omega⟩
        rintro K4 mm ra' le' we' wb2 it' x4 x5 x6 x10 ⟨rfl, rfl, rfl, rfl, rfl, rfl, rfl, i, rfl, hi, rfl, hw2⟩ ih4
        unfold M_findLengths_276
        by_cases y2 : gZ m k ≤ i
        · simp (disch := omega) only [Tt_C, Tt_S, nI_leI]
          rw [if_pos y2]
          unfold M_findLengths_303
          simp only [Tt_L, i_0, i_1, i_2, i_3, i_4, i_5, i_6, i_7, i_8, i_9, i_10, i_11, i_13, i_14, i_15, i_16, i_17, i_18, i_19, i_24, i_29, i_30, i_31, i_32, i_138, i_143, i_144, i_254, i_255, i_256, i_257, i_258, i_261, i_264, i_265, i_279, i_280, i_284, i_285, i_286, i_288, i_319, i_320, i_338, i_339, i_575, i_576, i_599, i_600, i_4096, i_8191, i_8192, i_8249, i_8250, i_8256, i_9000, i_16384, i_32767, i_32768, i_65520, i_65521, i_65535, i_65536, i_65999, i_66000, i_1300, i_120, i_156, nI_add]
          refine ih (K - (k + 1)) _ _ _ _ _ _ _ _ (by omega) ⟨rfl, rfl, rfl, k + 1, rfl, by omega, rfl, ?_, fun j _ hj => ?_, hit2⟩
          · rw [if_neg (by omega), Nat.add_sub_cancel]
          · rw [Nat.add_sub_cancel] at hj ⊢
            exact hw2 j (by omega)
        · simp (disch := omega) only [Tt_C, Tt_S, Tt_L, i_0, i_1, i_2, i_3, i_4, i_5, i_6, i_7, i_8, i_9, i_10, i_11, i_13, i_14, i_15, i_16, i_17, i_18, i_19, i_24, i_29, i_30, i_31, i_32, i_138, i_143, i_144, i_254, i_255, i_256, i_257, i_258, i_261, i_264, i_265, i_279, i_280, i_284, i_285, i_286, i_288, i_319, i_320, i_338, i_339, i_575, i_576, i_599, i_600, i_4096, i_8191, i_8192, i_8249, i_8250, i_8256, i_9000, i_16384, i_32767, i_32768, i_65520, i_65521, i_65535, i_65536, i_65999, i_66000, i_1300, i_120, i_156, nI_leI, Tt_N, nI_clamp, nI_add]
          rw [if_neg y2]
          refine ⟨by omega, by omega, ih4 (gZ m k - (i + 1)) _ _ _ _ _ _ _ _ _ (by omega) ⟨rfl, rfl, rfl, rfl, rfl, rfl, rfl, i + 1, rfl, by omega, rfl, fun j hj => ?_⟩⟩
          by_cases e : j = i
          · rw [e, pk_us]; exact g1 i (by omega)
          · rw [pk_un e]; exact hw2 j (by omega)
/-- the reference's lengths of codes -/
theorem t_findLengths {a n K : Nat} {counts items ranked lens weight wb : Nat → Int32} {c : Nat → Nat} {x1 x2 x3 : Int32} (h1 : x1 = nI a) (h2 : x2 = nI n) (h3 : x3 = nI K) (hn : n ≤ 288) (han : a + n ≤ 339) (hp : ∀ s, s < n → counts (a + s) = nI (c s)) (hc : ∀ i, c i ≤ 8192) (hK0 : 0 < K) (hK : K ≤ 15) (hK' : (n - 1) / 2 ^ (K - 1) = 0) : Tt (M_findLengths 200000 counts ranked lens weight wb items x1 x2 x3) (fun u => ∀ j, u.2.2.1 j = if a ≤ j ∧ j < a + n then nI (fitL c n K (j - a)) else lens j) := by
  subst h1 h2 h3
  unfold M_findLengths
  rw [Tt_R1]
  refine Tt_m (t_rank rfl rfl hn han hp (fun i => by have := hc i; omega)) ?_
  rintro ⟨r1, ranked1⟩ ⟨q1, q2⟩
  obtain ⟨o1, o2, o3, o4, o5⟩ := rk_ok c n
  have fe : ∀ x, fitL c n K x = if (rk c n).1 = 0 then 0 else if (rk c n).1 = 1 then (if (rk c n).2 0 = x then 1 else 0) else gH (rk c n).1 (fun a => c ((rk c n).2 a)) (rk c n).2 K x := fun x => rfl
  dsimp only at q1 q2 ⊢
  generalize (rk c n).1 = m at *
  generalize (rk c n).2 = r at *
  subst q1
  have hKm : (m - 1) / 2 ^ (K - 1) = 0 := by
    have : (m - 1) / 2 ^ (K - 1) ≤ (n - 1) / 2 ^ (K - 1) := Nat.div_le_div_right (by omega)
    rw [hK'] at this
    exact Nat.le_zero.mp this
  have ha : ∀ z, z < m → a + r z < 339 := fun z hz => by have := (o2 z hz).1; omega
  refine Tt_W7 (fun mm ra le we wb' it x4 x5 => ra = ranked1 ∧ x4 = nI m ∧ ∃ s, x5 = nI s ∧ s ≤ n ∧ mm = n - s ∧ ∀ j, le j = if a ≤ j ∧ j < a + s then nI 0 else lens j) ?_ 200000 n _ _ _ _ _ _ _ (by omega) ⟨rfl, rfl, 0, rfl, by omega, rfl, fun j => by rw [if_neg (by omega)]⟩
  rintro KK mm ra le we wb' it x4 x5 ⟨rfl, rfl, s, rfl, hs, rfl, hl⟩ ih
  unfold M_findLengths_11
  by_cases z : n ≤ s
  · have es : s = n := by omega
    subst es
    simp (disch := omega) only [Tt_C, Tt_S, nI_leI]
    rw [if_pos z]
    unfold M_findLengths_33
    have cs : ∀ z, z < m → counts (a + r z) = nI (c (r z)) := fun z hz => hp _ (o2 z hz).1
    by_cases y : m = 1
    · subst y
      have g1 := q2 0 (by omega)
      have g2 := ha 0 (by omega)
      have g3 := (o2 0 (by omega)).1
      simp (disch := omega) only [Tt_L, Tt_S, Tt_C, Tt_Z, Tt_R0, Tt_R1, Tt_R2, Tt_R3, Tt_R4, Tt_R5, q10, eq_self, Nat.not_lt_zero, if_true, if_false, i_0, i_1, i_2, i_3, i_4, i_5, i_6, i_7, i_8, i_9, i_10, i_11, i_13, i_14, i_15, i_16, i_17, i_18, i_19, i_24, i_29, i_30, i_31, i_32, i_138, i_143, i_144, i_254, i_255, i_256, i_257, i_258, i_261, i_264, i_265, i_279, i_280, i_284, i_285, i_286, i_288, i_319, i_320, i_338, i_339, i_575, i_576, i_599, i_600, i_4096, i_8191, i_8192, i_8249, i_8250, i_8256, i_9000, i_16384, i_32767, i_32768, i_65520, i_65521, i_65535, i_65536, i_65999, i_66000, i_1300, i_120, i_156, nI_eq, Tt_N, nI_clamp, nI_add, g1]
      refine ⟨by omega, by omega, ?_⟩
      refine Tt_m (t_find53 (n := s) (w := fun z => c (r z)) (r := r) (by omega) hK0 hK hKm q2 ha cs (fun z _ => hc _)) ?_
      rintro ⟨_, ra2, le2, we2, wb2, it2⟩ hu j
      have := hu j
      dsimp only at this ⊢
      rw [this, if_pos (by omega), nI_0, Int32.add_zero]
      by_cases e : j = a + r 0
      · rw [e, pk_us, if_pos (by omega), fe, if_neg (by omega), if_pos rfl, if_pos (by omega)]
      · rw [pk_un e, hl j]
        by_cases e2 : a ≤ j ∧ j < a + s
        · rw [if_pos e2, if_pos e2, fe, if_neg (by omega), if_pos rfl, if_neg (by omega)]
        · rw [if_neg e2, if_neg e2]
    · simp (disch := omega) only [Tt_L, Tt_S, Tt_C, Tt_Z, Tt_R0, Tt_R1, Tt_R2, Tt_R3, Tt_R4, Tt_R5, q10, eq_self, Nat.not_lt_zero, if_true, if_false, i_0, i_1, i_2, i_3, i_4, i_5, i_6, i_7, i_8, i_9, i_10, i_11, i_13, i_14, i_15, i_16, i_17, i_18, i_19, i_24, i_29, i_30, i_31, i_32, i_138, i_143, i_144, i_254, i_255, i_256, i_257, i_258, i_261, i_264, i_265, i_279, i_280, i_284, i_285, i_286, i_288, i_319, i_320, i_338, i_339, i_575, i_576, i_599, i_600, i_4096, i_8191, i_8192, i_8249, i_8250, i_8256, i_9000, i_16384, i_32767, i_32768, i_65520, i_65521, i_65535, i_65536, i_65999, i_66000, i_1300, i_120, i_156, nI_eq]
      rw [if_neg y]
      refine Tt_m (t_find53 (n := s) (w := fun z => c (r z)) (r := r) (by omega) hK0 hK hKm q2 ha cs (fun z _ => hc _)) ?_
      rintro ⟨_, ra2, le2, we2, wb2, it2⟩ hu j
      have := hu j
      dsimp only at this ⊢
      rw [this, hl j]
      by_cases e2 : a ≤ j ∧ j < a + s
      · rw [if_pos e2, if_pos e2, fe, if_neg (c := m = 1) y]
        by_cases y0 : m = 0
        · rw [if_pos (by omega), if_pos y0]; rfl
        · rw [if_neg (by omega), if_neg y0, nI_add, Nat.zero_add]
          congr 1
          have := @gH_sh m a K (j - a) (fun z => c (r z)) r
          rw [show a + (j - a) = j by omega] at this
          exact this
      · rw [if_neg e2, if_neg e2]
        by_cases y0 : m = 0
        · rw [if_pos (by omega), nI_0, Int32.add_zero]
        · rw [if_neg (by omega), gH_0 (by omega) hKm (fun z hz => by have := (o2 z hz).1; omega), nI_0, Int32.add_zero]
  · simp (disch := omega) only [Tt_L, Tt_S, Tt_C, Tt_Z, Tt_R0, Tt_R1, Tt_R2, Tt_R3, Tt_R4, Tt_R5, q10, eq_self, Nat.not_lt_zero, if_true, if_false, i_0, i_1, i_2, i_3, i_4, i_5, i_6, i_7, i_8, i_9, i_10, i_11, i_13, i_14, i_15, i_16, i_17, i_18, i_19, i_24, i_29, i_30, i_31, i_32, i_138, i_143, i_144, i_254, i_255, i_256, i_257, i_258, i_261, i_264, i_265, i_279, i_280, i_284, i_285, i_286, i_288, i_319, i_320, i_338, i_339, i_575, i_576, i_599, i_600, i_4096, i_8191, i_8192, i_8249, i_8250, i_8256, i_9000, i_16384, i_32767, i_32768, i_65520, i_65521, i_65535, i_65536, i_65999, i_66000, i_1300, i_120, i_156, nI_leI, nI_add, Tt_N, nI_clamp]
    rw [if_neg z]
    refine ⟨by omega, ih (n - (s + 1)) _ _ _ _ _ _ _ (by omega) ⟨rfl, rfl, s + 1, rfl, by omega, rfl, fun j => ?_⟩⟩
    by_cases e : j = a + s
    · rw [e, pk_us, if_pos (by omega)]
    · rw [pk_un e, hl j]
      by_cases e2 : a ≤ j ∧ j < a + s
      · rw [if_pos e2, if_pos (by omega)]
      · rw [if_neg e2, if_neg (by omega)]
/-! how a row of lengths is told: program and reference -/
abbrev Lg := Nat × (Nat → Nat) × (Nat → Nat)
def psh (L : Lg) (a b : Nat) : Lg := (L.1 + 1, (fun t => if t = L.1 then a else L.2.1 t), (fun t => if t = L.1 then b else L.2.2 t))
def wht (v left : Nat) : Nat := if left < 3 then v else if 0 < v then 16 else if left < 11 then 17 else 18
def tms (v left : Nat) : Nat := if left < 3 then 1 else if 0 < v then min 6 left else if left < 11 then left else min 138 left
def mor (v left : Nat) : Nat := if left < 3 then 0 else if 0 < v then tms v left - 3 else if left < 11 then left - 3 else tms v left - 11
def tls (v : Nat) : Nat → Nat → Lg → Lg
  | 0, _, L => L
  | fu + 1, left, L => if left = 0 then L else tls v fu (left - tms v left) (psh L (wht v left) (mor v left))
theorem tms_b {v left : Nat} (h : 0 < left) : 1 ≤ tms v left ∧ tms v left ≤ left := by
  unfold tms
  split
  · omega
  · split
    · omega
    · split <;> omega
theorem tls_f (v : Nat) : ∀ N fu left L, fu ≤ N → left ≤ fu → tls v fu left L = tls v left left L := by
  intro N
  induction N with
  | zero =>
    intro fu left L h1 h2
    have e1 : fu = 0 := by omega
    have e2 : left = 0 := by omega
    rw [e1, e2]
  | succ N ih =>
    intro fu left L h1 h2
    cases left with
    | zero =>
      cases fu with
      | zero => rfl
      | succ fu => rfl
    | succ l =>
      cases fu with
      | zero => omega
      | succ fu =>
        have b := @tms_b v (l + 1) (by omega)
        show tls v fu (l + 1 - tms v (l + 1)) (psh L (wht v (l + 1)) (mor v (l + 1))) = tls v l (l + 1 - tms v (l + 1)) (psh L (wht v (l + 1)) (mor v (l + 1)))
        rw [ih fu _ _ (by omega) (by omega), ih l _ _ (by omega) (by omega)]
theorem tls_s {v left : Nat} {L : Lg} (h : 0 < left) : tls v left left L = tls v (left - tms v left) (left - tms v left) (psh L (wht v left) (mor v left)) := by
  obtain ⟨l, rfl⟩ : ∃ l, left = l + 1 := ⟨left - 1, by omega⟩
  have b := @tms_b v (l + 1) (by omega)
  show tls v l (l + 1 - tms v (l + 1)) (psh L (wht v (l + 1)) (mor v (l + 1))) = _
  exact tls_f v l _ _ _ (Nat.le_refl l) (by omega)
theorem cn_psh (g : Nat → Nat) (a s S : Nat) : cn (fun t => if t = S then a else g t) s (S + 1) = cn g s S + (if a = s then 1 else 0) := by
  show cn (fun t => if t = S then a else g t) s S + (if (if S = S then a else g S) = s then 1 else 0) = _
  rw [if_pos rfl, @cn_ext g (fun t => if t = S then a else g t) s S S (Nat.le_refl S) (fun i hi => by rw [if_neg (by omega)]) (fun i a b => by omega)]
def rex (w : Nat) : Nat := if w = 16 then 2 else if w = 17 then 3 else if w = 18 then 7 else 0
def LgB (L : Lg) : Prop := ∀ t, t < L.1 → L.2.1 t < 19 ∧ L.2.2 t < 2 ^ rex (L.2.1 t)
theorem LgB_p {L : Lg} {a b : Nat} (h : LgB L) (ha : a < 19) (hb : b < 2 ^ rex a) : LgB (psh L a b) := by
  intro t ht
  have ht' : t < L.1 + 1 := ht
  show (if t = L.1 then a else L.2.1 t) < 19 ∧ (if t = L.1 then b else L.2.2 t) < 2 ^ rex (if t = L.1 then a else L.2.1 t)
  by_cases e : t = L.1
  · rw [if_pos e, if_pos e]; exact ⟨ha, hb⟩
  · rw [if_neg e, if_neg e]; exact h t (by omega)
def CT (tc : Int32) (told counts : Nat → Int32) (L : Lg) : Prop := tc = nI L.1 ∧ (∀ t, t < L.1 → told t = nI (L.2.1 t + 32 * L.2.2 t)) ∧ (∀ s, s < 19 → counts s = nI (cn L.2.1 s L.1)) ∧ LgB L
def RT (st : Int32) (step more counts c0 : Nat → Int32) (L : Lg) : Prop := st = nI L.1 ∧ (∀ t, t < L.1 → step t = nI (L.2.1 t) ∧ more t = nI (L.2.2 t)) ∧ (∀ s, s < 19 → counts (320 + s) = nI (cn L.2.1 s L.1)) ∧ (∀ j, j < 320 → counts j = c0 j) ∧ LgB L
theorem t_tellC {tc x1 x2 : Int32} {told counts : Nat → Int32} {L : Lg} {a b : Nat} (h : CT tc told counts L) (hL : L.1 < 320) (ha : a < 19) (hb : b < 2 ^ rex a) (h1 : x1 = nI a) (h2 : x2 = nI b) : Tt (Header_tell 200000 tc told counts x1 x2) (fun u => CT u.2.1 u.2.2.1 u.2.2.2 (psh L a b)) := by
  obtain ⟨rfl, h3, h4, h5⟩ := h
  subst h1 h2
  unfold Header_tell
  simp (disch := omega) only [Tt_L, Tt_S, Tt_C, Tt_Z, Tt_R0, Tt_R1, Tt_R2, Tt_R3, Tt_R4, Tt_R5, q10, eq_self, Nat.not_lt_zero, if_true, if_false, i_0, i_1, i_2, i_3, i_4, i_5, i_6, i_7, i_8, i_9, i_10, i_11, i_13, i_14, i_15, i_16, i_17, i_18, i_19, i_24, i_29, i_30, i_31, i_32, i_138, i_143, i_144, i_254, i_255, i_256, i_257, i_258, i_261, i_264, i_265, i_279, i_280, i_284, i_285, i_286, i_288, i_319, i_320, i_338, i_339, i_575, i_576, i_599, i_600, i_4096, i_8191, i_8192, i_8249, i_8250, i_8256, i_9000, i_16384, i_32767, i_32768, i_65520, i_65521, i_65535, i_65536, i_65999, i_66000, i_1300, i_120, i_156, nI_leI, n_neg, pk_mul, nI_add, Tt_N, nI_clamp]
  rw [if_neg (by omega), if_neg (by omega)]
  refine ⟨hL, ha, ha, rfl, fun t ht => ?_, fun s hs => ?_, LgB_p h5 ha hb⟩
  · have ht' : t < L.1 + 1 := ht
    show _ = nI ((if t = L.1 then a else L.2.1 t) + 32 * (if t = L.1 then b else L.2.2 t))
    by_cases e : t = L.1
    · rw [e, pk_us, if_pos rfl, if_pos rfl]
    · rw [pk_un e, if_neg e, if_neg e]; exact h3 t (by omega)
  · show _ = nI (cn (fun t => if t = L.1 then a else L.2.1 t) s (L.1 + 1))
    rw [cn_psh]
    by_cases e : s = a
    · rw [← e, pk_us, if_pos rfl, h4 s hs]; exact nI_1 _
    · rw [pk_un e, if_neg (fun q => e q.symm), h4 s hs]; rfl
theorem t_tellM {st x1 x2 : Int32} {step more counts c0 : Nat → Int32} {L : Lg} {a b : Nat} (h : RT st step more counts c0 L) (hL : L.1 < 320) (ha : a < 19) (hb : b < 2 ^ rex a) (h1 : x1 = nI a) (h2 : x2 = nI b) : Tt (M_tell 200000 st step more counts x1 x2) (fun u => RT u.2.1 u.2.2.1 u.2.2.2.1 u.2.2.2.2 c0 (psh L a b)) := by
  obtain ⟨rfl, h3, h4, h6, h5⟩ := h
  subst h1 h2
  unfold M_tell
  simp (disch := omega) only [Tt_L, Tt_S, Tt_C, Tt_Z, Tt_R0, Tt_R1, Tt_R2, Tt_R3, Tt_R4, Tt_R5, q10, eq_self, Nat.not_lt_zero, if_true, if_false, i_0, i_1, i_2, i_3, i_4, i_5, i_6, i_7, i_8, i_9, i_10, i_11, i_13, i_14, i_15, i_16, i_17, i_18, i_19, i_24, i_29, i_30, i_31, i_32, i_138, i_143, i_144, i_254, i_255, i_256, i_257, i_258, i_261, i_264, i_265, i_279, i_280, i_284, i_285, i_286, i_288, i_319, i_320, i_338, i_339, i_575, i_576, i_599, i_600, i_4096, i_8191, i_8192, i_8249, i_8250, i_8256, i_9000, i_16384, i_32767, i_32768, i_65520, i_65521, i_65535, i_65536, i_65999, i_66000, i_1300, i_120, i_156, nI_add, Tt_N, nI_clamp]
  refine ⟨hL, hL, by omega, by omega, rfl, fun t ht => ?_, fun s hs => ?_, fun j hj => ?_, LgB_p h5 ha hb⟩
  · have ht' : t < L.1 + 1 := ht
    show _ = nI (if t = L.1 then a else L.2.1 t) ∧ _ = nI (if t = L.1 then b else L.2.2 t)
    by_cases e : t = L.1
    · rw [e, pk_us, pk_us, if_pos rfl, if_pos rfl]; exact ⟨rfl, rfl⟩
    · rw [pk_un e, pk_un e, if_neg e, if_neg e]; exact h3 t (by omega)
  · show _ = nI (cn (fun t => if t = L.1 then a else L.2.1 t) s (L.1 + 1))
    rw [cn_psh]
    by_cases e : s = a
    · rw [← e, pk_us, if_pos rfl, h4 s hs]; exact nI_1 _
    · rw [pk_un (by omega), if_neg (fun q => e q.symm), h4 s hs]; rfl
  · rw [pk_un (by omega)]; exact h6 j hj
def rb (w : Nat) : Nat := if w < 16 then 1 else if w = 18 then 11 else 3
theorem y_rb : ∀ w, w < 19 → P_repeatBase 200000 (nI w) = some (nI (rb w), ()) := by decide +kernel
abbrev HtR := Option (Unit × Int32 × (Nat → Int32) × (Nat → Int32))
theorem t_90 {tc x3 x4 s0 : Int32} {told counts : Nat → Int32} {L : Lg} {left w mx : Nat} {K : Int32 → (Nat → Int32) → (Nat → Int32) → Int32 → HtR} {Q : Unit × Int32 × (Nat → Int32) × (Nat → Int32) → Prop} (h : CT tc told counts L) (hL : L.1 < 320) (hw : w < 19) (h3 : x3 = nI left) (h4 : x4 = nI w) (h0 : s0 = nI mx) (hl : left ≤ 320) (hmx : mx ≤ 138) (hr : rb w ≤ min mx left) (hb : min mx left - rb w < 2 ^ rex w) (hK : ∀ tc2 told2 counts2, CT tc2 told2 counts2 (psh L w (min mx left - rb w)) → Tt (K tc2 told2 counts2 (nI (left - min mx left))) Q) : Tt (Header_tellStretch_90 200000 K tc told counts x3 x4 s0) Q := by
  subst h3 h4 h0
  have e1 : (if nI mx < nI left then nI mx else nI left) = nI (min mx left) := by
    by_cases z : mx < left
    · rw [if_pos (by rw [nI_ltI (by omega) (by omega)]; exact z)]; exact congrArg nI (by omega)
    · rw [if_neg (by rw [nI_ltI (by omega) (by omega)]; exact z)]; exact congrArg nI (by omega)
  unfold Header_tellStretch_90
  simp only [Tt_L, e1, y_rb w hw, Tt_R0, Tt_S, Tt_R3]
  rw [pk_sub hr]
  refine Tt_m (t_tellC h hL hw hb rfl rfl) ?_
  rintro ⟨_, tc2, told2, counts2⟩ h2
  rw [pk_sub (by omega)]
  exact hK _ _ _ h2
theorem t_stretch15 {tc x1 x3 : Int32} {told counts : Nat → Int32} {L : Lg} {left v : Nat} (h : CT tc told counts L) (hv : v ≤ 15) (hL : L.1 + left ≤ 320) (h1 : x1 = nI v) (h3 : x3 = nI left) : Tt (mW4 (Header_tellStretch_15 200000 x1) 200000 tc told counts x3) (fun u => CT u.2.1 u.2.2.1 u.2.2.2 (tls v left left L)) := by
  subst h1 h3
  refine Tt_W4 (fun mm tc told counts x3 => ∃ le L', x3 = nI le ∧ le = mm ∧ CT tc told counts L' ∧ L'.1 + le ≤ 320 ∧ tls v le le L' = tls v left left L) ?_ 200000 left tc told counts (nI left) (by omega) ⟨left, L, rfl, rfl, h, hL, rfl⟩
  rintro K mm tc told counts x3 ⟨le, L', rfl, rfl, h', hL', hT⟩ ih
  unfold Header_tellStretch_15
  by_cases z : le = 0
  · subst z
    simp only [Tt_C, Tt_S]
    rw [if_pos (by decide), ← hT]
    first | exact h' | exact Tt_Si h'
  · have ht := @tls_s v le L' (by omega)
    have tb := @tms_b v le (by omega)
    have step : ∀ w mx, w = wht v le → min mx le = tms v le → min mx le - rb w = mor v le → ∀ tc2 told2 counts2, CT tc2 told2 counts2 (psh L' w (min mx le - rb w)) → Tt (K tc2 told2 counts2 (nI (le - min mx le))) (fun u => CT u.2.1 u.2.2.1 u.2.2.2 (tls v left left L)) := by
      intro w mx e1 e2 e3 tc2 told2 counts2 h2
      refine ih (le - min mx le) _ _ _ _ (by omega) ⟨le - min mx le, _, rfl, rfl, h2, ?_, ?_⟩
      · show L'.1 + 1 + (le - min mx le) ≤ 320
        omega
      · rw [e3, e1, e2, ← ht]; exact hT
    unfold Header_tellStretch_50
    simp (disch := omega) only [Tt_C, Tt_S, i_0, i_1, i_2, i_3, i_4, i_5, i_6, i_7, i_8, i_9, i_10, i_11, i_13, i_14, i_15, i_16, i_17, i_18, i_19, i_24, i_29, i_30, i_31, i_32, i_138, i_143, i_144, i_254, i_255, i_256, i_257, i_258, i_261, i_264, i_265, i_279, i_280, i_284, i_285, i_286, i_288, i_319, i_320, i_338, i_339, i_575, i_576, i_599, i_600, i_4096, i_8191, i_8192, i_8249, i_8250, i_8256, i_9000, i_16384, i_32767, i_32768, i_65520, i_65521, i_65535, i_65536, i_65999, i_66000, i_1300, i_120, i_156, nI_leI, nI_eq]
    rw [if_neg (by omega)]
    by_cases y1 : 3 ≤ le
    · rw [if_pos y1]
      by_cases y2 : v ≤ 0
      · rw [if_pos y2]
        by_cases y3 : 11 ≤ le
        · rw [if_pos y3, if_pos (by omega), if_neg (by omega), if_neg (by omega)]
          have w1 : (18 : Nat) = wht v le := by unfold wht; rw [if_neg (by omega), if_neg (by omega), if_neg (by omega)]
          have w2 : min 138 le = tms v le := by unfold tms; rw [if_neg (by omega), if_neg (by omega), if_neg (by omega)]
          have w3 : min 138 le - rb 18 = mor v le := by
            unfold mor
            rw [if_neg (by omega), if_neg (by omega), if_neg (by omega), ← w2]
            rfl
          have r1 : rb 18 = 11 := rfl
          exact t_90 h' (by omega) (by omega) rfl rfl rfl (by omega) (by omega) (by omega) (by show _ < 128; omega) (step 18 138 w1 w2 w3)
        · rw [if_neg y3, if_pos (by omega), if_neg (by omega), if_pos trivial]
          have w1 : (17 : Nat) = wht v le := by unfold wht; rw [if_neg (by omega), if_neg (by omega), if_pos (by omega)]
          have w2 : min 10 le = tms v le := by unfold tms; rw [if_neg (by omega), if_neg (by omega), if_pos (by omega)]; omega
          have w3 : min 10 le - rb 17 = mor v le := by
            unfold mor
            rw [if_neg (by omega), if_neg (by omega), if_pos (by omega)]
            show min 10 le - 3 = le - 3
            omega
          have r1 : rb 17 = 3 := rfl
          exact t_90 h' (by omega) (by omega) rfl rfl rfl (by omega) (by omega) (by omega) (by show _ < 8; omega) (step 17 10 w1 w2 w3)
      · rw [if_neg y2, if_pos (by omega), if_pos trivial]
        have w1 : (16 : Nat) = wht v le := by unfold wht; rw [if_neg (by omega), if_pos (by omega)]
        have w2 : min 6 le = tms v le := by unfold tms; rw [if_neg (by omega), if_pos (by omega)]
        have w3 : min 6 le - rb 16 = mor v le := by
          unfold mor
          rw [if_neg (by omega), if_pos (by omega), ← w2]
          rfl
        have r1 : rb 16 = 3 := rfl
        exact t_90 h' (by omega) (by omega) rfl rfl rfl (by omega) (by omega) (by omega) (by show _ < 4; omega) (step 16 6 w1 w2 w3)
    · rw [if_neg y1, if_neg (by omega)]
      have r1 : rb v = 1 := if_pos (by omega)
      have w1 : v = wht v le := by unfold wht; rw [if_pos (by omega)]
      have w2 : min 1 le = tms v le := by unfold tms; rw [if_pos (by omega)]; omega
      have w3 : min 1 le - rb v = mor v le := by
        unfold mor
        rw [if_pos (by omega), r1]
        omega
      exact t_90 h' (by omega) (by omega) rfl rfl rfl (by omega) (by omega) (by omega) (Nat.lt_of_lt_of_le (show min 1 le - rb v < 1 by omega) (Nat.two_pow_pos _)) (step v 1 w1 w2 w3)
def tlv (v len : Nat) (L : Lg) : Lg := if 0 < v then tls v (len - 1) (len - 1) (psh L v 0) else tls v len len L
theorem t_stretch {tc x1 x2 : Int32} {told counts : Nat → Int32} {L : Lg} {len v : Nat} (h : CT tc told counts L) (hv : v ≤ 15) (hl : 1 ≤ len) (hL : L.1 + len ≤ 320) (h1 : x1 = nI v) (h2 : x2 = nI len) : Tt (Header_tellStretch 200000 tc told counts x1 x2) (fun u => CT u.2.1 u.2.2.1 u.2.2.2 (tlv v len L)) := by
  subst h1 h2
  unfold Header_tellStretch tlv
  by_cases z : v ≤ 0
  · simp (disch := omega) only [Tt_C, Tt_S, i_0, i_1, i_2, i_3, i_4, i_5, i_6, i_7, i_8, i_9, i_10, i_11, i_13, i_14, i_15, i_16, i_17, i_18, i_19, i_24, i_29, i_30, i_31, i_32, i_138, i_143, i_144, i_254, i_255, i_256, i_257, i_258, i_261, i_264, i_265, i_279, i_280, i_284, i_285, i_286, i_288, i_319, i_320, i_338, i_339, i_575, i_576, i_599, i_600, i_4096, i_8191, i_8192, i_8249, i_8250, i_8256, i_9000, i_16384, i_32767, i_32768, i_65520, i_65521, i_65535, i_65536, i_65999, i_66000, i_1300, i_120, i_156, nI_leI]
    rw [if_pos z, if_neg (by omega)]
    exact t_stretch15 h hv hL rfl rfl
  · simp (disch := omega) only [Tt_C, Tt_S, Tt_L, i_0, i_1, i_2, i_3, i_4, i_5, i_6, i_7, i_8, i_9, i_10, i_11, i_13, i_14, i_15, i_16, i_17, i_18, i_19, i_24, i_29, i_30, i_31, i_32, i_138, i_143, i_144, i_254, i_255, i_256, i_257, i_258, i_261, i_264, i_265, i_279, i_280, i_284, i_285, i_286, i_288, i_319, i_320, i_338, i_339, i_575, i_576, i_599, i_600, i_4096, i_8191, i_8192, i_8249, i_8250, i_8256, i_9000, i_16384, i_32767, i_32768, i_65520, i_65521, i_65535, i_65536, i_65999, i_66000, i_1300, i_120, i_156, nI_leI, n_dec2]
    rw [if_neg z, if_pos (by omega), Tt_R3]
    refine Tt_m (t_tellC h (by omega) (by omega) (Nat.two_pow_pos _) rfl rfl) ?_
    rintro ⟨_, tc2, told2, counts2⟩ h2
    refine t_stretch15 h2 hv ?_ rfl rfl
    show L.1 + 1 + (len - 1) ≤ 320
    omega
/-- how long one value goes on from k -/
def stl (f : Nat → Nat) (n k : Nat) : Nat := lcp f k (k + 1) (n - k - 1) + 1
theorem stl_e {f : Nat → Nat} {n k j : Nat} (hk : k < n) (h1 : 1 ≤ j) (h2 : k + j ≤ n) (h3 : ∀ i, i < j → f (k + i) = f k) (h4 : k + j = n ∨ f (k + j) ≠ f k) : stl f n k = j := by
  unfold stl
  have : lcp f k (k + 1) (n - k - 1) = j - 1 := by
    apply lcp_e
    refine ⟨by omega, fun s hs => ?_, ?_⟩
    · rw [h3 s (by omega), show k + 1 + s = k + (s + 1) by omega, h3 (s + 1) (by omega)]
    · rcases h4 with h4 | h4
      · left; omega
      · right
        rw [h3 (j - 1) (by omega), show k + 1 + (j - 1) = k + j by omega]
        exact fun q => h4 q.symm
  omega
def rws (f : Nat → Nat) (n : Nat) : Nat → Nat → Lg → Lg
  | 0, _, L => L
  | fu + 1, k, L => if n ≤ k then L else rws f n fu (k + stl f n k) (tlv (f k) (stl f n k) L)
theorem rws_f (f : Nat → Nat) (n : Nat) : ∀ N fu k L, fu ≤ N → n ≤ fu + k → rws f n fu k L = rws f n (n - k) k L := by
  intro N
  induction N with
  | zero =>
    intro fu k L h1 h2
    have e1 : fu = 0 := by omega
    have e2 : n - k = 0 := by omega
    rw [e1, e2]
  | succ N ih =>
    intro fu k L h1 h2
    by_cases z : n ≤ k
    · rw [show n - k = 0 by omega]
      cases fu with
      | zero => rfl
      | succ fu => exact if_pos z
    · obtain ⟨d, hd⟩ : ∃ d, n - k = d + 1 := ⟨n - k - 1, by omega⟩
      cases fu with
      | zero => omega
      | succ fu =>
        rw [hd]
        show (if n ≤ k then L else rws f n fu (k + stl f n k) (tlv (f k) (stl f n k) L)) = (if n ≤ k then L else rws f n d (k + stl f n k) (tlv (f k) (stl f n k) L))
        rw [if_neg z, if_neg z]
        have l1 : 1 ≤ stl f n k := by unfold stl; omega
        rw [ih fu _ _ (by omega) (by omega), ih d _ _ (by omega) (by omega)]
theorem rws_s {f : Nat → Nat} {n k : Nat} {L : Lg} (h : k < n) : rws f n (n - k) k L = rws f n (n - (k + stl f n k)) (k + stl f n k) (tlv (f k) (stl f n k) L) := by
  obtain ⟨d, hd⟩ : ∃ d, n - k = d + 1 := ⟨n - k - 1, by omega⟩
  rw [hd]
  show (if n ≤ k then L else rws f n d (k + stl f n k) (tlv (f k) (stl f n k) L)) = _
  rw [if_neg (by omega)]
  have l1 : 1 ≤ stl f n k := by unfold stl; omega
  exact rws_f f n d _ _ _ (Nat.le_refl d) (by omega)
theorem tls_n (v : Nat) : ∀ N left L, left ≤ N → (tls v left left L).1 ≤ L.1 + left := by
  intro N
  induction N with
  | zero =>
    intro left L h
    have : left = 0 := by omega
    subst this
    exact Nat.le_refl _
  | succ N ih =>
    intro left L h
    by_cases z : left = 0
    · subst z; exact Nat.le_refl _
    · rw [tls_s (by omega)]
      have tb := @tms_b v left (by omega)
      have := ih (left - tms v left) (psh L (wht v left) (mor v left)) (by omega)
      have e : (psh L (wht v left) (mor v left)).1 = L.1 + 1 := rfl
      omega
theorem tlv_n {v len : Nat} {L : Lg} (h : 1 ≤ len) : (tlv v len L).1 ≤ L.1 + len := by
  unfold tlv
  split
  · have := tls_n v (len - 1) (len - 1) (psh L v 0) (Nat.le_refl _)
    have e : (psh L v 0).1 = L.1 + 1 := rfl
    omega
  · exact tls_n v len len L (Nat.le_refl _)
/-- the whole row, told -/
def told (f : Nat → Nat) (n : Nat) : Lg := rws f n n 0 (0, fun _ => 0, fun _ => 0)
theorem t_tellRowC {tc rl : Int32} {row counts tld : Nat → Int32} {f : Nat → Nat} {n : Nat} (hrl : rl = nI n) (hn : n ≤ 320) (hrow : ∀ i, i < n → row i = nI (f i)) (hf : ∀ i, i < n → f i ≤ 15) : Tt (Header_tellRow 200000 rl row tc counts tld) (fun u => CT u.2.1 u.2.2.2 u.2.2.1 (told f n)) := by
  subst hrl
  unfold Header_tellRow
  rw [Tt_R1]
  refine Tt_m (t_fill (by omega)) ?_
  rintro ⟨_, c1⟩ hc1
  refine Tt_W4 (fun mm tc counts tld x1 => ∃ k L, x1 = nI k ∧ k ≤ n ∧ mm = n - k ∧ CT tc tld counts L ∧ L.1 ≤ k ∧ rws f n (n - k) k L = told f n) ?_ 200000 n 0 c1 tld 0 (by omega) ⟨0, (0, fun _ => 0, fun _ => 0), rfl, by omega, rfl, ⟨rfl, fun t ht => absurd ht (Nat.not_lt_zero t), fun s hs => by
    have := hc1 s
    rw [if_pos hs] at this
    exact this, fun t ht => absurd ht (Nat.not_lt_zero t)⟩, Nat.le_refl 0, rfl⟩
  rintro K mm tc counts tld x1 ⟨k, L, rfl, hk, rfl, hC, hLk, hT⟩ ih
  unfold Header_tellRow_15
  by_cases z : n ≤ k
  · simp (disch := omega) only [Tt_C, Tt_S, nI_leI]
    rw [if_pos z]
    rw [show n - k = 0 by omega] at hT
    have hT' : L = told f n := hT
    rw [← hT']
    first | exact hC | exact Tt_Si hC
  · simp (disch := omega) only [Tt_C, Tt_S, i_0, i_1, i_2, i_3, i_4, i_5, i_6, i_7, i_8, i_9, i_10, i_11, i_13, i_14, i_15, i_16, i_17, i_18, i_19, i_24, i_29, i_30, i_31, i_32, i_138, i_143, i_144, i_254, i_255, i_256, i_257, i_258, i_261, i_264, i_265, i_279, i_280, i_284, i_285, i_286, i_288, i_319, i_320, i_338, i_339, i_575, i_576, i_599, i_600, i_4096, i_8191, i_8192, i_8249, i_8250, i_8256, i_9000, i_16384, i_32767, i_32768, i_65520, i_65521, i_65535, i_65536, i_65999, i_66000, i_1300, i_120, i_156, nI_leI]
    rw [if_neg z, if_neg (by omega)]
    have fk := hf k (by omega)
    have rk' := hrow k (by omega)
    refine Tt_W5 (fun mm tc' counts' tld' x1 x2 => tc' = tc ∧ counts' = counts ∧ tld' = tld ∧ x1 = nI k ∧ ∃ j, x2 = nI j ∧ 1 ≤ j ∧ k + j ≤ n ∧ mm = n - k - j ∧ ∀ i, i < j → f (k + i) = f k) ?_ 200000 (n - k - 1) _ _ _ _ _ (by omega) ⟨rfl, rfl, rfl, rfl, 1, rfl, by omega, by omega, rfl, fun i hi => by
      have : i = 0 := by omega
      rw [this, Nat.add_zero]⟩
    rintro K2 mm tc' counts' tld' x1 x2 ⟨rfl, rfl, rfl, rfl, j, rfl, hj, hkj, rfl, hall⟩ ih2
    have out : (k + j = n ∨ f (k + j) ≠ f k) → Tt (Header_tellRow_67 200000 row K tc' counts' tld' (nI k) (nI j)) (fun u => CT u.2.1 u.2.2.2 u.2.2.1 (told f n)) := by
      intro h4
      have es := stl_e (f := f) (n := n) (k := k) (j := j) (by omega) hj hkj hall h4
      unfold Header_tellRow_67
      rw [Tt_N (by omega), Tt_L, Tt_R3, nI_clamp (by omega)]
      refine ⟨by omega, ?_⟩
      refine Tt_m (t_stretch hC fk hj (by omega) rk' rfl) ?_
      rintro ⟨_, tc2, told2, counts2⟩ h2
      simp only [Tt_L, nI_add]
      have nn := @tlv_n (f k) j L hj
      refine ih (n - (k + j)) _ _ _ _ (by omega) ⟨k + j, tlv (f k) j L, rfl, hkj, rfl, h2, by omega, ?_⟩
      have := @rws_s f n k L (by omega)
      rw [es] at this
      rw [← this]
      exact hT
    unfold Header_tellRow_34
    by_cases y : n ≤ k + j
    · simp (disch := omega) only [Tt_C, Tt_S, nI_add, nI_leI]
      rw [if_pos y]
      exact out (Or.inl (by omega))
    · have rj := hrow (k + j) (by omega)
      have fj := hf (k + j) (by omega)
      simp (disch := omega) only [Tt_C, Tt_S, Tt_L, i_0, i_1, i_2, i_3, i_4, i_5, i_6, i_7, i_8, i_9, i_10, i_11, i_13, i_14, i_15, i_16, i_17, i_18, i_19, i_24, i_29, i_30, i_31, i_32, i_138, i_143, i_144, i_254, i_255, i_256, i_257, i_258, i_261, i_264, i_265, i_279, i_280, i_284, i_285, i_286, i_288, i_319, i_320, i_338, i_339, i_575, i_576, i_599, i_600, i_4096, i_8191, i_8192, i_8249, i_8250, i_8256, i_9000, i_16384, i_32767, i_32768, i_65520, i_65521, i_65535, i_65536, i_65999, i_66000, i_1300, i_120, i_156, nI_add, nI_leI, Tt_N, nI_clamp, rj, rk', nI_eq]
      rw [if_neg y]
      refine ⟨by omega, by omega, ?_⟩
      by_cases w : f (k + j) = f k
      · rw [if_pos w]
        refine ih2 (n - k - (j + 1)) _ _ _ _ _ (by omega) ⟨rfl, rfl, rfl, rfl, j + 1, rfl, by omega, by omega, rfl, fun i hi => ?_⟩
        by_cases e : i = j
        · rw [e]; exact w
        · exact hall i (by omega)
      · rw [if_neg w]
        exact out (Or.inr w)
/-! the reference -/
abbrev TrR := Option (Unit × Int32 × (Nat → Int32) × (Nat → Int32) × (Nat → Int32))
theorem t_tell173 {K7 : Int32 → (Nat → Int32) → (Nat → Int32) → (Nat → Int32) → Int32 → TrR} {Q : Unit × Int32 × (Nat → Int32) × (Nat → Int32) × (Nat → Int32) → Prop} {st x2 x3 x4 : Int32} {step more counts c0 : Nat → Int32} {v left : Nat} {L R : Lg} (h : RT st step more counts c0 L) (hv : v ≤ 15) (hl : left < 3) (hL : L.1 + left ≤ 320) (h3 : x3 = nI v) (h4 : x4 = nI left) (hR : tls v left left L = R) (hQ : ∀ st2 step2 more2 counts2, RT st2 step2 more2 counts2 c0 R → Tt (K7 st2 step2 more2 counts2 x2) Q) : Tt (mW7 (M_tellRow_173 200000 (M_tellRow_190 200000 K7)) 200000 st step more counts x2 x3 x4) Q := by
  subst h3 h4
  refine Tt_W7 (fun mm st step more counts y2 y3 x4 => y2 = x2 ∧ y3 = nI v ∧ ∃ le L', x4 = nI le ∧ le = mm ∧ le < 3 ∧ RT st step more counts c0 L' ∧ L'.1 + le ≤ 320 ∧ tls v le le L' = R) ?_ 200000 left _ _ _ _ _ _ _ (by omega) ⟨rfl, rfl, left, L, rfl, rfl, hl, h, hL, hR⟩
  rintro K mm st step more counts y2 y3 x4 ⟨rfl, rfl, le, L', rfl, rfl, hle, h', hL', hT⟩ ih
  unfold M_tellRow_173 M_tellRow_190
  by_cases z : le = 0
  · subst z
    simp only [Tt_C, Tt_S]
    rw [if_pos (by decide)]
    apply hQ
    rw [← hT]
    first | exact h' | exact Tt_Si h'
  · simp (disch := omega) only [Tt_C, Tt_S, i_0, i_1, i_2, i_3, i_4, i_5, i_6, i_7, i_8, i_9, i_10, i_11, i_13, i_14, i_15, i_16, i_17, i_18, i_19, i_24, i_29, i_30, i_31, i_32, i_138, i_143, i_144, i_254, i_255, i_256, i_257, i_258, i_261, i_264, i_265, i_279, i_280, i_284, i_285, i_286, i_288, i_319, i_320, i_338, i_339, i_575, i_576, i_599, i_600, i_4096, i_8191, i_8192, i_8249, i_8250, i_8256, i_9000, i_16384, i_32767, i_32768, i_65520, i_65521, i_65535, i_65536, i_65999, i_66000, i_1300, i_120, i_156, nI_leI]
    rw [if_neg (by omega), Tt_R4]
    refine Tt_m (t_tellM h' (by omega) (a := v) (b := 0) (by omega) (Nat.two_pow_pos _) rfl rfl) ?_
    rintro ⟨_, st2, step2, more2, counts2⟩ h2
    simp (disch := omega) only [Tt_L, n_dec2]
    refine ih (le - 1) _ _ _ _ _ _ _ (by omega) ⟨rfl, rfl, le - 1, _, rfl, rfl, by omega, h2, ?_, ?_⟩
    · show L'.1 + 1 + (le - 1) ≤ 320
      omega
    · rw [← hT, @tls_s v le L' (by omega)]
      have w1 : wht v le = v := by unfold wht; rw [if_pos hle]
      have w2 : tms v le = 1 := by unfold tms; rw [if_pos hle]
      have w3 : mor v le = 0 := by unfold mor; rw [if_pos hle]
      rw [w1, w2, w3]
theorem t_tell67 {K7 : Int32 → (Nat → Int32) → (Nat → Int32) → (Nat → Int32) → Int32 → TrR} {Q : Unit × Int32 × (Nat → Int32) × (Nat → Int32) × (Nat → Int32) → Prop} {st x2 x3 x4 : Int32} {step more counts c0 : Nat → Int32} {v left : Nat} {L R : Lg} (h : RT st step more counts c0 L) (hv : v ≤ 15) (hL : L.1 + left ≤ 320) (h3 : x3 = nI v) (h4 : x4 = nI left) (hR : tls v left left L = R) (hQ : ∀ st2 step2 more2 counts2, RT st2 step2 more2 counts2 c0 R → Tt (K7 st2 step2 more2 counts2 x2) Q) : Tt (mW7 (M_tellRow_67 200000 (M_tellRow_150 200000 K7)) 200000 st step more counts x2 x3 x4) Q := by
  subst h3 h4
  refine Tt_W7 (fun mm st step more counts y2 y3 x4 => y2 = x2 ∧ y3 = nI v ∧ ∃ le L', x4 = nI le ∧ le = mm ∧ RT st step more counts c0 L' ∧ L'.1 + le ≤ 320 ∧ tls v le le L' = R) ?_ 200000 left _ _ _ _ _ _ _ (by omega) ⟨rfl, rfl, left, L, rfl, rfl, h, hL, hR⟩
  rintro K mm st step more counts y2 y3 x4 ⟨rfl, rfl, le, L', rfl, rfl, h', hL', hT⟩ ih
  have big : ∀ w mx bb, w = wht v le → min mx le = tms v le → min mx le - bb = mor v le → bb ≤ min mx le → min mx le - bb < 2 ^ rex w → w < 19 → 0 < le → mx ≤ 138 → ∀ (s1 s2 s3 x6 : Int32), s1 = nI w → s2 = nI (min mx le) → s3 = nI bb → x6 = nI (min mx le) → Tt (M_tellRow_136 200000 K st step more counts y2 (nI v) (nI le) x6 s1 s2 s3) Q := by
    intro w mx bb e1 e2 e3 e4 e5 e6 e7 e8 s1 s2 s3 x6 r1 r2 r3 r4
    subst r1 r2 r3 r4
    unfold M_tellRow_136
    simp only [Tt_L, Tt_R4]
    rw [pk_sub e4]
    refine Tt_m (t_tellM h' (by omega) e6 e5 rfl rfl) ?_
    rintro ⟨_, st2, step2, more2, counts2⟩ h2
    rw [pk_sub (by omega)]
    have tb := @tms_b v le e7
    refine ih (le - min mx le) _ _ _ _ _ _ _ (by omega) ⟨rfl, rfl, le - min mx le, _, rfl, rfl, h2, ?_, ?_⟩
    · show L'.1 + 1 + (le - min mx le) ≤ 320
      omega
    · rw [← hT, @tls_s v le L' e7, e3, e1, e2]
  unfold M_tellRow_67 M_tellRow_79
  simp (disch := omega) only [Tt_C, Tt_S, i_0, i_1, i_2, i_3, i_4, i_5, i_6, i_7, i_8, i_9, i_10, i_11, i_13, i_14, i_15, i_16, i_17, i_18, i_19, i_24, i_29, i_30, i_31, i_32, i_138, i_143, i_144, i_254, i_255, i_256, i_257, i_258, i_261, i_264, i_265, i_279, i_280, i_284, i_285, i_286, i_288, i_319, i_320, i_338, i_339, i_575, i_576, i_599, i_600, i_4096, i_8191, i_8192, i_8249, i_8250, i_8256, i_9000, i_16384, i_32767, i_32768, i_65520, i_65521, i_65535, i_65536, i_65999, i_66000, i_1300, i_120, i_156, nI_leI, nI_ltI]
  by_cases z : v ≤ 0
  · rw [if_pos z, if_pos z]
    by_cases y : le < 11
    · rw [if_pos y]
      unfold M_tellRow_150
      simp (disch := omega) only [Tt_C, Tt_S, Tt_L, i_0, i_1, i_2, i_3, i_4, i_5, i_6, i_7, i_8, i_9, i_10, i_11, i_13, i_14, i_15, i_16, i_17, i_18, i_19, i_24, i_29, i_30, i_31, i_32, i_138, i_143, i_144, i_254, i_255, i_256, i_257, i_258, i_261, i_264, i_265, i_279, i_280, i_284, i_285, i_286, i_288, i_319, i_320, i_338, i_339, i_575, i_576, i_599, i_600, i_4096, i_8191, i_8192, i_8249, i_8250, i_8256, i_9000, i_16384, i_32767, i_32768, i_65520, i_65521, i_65535, i_65536, i_65999, i_66000, i_1300, i_120, i_156, nI_eq, nI_ltI]
      rw [if_pos (by omega)]
      by_cases y3 : le < 3
      · rw [if_pos y3]
        exact t_tell173 h' hv y3 hL' rfl rfl hT hQ
      · rw [if_neg y3, pk_sub (by omega), Tt_R4]
        refine Tt_m (t_tellM h' (by omega) (a := 17) (b := le - 3) (by omega) (by show le - 3 < 8; omega) rfl rfl) ?_
        rintro ⟨_, st2, step2, more2, counts2⟩ h2
        refine t_tell173 h2 hv (left := 0) (by omega) ?_ rfl rfl ?_ hQ
        · show L'.1 + 1 + 0 ≤ 320
          omega
        · rw [← hT, @tls_s v le L' (by omega)]
          have w1 : wht v le = 17 := by unfold wht; rw [if_neg y3, if_neg (by omega), if_pos y]
          have w2 : tms v le = le := by unfold tms; rw [if_neg y3, if_neg (by omega), if_pos y]
          have w3 : mor v le = le - 3 := by unfold mor; rw [if_neg y3, if_neg (by omega), if_pos y]
          rw [w1, w2, w3, Nat.sub_self]
    · rw [if_neg y]
      unfold M_tellRow_94 M_tellRow_110 M_tellRow_124
      simp (disch := omega) only [Tt_C, Tt_S, i_0, i_1, i_2, i_3, i_4, i_5, i_6, i_7, i_8, i_9, i_10, i_11, i_13, i_14, i_15, i_16, i_17, i_18, i_19, i_24, i_29, i_30, i_31, i_32, i_138, i_143, i_144, i_254, i_255, i_256, i_257, i_258, i_261, i_264, i_265, i_279, i_280, i_284, i_285, i_286, i_288, i_319, i_320, i_338, i_339, i_575, i_576, i_599, i_600, i_4096, i_8191, i_8192, i_8249, i_8250, i_8256, i_9000, i_16384, i_32767, i_32768, i_65520, i_65521, i_65535, i_65536, i_65999, i_66000, i_1300, i_120, i_156, nI_leI]
      have w1 : (18 : Nat) = wht v le := by unfold wht; rw [if_neg (by omega), if_neg (by omega), if_neg y]
      have w2 : min 138 le = tms v le := by unfold tms; rw [if_neg (by omega), if_neg (by omega), if_neg y]
      have w3 : min 138 le - 11 = mor v le := by unfold mor; rw [if_neg (by omega), if_neg (by omega), if_neg y, ← w2]
      by_cases q : 138 ≤ le
      · rw [if_pos q, if_pos z, if_pos z]
        exact big 18 138 11 w1 w2 w3 (by omega) (by show _ < 128; omega) (by omega) (by omega) (by omega) _ _ _ _ rfl (by exact congrArg nI (by omega)) rfl (by exact congrArg nI (by omega))
      · rw [if_neg q, if_pos z, if_pos z]
        exact big 18 138 11 w1 w2 w3 (by omega) (by show _ < 128; omega) (by omega) (by omega) (by omega) _ _ _ _ rfl (by exact congrArg nI (by omega)) rfl (by exact congrArg nI (by omega))
  · rw [if_neg z, if_neg z]
    by_cases y : le < 3
    · rw [if_pos y]
      unfold M_tellRow_150
      simp (disch := omega) only [Tt_C, Tt_S, i_0, i_1, i_2, i_3, i_4, i_5, i_6, i_7, i_8, i_9, i_10, i_11, i_13, i_14, i_15, i_16, i_17, i_18, i_19, i_24, i_29, i_30, i_31, i_32, i_138, i_143, i_144, i_254, i_255, i_256, i_257, i_258, i_261, i_264, i_265, i_279, i_280, i_284, i_285, i_286, i_288, i_319, i_320, i_338, i_339, i_575, i_576, i_599, i_600, i_4096, i_8191, i_8192, i_8249, i_8250, i_8256, i_9000, i_16384, i_32767, i_32768, i_65520, i_65521, i_65535, i_65536, i_65999, i_66000, i_1300, i_120, i_156, nI_eq]
      rw [if_neg (by omega)]
      exact t_tell173 h' hv y hL' rfl rfl hT hQ
    · rw [if_neg y]
      unfold M_tellRow_94 M_tellRow_110 M_tellRow_124
      simp (disch := omega) only [Tt_C, Tt_S, i_0, i_1, i_2, i_3, i_4, i_5, i_6, i_7, i_8, i_9, i_10, i_11, i_13, i_14, i_15, i_16, i_17, i_18, i_19, i_24, i_29, i_30, i_31, i_32, i_138, i_143, i_144, i_254, i_255, i_256, i_257, i_258, i_261, i_264, i_265, i_279, i_280, i_284, i_285, i_286, i_288, i_319, i_320, i_338, i_339, i_575, i_576, i_599, i_600, i_4096, i_8191, i_8192, i_8249, i_8250, i_8256, i_9000, i_16384, i_32767, i_32768, i_65520, i_65521, i_65535, i_65536, i_65999, i_66000, i_1300, i_120, i_156, nI_leI]
      have w1 : (16 : Nat) = wht v le := by unfold wht; rw [if_neg (by omega), if_pos (by omega)]
      have w2 : min 6 le = tms v le := by unfold tms; rw [if_neg (by omega), if_pos (by omega)]
      have w3 : min 6 le - 3 = mor v le := by unfold mor; rw [if_neg (by omega), if_pos (by omega), ← w2]
      by_cases q : 6 ≤ le
      · rw [if_pos q, if_neg z, if_neg z]
        exact big 16 6 3 w1 w2 w3 (by omega) (by show _ < 4; omega) (by omega) (by omega) (by omega) _ _ _ _ rfl (by exact congrArg nI (by omega)) rfl (by exact congrArg nI (by omega))
      · rw [if_neg q, if_neg z, if_neg z]
        exact big 16 6 3 w1 w2 w3 (by omega) (by show _ < 4; omega) (by omega) (by omega) (by omega) _ _ _ _ rfl (by exact congrArg nI (by omega)) rfl (by exact congrArg nI (by omega))
theorem t_tellRowM {st x1 : Int32} {row step more counts c0 : Nat → Int32} {f : Nat → Nat} {n : Nat} (h1 : x1 = nI n) (hn : n ≤ 320) (hrow : ∀ i, i < n → row i = nI (f i)) (hf : ∀ i, i < n → f i ≤ 15) (hc : ∀ s, s < 19 → counts (320 + s) = nI 0) (hc0 : ∀ j, j < 320 → counts j = c0 j) : Tt (M_tellRow 200000 row st step more counts x1) (fun u => RT u.2.1 u.2.2.1 u.2.2.2.1 u.2.2.2.2 c0 (told f n)) := by
  subst h1
  unfold M_tellRow
  refine Tt_W5 (fun mm st step more counts x2 => ∃ k L, x2 = nI k ∧ k ≤ n ∧ mm = n - k ∧ RT st step more counts c0 L ∧ L.1 ≤ k ∧ rws f n (n - k) k L = told f n) ?_ 200000 n 0 step more counts 0 (by omega) ⟨0, (0, fun _ => 0, fun _ => 0), rfl, by omega, rfl, ⟨rfl, fun t ht => absurd ht (Nat.not_lt_zero t), hc, hc0, fun t ht => absurd ht (Nat.not_lt_zero t)⟩, Nat.le_refl 0, rfl⟩
  rintro K mm st step more counts x2 ⟨k, L, rfl, hk, rfl, hC, hLk, hT⟩ ih
  unfold M_tellRow_7
  by_cases z : n ≤ k
  · simp (disch := omega) only [Tt_C, Tt_S, nI_leI]
    rw [if_pos z]
    rw [show n - k = 0 by omega] at hT
    have hT' : L = told f n := hT
    rw [← hT']
    first | exact hC | exact Tt_Si hC
  · have fk := hf k (by omega)
    have rk' := hrow k (by omega)
    simp (disch := omega) only [Tt_C, Tt_S, Tt_L, i_0, i_1, i_2, i_3, i_4, i_5, i_6, i_7, i_8, i_9, i_10, i_11, i_13, i_14, i_15, i_16, i_17, i_18, i_19, i_24, i_29, i_30, i_31, i_32, i_138, i_143, i_144, i_254, i_255, i_256, i_257, i_258, i_261, i_264, i_265, i_279, i_280, i_284, i_285, i_286, i_288, i_319, i_320, i_338, i_339, i_575, i_576, i_599, i_600, i_4096, i_8191, i_8192, i_8249, i_8250, i_8256, i_9000, i_16384, i_32767, i_32768, i_65520, i_65521, i_65535, i_65536, i_65999, i_66000, i_1300, i_120, i_156, nI_leI, Tt_N, nI_clamp, rk']
    rw [if_neg z]
    refine ⟨by omega, ?_⟩
    refine Tt_W7 (fun mm st' step' more' counts' x2 x3 x4 => st' = st ∧ step' = step ∧ more' = more ∧ counts' = counts ∧ x2 = nI k ∧ x3 = nI (f k) ∧ ∃ j, x4 = nI j ∧ k + j ≤ n ∧ mm = n - k - j ∧ ∀ i, i < j → f (k + i) = f k) ?_ 200000 (n - k) _ _ _ _ _ _ _ (by omega) ⟨rfl, rfl, rfl, rfl, rfl, rfl, 0, rfl, by omega, rfl, fun i hi => by omega⟩
    rintro K2 mm st' step' more' counts' x2 x3 x4 ⟨rfl, rfl, rfl, rfl, rfl, rfl, j, rfl, hkj, rfl, hall⟩ ih2
    have out : 1 ≤ j → (k + j = n ∨ f (k + j) ≠ f k) → Tt (M_tellRow_49 200000 K st' step' more' counts' (nI k) (nI (f k)) (nI j)) (fun u => RT u.2.1 u.2.2.1 u.2.2.2.1 u.2.2.2.2 c0 (told f n)) := by
      intro hj h4
      have es := stl_e (f := f) (n := n) (k := k) (j := j) (by omega) hj hkj hall h4
      have nn := @tlv_n (f k) j L hj
      have fin : ∀ st2 step2 more2 counts2, RT st2 step2 more2 counts2 c0 (tlv (f k) j L) → Tt (K st2 step2 more2 counts2 (nI (k + j))) (fun u => RT u.2.1 u.2.2.1 u.2.2.2.1 u.2.2.2.2 c0 (told f n)) := by
        intro st2 step2 more2 counts2 h2
        refine ih (n - (k + j)) _ _ _ _ _ (by omega) ⟨k + j, tlv (f k) j L, rfl, hkj, rfl, h2, by omega, ?_⟩
        have := @rws_s f n k L (by omega)
        rw [es] at this
        rw [← this]
        exact hT
      unfold M_tellRow_49
      simp (disch := omega) only [Tt_C, Tt_S, Tt_L, i_0, i_1, i_2, i_3, i_4, i_5, i_6, i_7, i_8, i_9, i_10, i_11, i_13, i_14, i_15, i_16, i_17, i_18, i_19, i_24, i_29, i_30, i_31, i_32, i_138, i_143, i_144, i_254, i_255, i_256, i_257, i_258, i_261, i_264, i_265, i_279, i_280, i_284, i_285, i_286, i_288, i_319, i_320, i_338, i_339, i_575, i_576, i_599, i_600, i_4096, i_8191, i_8192, i_8249, i_8250, i_8256, i_9000, i_16384, i_32767, i_32768, i_65520, i_65521, i_65535, i_65536, i_65999, i_66000, i_1300, i_120, i_156, nI_leI, nI_add, n_dec2]
      by_cases w : f k ≤ 0
      · rw [if_pos w]
        refine t_tell67 hC fk (by omega) rfl rfl ?_ fin
        unfold tlv
        rw [if_neg (by omega)]
      · rw [if_neg w, Tt_R4]
        refine Tt_m (t_tellM hC (by omega) (a := f k) (b := 0) (by omega) (Nat.two_pow_pos _) rfl rfl) ?_
        rintro ⟨_, st2, step2, more2, counts2⟩ h2
        refine t_tell67 h2 fk ?_ rfl rfl ?_ fin
        · show L.1 + 1 + (j - 1) ≤ 320
          omega
        · unfold tlv
          rw [if_pos (by omega)]
    unfold M_tellRow_22
    by_cases y : n ≤ k + j
    · simp (disch := omega) only [Tt_C, Tt_S, nI_add, nI_leI]
      rw [if_pos y]
      exact out (by omega) (Or.inl (by omega))
    · have rj := hrow (k + j) (by omega)
      have fj := hf (k + j) (by omega)
      simp (disch := omega) only [Tt_C, Tt_S, Tt_L, i_0, i_1, i_2, i_3, i_4, i_5, i_6, i_7, i_8, i_9, i_10, i_11, i_13, i_14, i_15, i_16, i_17, i_18, i_19, i_24, i_29, i_30, i_31, i_32, i_138, i_143, i_144, i_254, i_255, i_256, i_257, i_258, i_261, i_264, i_265, i_279, i_280, i_284, i_285, i_286, i_288, i_319, i_320, i_338, i_339, i_575, i_576, i_599, i_600, i_4096, i_8191, i_8192, i_8249, i_8250, i_8256, i_9000, i_16384, i_32767, i_32768, i_65520, i_65521, i_65535, i_65536, i_65999, i_66000, i_1300, i_120, i_156, nI_add, nI_leI, Tt_N, nI_clamp, rj, nI_eq]
      rw [if_neg y]
      refine ⟨by omega, ?_⟩
      by_cases w : f (k + j) = f k
      · rw [if_pos w]
        refine ih2 (n - k - (j + 1)) _ _ _ _ _ _ _ (by omega) ⟨rfl, rfl, rfl, rfl, rfl, rfl, j + 1, rfl, by omega, rfl, fun i hi => ?_⟩
        by_cases e : i = j
        · rw [e]; exact w
        · exact hall i (by omega)
      · rw [if_neg w]
        have : j ≠ 0 := fun e => w (by rw [e, Nat.add_zero])
        exact out (by omega) (Or.inr w)
/-! how many bits: program and reference count the same -/
def usd (f : Nat → Nat) : Nat → Nat
  | 0 => 0
  | n + 1 => if f n = 0 then usd f n else n + 1
theorem usd_le (f : Nat → Nat) : ∀ n, usd f n ≤ n := by
  intro n
  induction n with
  | zero => exact Nat.le_refl 0
  | succ n ih =>
    show (if f n = 0 then usd f n else n + 1) ≤ n + 1
    split <;> omega
theorem t_used {N : Nat} {lens : Nat → Int32} {f : Nat → Nat} (hN : N ≤ 339) (hL : ∀ i, i < N → lens i = nI (f i)) (hf : ∀ i, i < N → f i ≤ 15) : Tt (Code_used 200000 N lens) (fun u => u.1 = nI (usd f N)) := by
  unfold Code_used
  simp only [Tt_L]
  refine Tt_W1 (fun mm x1 => ∃ k, x1 = nI k ∧ k ≤ N ∧ k = mm ∧ usd f N = usd f k) ?_ 200000 N _ (by omega) ⟨N, rfl, Nat.le_refl N, rfl, rfl⟩
  rintro K mm x1 ⟨k, rfl, hk, rfl, hu⟩ ih
  unfold Code_used_6
  by_cases z : k = 0
  · subst z
    simp only [Tt_C, Tt_S]
    rw [if_pos (by decide)]
    rw [hu]; rfl
  · have e1 : nI k - nI 1 = nI (k - 1) := pk_sub (by omega)
    have l1 := hL (k - 1) (by omega)
    have f1 := hf (k - 1) (by omega)
    obtain ⟨d, rfl⟩ : ∃ d, k = d + 1 := ⟨k - 1, by omega⟩
    rw [Nat.add_sub_cancel] at l1 f1 e1
    simp (disch := omega) only [Tt_L, Tt_S, Tt_C, Tt_Z, Tt_R0, Tt_R1, Tt_R2, Tt_R3, Tt_R4, Tt_R5, q10, eq_self, Nat.not_lt_zero, if_true, if_false, i_0, i_1, i_2, i_3, i_4, i_5, i_6, i_7, i_8, i_9, i_10, i_11, i_13, i_14, i_15, i_16, i_17, i_18, i_19, i_24, i_29, i_30, i_31, i_32, i_138, i_143, i_144, i_254, i_255, i_256, i_257, i_258, i_261, i_264, i_265, i_279, i_280, i_284, i_285, i_286, i_288, i_319, i_320, i_338, i_339, i_575, i_576, i_599, i_600, i_4096, i_8191, i_8192, i_8249, i_8250, i_8256, i_9000, i_16384, i_32767, i_32768, i_65520, i_65521, i_65535, i_65536, i_65999, i_66000, i_1300, i_120, i_156, nI_leI, e1, Tt_N, nI_clamp, l1, nI_eq, n_dec2, Nat.add_sub_cancel]
    rw [if_neg (by omega)]
    refine ⟨by omega, ?_⟩
    by_cases y : f d = 0
    · rw [if_pos y]
      refine ih d _ (by omega) ⟨d, rfl, by omega, rfl, ?_⟩
      rw [hu]
      show (if f d = 0 then usd f d else d + 1) = usd f d
      rw [if_pos y]
    · rw [if_neg y, hu]
      show nI (d + 1) = nI (if f d = 0 then usd f d else d + 1)
      rw [if_neg y]
theorem t_needed {a n least : Nat} {lens : Nat → Int32} {f : Nat → Nat} {x1 x2 x3 : Int32} (h1 : x1 = nI a) (h2 : x2 = nI n) (h3 : x3 = nI least) (hn : a + n ≤ 339) (h0 : 1 ≤ least) (hl : least ≤ n) (hL : ∀ i, i < n → lens (a + i) = nI (f i)) (hf : ∀ i, i < n → f i ≤ 15) : Tt (M_needed 200000 lens x1 x2 x3) (fun u => u.1 = nI (max least (usd f n))) := by
  subst h1 h2 h3
  unfold M_needed
  refine Tt_W1 (fun mm x4 => ∃ k, x4 = nI k ∧ k ≤ n ∧ least ≤ k ∧ k = mm ∧ usd f n = usd f k) ?_ 200000 n _ (by omega) ⟨n, rfl, Nat.le_refl n, hl, rfl, rfl⟩
  rintro K mm x4 ⟨k, rfl, hk, hlk, rfl, hu⟩ ih
  have ul := usd_le f k
  unfold M_needed_3
  by_cases z : k ≤ least
  · simp (disch := omega) only [Tt_C, Tt_S, nI_leI]
    rw [if_pos z, hu]
    show nI k = nI _
    congr 1
    omega
  · obtain ⟨d, rfl⟩ : ∃ d, k = d + 1 := ⟨k - 1, by omega⟩
    have e1 : nI (a + (d + 1)) - nI 1 = nI (a + d) := pk_sub (by omega)
    have l1 := hL d (by omega)
    have f1 := hf d (by omega)
    simp (disch := omega) only [Tt_L, Tt_S, Tt_C, Tt_Z, Tt_R0, Tt_R1, Tt_R2, Tt_R3, Tt_R4, Tt_R5, q10, eq_self, Nat.not_lt_zero, if_true, if_false, i_0, i_1, i_2, i_3, i_4, i_5, i_6, i_7, i_8, i_9, i_10, i_11, i_13, i_14, i_15, i_16, i_17, i_18, i_19, i_24, i_29, i_30, i_31, i_32, i_138, i_143, i_144, i_254, i_255, i_256, i_257, i_258, i_261, i_264, i_265, i_279, i_280, i_284, i_285, i_286, i_288, i_319, i_320, i_338, i_339, i_575, i_576, i_599, i_600, i_4096, i_8191, i_8192, i_8249, i_8250, i_8256, i_9000, i_16384, i_32767, i_32768, i_65520, i_65521, i_65535, i_65536, i_65999, i_66000, i_1300, i_120, i_156, nI_leI, nI_add, e1, Tt_N, nI_clamp, l1, nI_eq, n_dec2, Nat.add_sub_cancel]
    rw [if_neg z]
    refine ⟨by omega, ?_⟩
    have hud : usd f (d + 1) = if f d = 0 then usd f d else d + 1 := rfl
    by_cases y : f d = 0
    · rw [if_pos y]
      rw [if_pos y] at hud
      exact ih d _ (by omega) ⟨d, rfl, by omega, by omega, rfl, by rw [hu, hud]⟩
    · rw [if_neg y, hu, hud, if_neg y]
      omega
theorem t_bitsFor {N M : Nat} {lens cs : Nat → Int32} {f c : Nat → Nat} (hN : N ≤ 339) (hM : M ≤ 339) (hL : ∀ i, i < N → lens i = nI (f i)) (hC : ∀ i, i < M → cs i = nI (c i)) : Tt (Code_bitsFor 200000 N M lens cs) (fun u => u.1 = nI (sm (fun s => f s * c s) (min N M))) := by
  unfold Code_bitsFor
  refine Tt_W2 (fun mm x2 x3 => ∃ s, x3 = nI s ∧ s ≤ min N M ∧ mm = min N M - s ∧ x2 = nI (sm (fun s => f s * c s) s)) ?_ 200000 (min N M) 0 0 (by omega) ⟨0, rfl, by omega, rfl, rfl⟩
  rintro K mm x2 x3 ⟨s, rfl, hs, rfl, rfl⟩ ih
  unfold Code_bitsFor_4
  by_cases z : s < min N M
  · have l1 := hL s (by omega)
    have c1 := hC s (by omega)
    simp (disch := omega) only [Tt_L, Tt_S, Tt_C, Tt_Z, Tt_R0, Tt_R1, Tt_R2, Tt_R3, Tt_R4, Tt_R5, q10, eq_self, Nat.not_lt_zero, if_true, if_false, i_0, i_1, i_2, i_3, i_4, i_5, i_6, i_7, i_8, i_9, i_10, i_11, i_13, i_14, i_15, i_16, i_17, i_18, i_19, i_24, i_29, i_30, i_31, i_32, i_138, i_143, i_144, i_254, i_255, i_256, i_257, i_258, i_261, i_264, i_265, i_279, i_280, i_284, i_285, i_286, i_288, i_319, i_320, i_338, i_339, i_575, i_576, i_599, i_600, i_4096, i_8191, i_8192, i_8249, i_8250, i_8256, i_9000, i_16384, i_32767, i_32768, i_65520, i_65521, i_65535, i_65536, i_65999, i_66000, i_1300, i_120, i_156, nI_leI, nI_add, Tt_N, nI_clamp, l1, c1, pk_mul]
    rw [if_neg (by omega), if_neg (by omega)]
    exact ⟨by omega, by omega, ih (min N M - (s + 1)) _ _ (by omega) ⟨s + 1, rfl, by omega, rfl, rfl⟩⟩
  · simp (disch := omega) only [Tt_C, Tt_S, nI_leI]
    have e : s = min N M := by omega
    rw [← e]
    by_cases y : N ≤ s
    · rw [if_pos y]
    · rw [if_neg y, if_pos (by omega)]
theorem sm_add (f g : Nat → Nat) : ∀ n, sm (fun i => f i + g i) n = sm f n + sm g n := by
  intro n
  induction n with
  | zero => rfl
  | succ n ih =>
    show sm (fun i => f i + g i) n + (f n + g n) = sm f n + f n + (sm g n + g n)
    omega
theorem sm_one (h : Nat → Nat) (x : Nat) : ∀ n, sm (fun s => h s * (if x = s then 1 else 0)) n = if x < n then h x else 0 := by
  intro n
  induction n with
  | zero => rfl
  | succ n ih =>
    show sm (fun s => h s * (if x = s then 1 else 0)) n + h n * (if x = n then 1 else 0) = _
    rw [ih]
    rcases Nat.lt_trichotomy x n with z | z | z
    · rw [if_pos z, if_neg (by omega), if_pos (by omega)]; omega
    · subst z; rw [if_neg (by omega), if_pos rfl, if_pos (by omega)]; omega
    · rw [if_neg (by omega), if_neg (by omega), if_neg (by omega)]; omega
theorem sm_cn (h g : Nat → Nat) (M : Nat) : ∀ S, sm (fun s => h s * cn g s S) M = sm (fun t => if g t < M then h (g t) else 0) S := by
  intro S
  induction S with
  | zero => exact sm_0 (fun i _ => Nat.mul_zero _)
  | succ S ih =>
    show _ = sm (fun t => if g t < M then h (g t) else 0) S + (if g S < M then h (g S) else 0)
    rw [← ih, ← sm_one h (g S) M, ← sm_add]
    apply sm_c
    intro s _
    show h s * (cn g s S + (if g S = s then 1 else 0)) = _
    rw [Nat.mul_add]
/-- the bits that tokens take with lengths l (symbols from 0, distances from 288) -/
def bitN (b : Nat → Nat) (beg fin T : Nat) (l : Nat → Nat) : Nat := l 256 + sm (fun t => if tL b beg fin t = 0 then l (tV b beg fin t) else l (lsym (tL b beg fin t)) + lex (lsym (tL b beg fin t)) + l (288 + dsym (tV b beg fin t)) + dex (dsym (tV b beg fin t))) T
theorem t_bitsBy {b : Nat → Nat} {n beg fin T N : Nat} {tok : Int32} {of tl tv : Nat → Int32} {l : Nat → Nat} (hb : ∀ i, b i < 256) (hn : n ≤ 8192) (hfn : fin ≤ n) (hT : T ≤ 4096) (hpt : ∀ t, t < T → pos b beg fin t < fin) (hN0 : 320 ≤ N) (hN : N ≤ 339) (h1 : tok = nI T) (hv : ∀ t, t < T → tl t = nI (tL b beg fin t) ∧ tv t = nI (tV b beg fin t)) (hL : ∀ i, i < 320 → of i = nI (l i)) : Tt (M_bitsBy 200000 N of tok tl tv) (fun u => u.1 = nI (bitN b beg fin T l)) := by
  subst h1
  unfold M_bitsBy
  simp (disch := omega) only [Tt_L, Tt_S, Tt_C, Tt_Z, Tt_R0, Tt_R1, Tt_R2, Tt_R3, Tt_R4, Tt_R5, q10, eq_self, Nat.not_lt_zero, if_true, if_false, i_0, i_1, i_2, i_3, i_4, i_5, i_6, i_7, i_8, i_9, i_10, i_11, i_13, i_14, i_15, i_16, i_17, i_18, i_19, i_24, i_29, i_30, i_31, i_32, i_138, i_143, i_144, i_254, i_255, i_256, i_257, i_258, i_261, i_264, i_265, i_279, i_280, i_284, i_285, i_286, i_288, i_319, i_320, i_338, i_339, i_575, i_576, i_599, i_600, i_4096, i_8191, i_8192, i_8249, i_8250, i_8256, i_9000, i_16384, i_32767, i_32768, i_65520, i_65521, i_65535, i_65536, i_65999, i_66000, i_1300, i_120, i_156, Tt_N, nI_clamp, hL 256 (by omega)]
  refine ⟨by omega, ?_⟩
  refine Tt_W2 (fun mm x2 x3 => ∃ t, x3 = nI t ∧ t ≤ T ∧ mm = T - t ∧ x2 = nI (bitN b beg fin t l)) ?_ 200000 T _ _ (by omega) ⟨0, rfl, by omega, rfl, rfl⟩
  rintro K mm x2 x3 ⟨t, rfl, ht, rfl, rfl⟩ ih
  unfold M_bitsBy_8 M_bitsBy_84
  by_cases z : T ≤ t
  · simp (disch := omega) only [Tt_C, Tt_S, nI_leI]
    rw [if_pos z, show T = t by omega]
  · have tb := @tok_b b beg fin n t hb (hpt t (by omega)) hfn
    have v1 := (hv t (by omega)).1
    have v2 := (hv t (by omega)).2
    have bn : bitN b beg fin (t + 1) l = bitN b beg fin t l + (if tL b beg fin t = 0 then l (tV b beg fin t) else l (lsym (tL b beg fin t)) + lex (lsym (tL b beg fin t)) + l (288 + dsym (tV b beg fin t)) + dex (dsym (tV b beg fin t))) := by
      unfold bitN
      exact (Nat.add_assoc _ _ _).symm
    have yl := y_lsymM (tL b beg fin t) (by omega)
    simp (disch := omega) only [Tt_L, Tt_S, Tt_C, Tt_Z, Tt_R0, Tt_R1, Tt_R2, Tt_R3, Tt_R4, Tt_R5, q10, eq_self, Nat.not_lt_zero, if_true, if_false, i_0, i_1, i_2, i_3, i_4, i_5, i_6, i_7, i_8, i_9, i_10, i_11, i_13, i_14, i_15, i_16, i_17, i_18, i_19, i_24, i_29, i_30, i_31, i_32, i_138, i_143, i_144, i_254, i_255, i_256, i_257, i_258, i_261, i_264, i_265, i_279, i_280, i_284, i_285, i_286, i_288, i_319, i_320, i_338, i_339, i_575, i_576, i_599, i_600, i_4096, i_8191, i_8192, i_8249, i_8250, i_8256, i_9000, i_16384, i_32767, i_32768, i_65520, i_65521, i_65535, i_65536, i_65999, i_66000, i_1300, i_120, i_156, nI_leI, nI_add, Tt_N, nI_clamp, v1, v2, yl]
    rw [if_neg z]
    refine ⟨by omega, by omega, ?_⟩
    refine Tt_m (t_dsymM (by omega) rfl) ?_
    rintro ⟨r, _⟩ hr
    have hr' : r = nI (dsym (tV b beg fin t)) := hr
    subst hr'
    rcases tb with tb | tb
    · simp (disch := omega) only [Tt_L, Tt_S, Tt_C, Tt_Z, Tt_R0, Tt_R1, Tt_R2, Tt_R3, Tt_R4, Tt_R5, q10, eq_self, Nat.not_lt_zero, if_true, if_false, i_0, i_1, i_2, i_3, i_4, i_5, i_6, i_7, i_8, i_9, i_10, i_11, i_13, i_14, i_15, i_16, i_17, i_18, i_19, i_24, i_29, i_30, i_31, i_32, i_138, i_143, i_144, i_254, i_255, i_256, i_257, i_258, i_261, i_264, i_265, i_279, i_280, i_284, i_285, i_286, i_288, i_319, i_320, i_338, i_339, i_575, i_576, i_599, i_600, i_4096, i_8191, i_8192, i_8249, i_8250, i_8256, i_9000, i_16384, i_32767, i_32768, i_65520, i_65521, i_65535, i_65536, i_65999, i_66000, i_1300, i_120, i_156, nI_eq, Tt_N, nI_clamp, nI_add, tb.1, hL (tV b beg fin t) (by omega)]
      refine ⟨by omega, by omega, by omega, ih (T - (t + 1)) _ _ (by omega) ⟨t + 1, rfl, by omega, rfl, ?_⟩⟩
      rw [bn, if_pos tb.1]
    · have n0 : ¬ (tL b beg fin t = 0) := by omega
      have ylb := y_lsymB (tL b beg fin t) (by omega)
      have yd := @y_drest (tV b beg fin t) (by omega) (by omega)
      have yx := (y_lex (lsym (tL b beg fin t)) ylb.2 ylb.1).1
      have ye := (y_dex (dsym (tV b beg fin t)) yd.1).1
      simp (disch := omega) only [Tt_L, Tt_S, Tt_C, Tt_Z, Tt_R0, Tt_R1, Tt_R2, Tt_R3, Tt_R4, Tt_R5, q10, eq_self, Nat.not_lt_zero, if_true, if_false, i_0, i_1, i_2, i_3, i_4, i_5, i_6, i_7, i_8, i_9, i_10, i_11, i_13, i_14, i_15, i_16, i_17, i_18, i_19, i_24, i_29, i_30, i_31, i_32, i_138, i_143, i_144, i_254, i_255, i_256, i_257, i_258, i_261, i_264, i_265, i_279, i_280, i_284, i_285, i_286, i_288, i_319, i_320, i_338, i_339, i_575, i_576, i_599, i_600, i_4096, i_8191, i_8192, i_8249, i_8250, i_8256, i_9000, i_16384, i_32767, i_32768, i_65520, i_65521, i_65535, i_65536, i_65999, i_66000, i_1300, i_120, i_156, nI_eq, Tt_N, nI_clamp, nI_add, yx, ye, hL (lsym (tL b beg fin t)) (by omega), hL (288 + dsym (tV b beg fin t)) (by omega)]
      rw [if_neg n0]
      refine ⟨by omega, by omega, by omega, ih (T - (t + 1)) _ _ (by omega) ⟨t + 1, rfl, by omega, rfl, ?_⟩⟩
      rw [bn, if_neg n0]
/-- the program's sum over symbols is the reference's over tokens -/
theorem bits_eq {b : Nat → Nat} {n beg fin T : Nat} {l : Nat → Nat} (hb : ∀ i, b i < 256) (hn : n ≤ 8192) (hfn : fin ≤ n) (hpt : ∀ t, t < T → pos b beg fin t < fin) : sm (fun s => l s * (cn (sOf b beg fin) s T + (if s = 256 then 1 else 0))) 286 + sm (fun d => l (288 + d) * cn (dOf b beg fin) d T) 30 + sm (xOf b beg fin) T = bitN b beg fin T l := by
  have e1 : sm (fun s => l s * (cn (sOf b beg fin) s T + (if s = 256 then 1 else 0))) 286 = sm (fun s => l s * cn (sOf b beg fin) s T) 286 + l 256 := by
    have : sm (fun s => l s * (if 256 = s then 1 else 0)) 286 = l 256 := by rw [sm_one, if_pos (by omega)]
    rw [← this, ← sm_add]
    apply sm_c
    intro s _
    rw [Nat.mul_add]
    congr 2
    by_cases e : s = 256
    · rw [if_pos e, if_pos e.symm]
    · rw [if_neg e, if_neg (fun q => e q.symm)]
  rw [e1, sm_cn l, sm_cn (fun d => l (288 + d))]
  unfold bitN
  have key : sm (fun t => if tL b beg fin t = 0 then l (tV b beg fin t) else l (lsym (tL b beg fin t)) + lex (lsym (tL b beg fin t)) + l (288 + dsym (tV b beg fin t)) + dex (dsym (tV b beg fin t))) T = sm (fun t => ((if sOf b beg fin t < 286 then l (sOf b beg fin t) else 0) + (if dOf b beg fin t < 30 then l (288 + dOf b beg fin t) else 0)) + xOf b beg fin t) T := by
    apply sm_c
    intro t ht
    have tb := @tok_b b beg fin n t hb (hpt t ht) hfn
    unfold sOf dOf xOf
    rcases tb with tb | tb
    · rw [if_pos tb.1, if_pos tb.1, if_pos tb.1, if_pos tb.1, if_pos (by omega), if_neg (by omega)]
      omega
    · have n0 : ¬ (tL b beg fin t = 0) := by omega
      have ylb := y_lsymB (tL b beg fin t) (by omega)
      have yd := @y_drest (tV b beg fin t) (by omega) (by omega)
      rw [if_neg n0, if_neg n0, if_neg n0, if_neg n0, if_pos (by omega), if_pos (by omega)]
      omega
  rw [key, sm_add, sm_add]
  omega
theorem bitN_b {b : Nat → Nat} {n beg fin T : Nat} {l : Nat → Nat} (hb : ∀ i, b i < 256) (hn : n ≤ 8192) (hfn : fin ≤ n) (hpt : ∀ t, t < T → pos b beg fin t < fin) (hl : ∀ i, i < 320 → l i ≤ 15) : ∀ t, t ≤ T → bitN b beg fin t l ≤ 15 + 48 * t := by
  intro t
  induction t with
  | zero => intro _; have := hl 256 (by omega); show l 256 + 0 ≤ _; omega
  | succ t ih =>
    intro ht
    have i1 := ih (by omega)
    have tb := @tok_b b beg fin n t hb (hpt t (by omega)) hfn
    have bn : bitN b beg fin (t + 1) l = bitN b beg fin t l + (if tL b beg fin t = 0 then l (tV b beg fin t) else l (lsym (tL b beg fin t)) + lex (lsym (tL b beg fin t)) + l (288 + dsym (tV b beg fin t)) + dex (dsym (tV b beg fin t))) := by
      unfold bitN
      exact (Nat.add_assoc _ _ _).symm
    rw [bn]
    rcases tb with tb | tb
    · rw [if_pos tb.1]
      have := hl (tV b beg fin t) (by omega)
      omega
    · have n0 : ¬ (tL b beg fin t = 0) := by omega
      rw [if_neg n0]
      have ylb := y_lsymB (tL b beg fin t) (by omega)
      have yd := @y_drest (tV b beg fin t) (by omega) (by omega)
      have a1 := hl (lsym (tL b beg fin t)) (by omega)
      have a2 := hl (288 + dsym (tV b beg fin t)) (by omega)
      have a3 := (y_lex (lsym (tL b beg fin t)) ylb.2 ylb.1).2.2
      have a4 := (y_dex (dsym (tV b beg fin t)) yd.1).2.2
      omega
/-! tokens written: program and reference write the same -/
abbrev WS := Nat × Nat
def app (W : WS) (v k : Nat) : WS := (W.1 + k, W.2 + v * 2 ^ W.1)
def twk (b : Nat → Nat) (beg fin : Nat) (l c : Nat → Nat) (W : WS) (t : Nat) : WS := if tL b beg fin t = 0 then app W (c (tV b beg fin t)) (l (tV b beg fin t)) else app (app (app (app W (c (lsym (tL b beg fin t))) (l (lsym (tL b beg fin t)))) (tL b beg fin t - lbase (lsym (tL b beg fin t))) (lex (lsym (tL b beg fin t)))) (c (288 + dsym (tV b beg fin t))) (l (288 + dsym (tV b beg fin t)))) (tV b beg fin t - dbase (dsym (tV b beg fin t))) (dex (dsym (tV b beg fin t)))
def tws (b : Nat → Nat) (beg fin : Nat) (l c : Nat → Nat) (W : WS) : Nat → WS
  | 0 => W
  | t + 1 => twk b beg fin l c (tws b beg fin l c W t) t
/-- what a token uses has a code -/
def usdT (b : Nat → Nat) (beg fin T : Nat) (l : Nat → Nat) : Prop := 0 < l 256 ∧ ∀ t, t < T → 0 < l (sOf b beg fin t) ∧ (tL b beg fin t ≠ 0 → 0 < l (288 + dsym (tV b beg fin t)))
theorem t_writeTokC {b : Nat → Nat} {n beg fin T N1 N2 : Nat} {tc len op oc : Int32} {toks l1 c1 l2 c2 out : Nat → Int32} {l c : Nat → Nat} {W : WS} (hb : ∀ i, b i < 256) (hn : n ≤ 8192) (hfn : fin ≤ n) (hT : T ≤ 4096) (hpt : ∀ t, t < T → pos b beg fin t < fin) (htc : tc = nI T) (hv : ∀ t, t < T → toks t = nI (vOf b beg fin t)) (hN1 : 286 ≤ N1) (hN1' : N1 ≤ 288) (hN2 : 30 ≤ N2) (hN2' : N2 ≤ 32) (hl1 : ∀ s, s < 286 → l1 s = nI (l s) ∧ l s ≤ 15) (hl2 : ∀ d, d < 30 → l2 d = nI (l (288 + d)) ∧ l (288 + d) ≤ 15) (hc1 : ∀ s, s < 286 → 0 < l s → c1 s = nI (c s) ∧ c s < 2 ^ l s) (hc2 : ∀ d, d < 30 → 0 < l (288 + d) → c2 d = nI (c (288 + d)) ∧ c (288 + d) < 2 ^ l (288 + d)) (hU : usdT b beg fin T l) (h : ClsW len op oc out W.1 W.2) : Tt (Packer_writeTokens 200000 N1 N1 N2 N2 tc toks l1 c1 l2 c2 len op oc out) (fun u => ClsW u.2.1 u.2.2.1 u.2.2.2.1 u.2.2.2.2 (app (tws b beg fin l c W T) (c 256) (l 256)).1 (app (tws b beg fin l c W T) (c 256) (l 256)).2) := by
  subst htc
  unfold Packer_writeTokens
  refine Tt_W5 (fun mm len op oc out x3 => ∃ t, x3 = nI t ∧ t ≤ T ∧ mm = T - t ∧ ClsW len op oc out (tws b beg fin l c W t).1 (tws b beg fin l c W t).2) ?_ 200000 T _ _ _ _ _ (by omega) ⟨0, rfl, by omega, rfl, h⟩
  rintro K mm len op oc out x3 ⟨t, rfl, ht, rfl, hC⟩ ih
  unfold Packer_writeTokens_2
  by_cases z : T ≤ t
  · simp (disch := omega) only [Tt_C, Tt_S, nI_leI]
    rw [if_pos z]
    have et : t = T := by omega
    subst et
    unfold Packer_writeTokens_149
    rw [Tt_R4]
    refine Tt_m (t_codeWrite hC (hl1 256 (by omega)).2 (s := 256) rfl (by omega) (by omega) (hl1 256 (by omega)).1 (hc1 256 (by omega) hU.1).1 (hc1 256 (by omega) hU.1).2) ?_
    intro u hu
    first | exact hu | exact Tt_Si hu
  · have tb := @tok_b b beg fin n t hb (hpt t (by omega)) hfn
    have v1 := hv t (by omega)
    have us := (hU.2 t (by omega)).1
    have ud := (hU.2 t (by omega)).2
    have next : ∀ len' op' oc' out', ClsW len' op' oc' out' (twk b beg fin l c (tws b beg fin l c W t) t).1 (twk b beg fin l c (tws b beg fin l c W t) t).2 → Tt (K len' op' oc' out' (nI (t + 1))) (fun u => ClsW u.2.1 u.2.2.1 u.2.2.2.1 u.2.2.2.2 (app (tws b beg fin l c W T) (c 256) (l 256)).1 (app (tws b beg fin l c W T) (c 256) (l 256)).2) := by
      intro len' op' oc' out' h'
      exact ih (T - (t + 1)) _ _ _ _ _ (by omega) ⟨t + 1, rfl, by omega, rfl, h'⟩
    generalize tws b beg fin l c W t = W0 at *
    unfold twk at next
    unfold Packer_writeTokens_143
    rcases tb with tb | tb
    · have e1 : vOf b beg fin t = tV b beg fin t := if_pos tb.1
      have e2 : sOf b beg fin t = tV b beg fin t := if_pos tb.1
      rw [e1] at v1
      rw [e2] at us
      rw [if_pos tb.1] at next
      have g1 := hl1 (tV b beg fin t) (by omega)
      have g2 := hc1 (tV b beg fin t) (by omega) us
      simp (disch := omega) only [Tt_L, Tt_S, Tt_C, Tt_Z, Tt_R0, Tt_R1, Tt_R2, Tt_R3, Tt_R4, Tt_R5, q10, eq_self, Nat.not_lt_zero, if_true, if_false, i_0, i_1, i_2, i_3, i_4, i_5, i_6, i_7, i_8, i_9, i_10, i_11, i_13, i_14, i_15, i_16, i_17, i_18, i_19, i_24, i_29, i_30, i_31, i_32, i_138, i_143, i_144, i_254, i_255, i_256, i_257, i_258, i_261, i_264, i_265, i_279, i_280, i_284, i_285, i_286, i_288, i_319, i_320, i_338, i_339, i_575, i_576, i_599, i_600, i_4096, i_8191, i_8192, i_8249, i_8250, i_8256, i_9000, i_16384, i_32767, i_32768, i_65520, i_65521, i_65535, i_65536, i_65999, i_66000, i_1300, i_120, i_156, nI_leI, Tt_N, nI_clamp, v1, nI_add]
      rw [if_neg z, if_neg (by omega), if_neg (by omega)]
      refine ⟨by omega, by omega, ?_⟩
      refine Tt_m (t_codeWrite hC g1.2 rfl (by omega) (by omega) g1.1 g2.1 g2.2) ?_
      rintro ⟨_, len', op', oc', out'⟩ h'
      exact next _ _ _ _ h'
    · have n0 : ¬ (tL b beg fin t = 0) := by omega
      have e1 : vOf b beg fin t = tL b beg fin t * 65536 + tV b beg fin t := if_neg n0
      have e2 : sOf b beg fin t = lsym (tL b beg fin t) := if_neg n0
      rw [e1] at v1
      rw [e2] at us
      have ud := ud n0
      rw [if_neg n0] at next
      have ylb := y_lsymB (tL b beg fin t) (by omega)
      have yd := @y_drest (tV b beg fin t) (by omega) (by omega)
      have yx := (y_lex (lsym (tL b beg fin t)) ylb.2 ylb.1).2
      have ye := (y_dex (dsym (tV b beg fin t)) yd.1).2
      have yb := (y_lbase (lsym (tL b beg fin t)) ylb.2 ylb.1).2
      have ydb := (y_dbase (dsym (tV b beg fin t)) yd.1).2
      have yl := y_lsymP (tL b beg fin t) (by omega) (by omega)
      have yr := y_lrest (tL b beg fin t) (by omega) (by omega)
      have q1 : (tL b beg fin t * 65536 + tV b beg fin t) / 2 ^ 16 = tL b beg fin t := by omega
      have q2 : (tL b beg fin t * 65536 + tV b beg fin t) % 65536 = tV b beg fin t := by omega
      have g1 := hl1 (lsym (tL b beg fin t)) (by omega)
      have g2 := hc1 (lsym (tL b beg fin t)) (by omega) us
      have g3 := hl2 (dsym (tV b beg fin t)) (by omega)
      have g4 := hc2 (dsym (tV b beg fin t)) (by omega) ud
      simp (disch := omega) only [Tt_L, Tt_S, Tt_C, Tt_Z, Tt_R0, Tt_R1, Tt_R2, Tt_R3, Tt_R4, Tt_R5, q10, eq_self, Nat.not_lt_zero, if_true, if_false, i_0, i_1, i_2, i_3, i_4, i_5, i_6, i_7, i_8, i_9, i_10, i_11, i_13, i_14, i_15, i_16, i_17, i_18, i_19, i_24, i_29, i_30, i_31, i_32, i_138, i_143, i_144, i_254, i_255, i_256, i_257, i_258, i_261, i_264, i_265, i_279, i_280, i_284, i_285, i_286, i_288, i_319, i_320, i_338, i_339, i_575, i_576, i_599, i_600, i_4096, i_8191, i_8192, i_8249, i_8250, i_8256, i_9000, i_16384, i_32767, i_32768, i_65520, i_65521, i_65535, i_65536, i_65999, i_66000, i_1300, i_120, i_156, nI_leI, Tt_N, nI_clamp, v1, nI_add, n_shr, n_65535, q1, q2, yl, yx.1, yb.1]
      rw [if_neg z, if_neg (by omega), if_pos (by omega)]
      refine ⟨by omega, by omega, ?_⟩
      refine Tt_m (t_codeWrite hC g1.2 rfl (by omega) (by omega) g1.1 g2.1 g2.2) ?_
      rintro ⟨_, len', op', oc', out'⟩ h'
      dsimp only
      rw [pk_sub yr.1]
      refine Tt_m (t_number h' (by omega) yr.2 rfl rfl) ?_
      rintro ⟨_, len2, op2, oc2, out2⟩ h2
      dsimp only
      refine ⟨by omega, ?_⟩
      refine Tt_m (t_dsymP (by omega) (by omega) rfl) ?_
      rintro ⟨r, _⟩ hr
      have hr' : r = nI (dsym (tV b beg fin t)) := hr
      subst hr'
      simp (disch := omega) only [Tt_L, Tt_S, Tt_C, Tt_Z, Tt_R0, Tt_R1, Tt_R2, Tt_R3, Tt_R4, Tt_R5, q10, eq_self, Nat.not_lt_zero, if_true, if_false, ye.1, ydb.1]
      refine Tt_m (t_codeWrite h2 g3.2 rfl (by omega) (by omega) g3.1 g4.1 g4.2) ?_
      rintro ⟨_, len3, op3, oc3, out3⟩ h3
      dsimp only
      rw [pk_sub yd.2.1]
      refine Tt_m (t_number h3 (by omega) yd.2.2 rfl rfl) ?_
      rintro ⟨_, len4, op4, oc4, out4⟩ h4
      exact next _ _ _ _ h4
/-- codes turned round, of all symbols and distances -/
def cAll (l : Nat → Nat) (s : Nat) : Nat := if s < 288 then rv (cde l 288 s) (l s) else rv (cde (fun d => l (288 + d)) 32 (s - 288)) (l s)
theorem tws_n {b : Nat → Nat} {n beg fin T : Nat} {l c : Nat → Nat} {W : WS} (hb : ∀ i, b i < 256) (hn : n ≤ 8192) (hfn : fin ≤ n) (hpt : ∀ t, t < T → pos b beg fin t < fin) (hl : ∀ i, i < 320 → l i ≤ 15) : ∀ t, t ≤ T → (tws b beg fin l c W t).1 ≤ W.1 + 48 * t := by
  intro t
  induction t with
  | zero => intro _; exact Nat.le_refl _
  | succ t ih =>
    intro ht
    have i1 := ih (by omega)
    have tb := @tok_b b beg fin n t hb (hpt t (by omega)) hfn
    show (twk b beg fin l c (tws b beg fin l c W t) t).1 ≤ _
    unfold twk
    rcases tb with tb | tb
    · rw [if_pos tb.1]
      have := hl (tV b beg fin t) (by omega)
      show (tws b beg fin l c W t).1 + l (tV b beg fin t) ≤ _
      omega
    · rw [if_neg (by omega)]
      have ylb := y_lsymB (tL b beg fin t) (by omega)
      have yd := @y_drest (tV b beg fin t) (by omega) (by omega)
      have a1 := hl (lsym (tL b beg fin t)) (by omega)
      have a2 := hl (288 + dsym (tV b beg fin t)) (by omega)
      have a3 := (y_lex (lsym (tL b beg fin t)) ylb.2 ylb.1).2.2
      have a4 := (y_dex (dsym (tV b beg fin t)) yd.1).2.2
      show (tws b beg fin l c W t).1 + l (lsym (tL b beg fin t)) + lex (lsym (tL b beg fin t)) + l (288 + dsym (tV b beg fin t)) + dex (dsym (tV b beg fin t)) ≤ _
      omega
theorem t_writeTokM {b : Nat → Nat} {n beg fin T N : Nat} {tok bits : Int32} {of tl tv codes packed : Nat → Int32} {l : Nat → Nat} {W : WS} (hb : ∀ i, b i < 256) (hn : n ≤ 8192) (hfn : fin ≤ n) (hT : T ≤ 4096) (hpt : ∀ t, t < T → pos b beg fin t < fin) (htc : tok = nI T) (hv : ∀ t, t < T → tl t = nI (tL b beg fin t) ∧ tv t = nI (tV b beg fin t)) (hN0 : 320 ≤ N) (hN : N ≤ 339) (hL : ∀ i, i < 320 → of i = nI (l i)) (hl : ∀ i, i < 320 → l i ≤ 15) (hU : usdT b beg fin T l) (hW : W.1 ≤ 300000) (h : RefW bits packed W.1 W.2) : Tt (M_writeTokens 200000 N tok of tl tv bits codes packed) (fun u => RefW u.2.1 u.2.2.2 (app (tws b beg fin l (cAll l) W T) (cAll l 256) (l 256)).1 (app (tws b beg fin l (cAll l) W T) (cAll l 256) (l 256)).2) := by
  subst htc
  unfold M_writeTokens
  rw [Tt_R1]
  refine Tt_m (t_makeCodes (a := 0) (N := 288) (f := l) rfl rfl (by omega) hN (fun i hi => by rw [Nat.zero_add]; exact hL i (by omega)) (fun i hi => hl i (by omega))) ?_
  rintro ⟨_, co1⟩ ⟨k1, k2⟩
  rw [Tt_R1]
  refine Tt_m (t_makeCodes (a := 288) (N := 32) (f := fun d => l (288 + d)) rfl rfl (by omega) hN (fun i hi => hL (288 + i) (by omega)) (fun i hi => hl (288 + i) (by omega))) ?_
  rintro ⟨_, co2⟩ ⟨k3, k4⟩
  dsimp only at k1 k2 k3 k4 ⊢
  have cS : ∀ s, s < 288 → 0 < l s → co2 s = nI (cde l 288 s) := fun s hs h0 => by
    rw [k4 s (Or.inl hs)]
    have := k1 s hs h0
    rw [Nat.zero_add] at this
    exact this
  have cD : ∀ d, d < 32 → 0 < l (288 + d) → co2 (288 + d) = nI (cde (fun d => l (288 + d)) 32 d) := k3
  have cA1 : ∀ s, s < 288 → cAll l s = rv (cde l 288 s) (l s) := fun s hs => if_pos hs
  have cA2 : ∀ d, cAll l (288 + d) = rv (cde (fun d => l (288 + d)) 32 d) (l (288 + d)) := fun d => by
    unfold cAll
    rw [if_neg (by omega), show 288 + d - 288 = d by omega]
  have tn := @tws_n b n beg fin T l (cAll l) W hb hn hfn hpt hl
  refine Tt_W4 (fun mm bits co packed x2 => co = co2 ∧ ∃ t, x2 = nI t ∧ t ≤ T ∧ mm = T - t ∧ RefW bits packed (tws b beg fin l (cAll l) W t).1 (tws b beg fin l (cAll l) W t).2) ?_ 200000 T _ _ _ _ (by omega) ⟨rfl, 0, rfl, by omega, rfl, h⟩
  rintro K mm bits co packed x2 ⟨rfl, t, rfl, ht, rfl, hC⟩ ih
  have tn0 := tn t ht
  unfold M_writeTokens_21
  by_cases z : T ≤ t
  · simp (disch := omega) only [Tt_C, Tt_S, nI_leI]
    rw [if_pos z]
    have et : t = T := by omega
    subst et
    unfold M_writeTokens_140
    rw [Tt_R2]
    have l256 := hl 256 (by omega)
    refine Tt_m (t_writeCode hC (by omega) (hl 256 (by omega)) (s := 256) rfl (by omega) hN (hL 256 (by omega)) (cS 256 (by omega) hU.1) (by have := @cde_b l 288 256 (by omega) (hl 256 (by omega)) (by omega); omega)) ?_
    intro u hu
    rw [cA1 256 (by omega)]
    first | exact hu | exact Tt_Si hu
  · have tb := @tok_b b beg fin n t hb (hpt t (by omega)) hfn
    have v1 := (hv t (by omega)).1
    have v2 := (hv t (by omega)).2
    have us := (hU.2 t (by omega)).1
    have ud := (hU.2 t (by omega)).2
    have next : ∀ bits' packed', RefW bits' packed' (twk b beg fin l (cAll l) (tws b beg fin l (cAll l) W t) t).1 (twk b beg fin l (cAll l) (tws b beg fin l (cAll l) W t) t).2 → Tt (K bits' co packed' (nI (t + 1))) (fun u => RefW u.2.1 u.2.2.2 (app (tws b beg fin l (cAll l) W T) (cAll l 256) (l 256)).1 (app (tws b beg fin l (cAll l) W T) (cAll l 256) (l 256)).2) := by
      intro bits' packed' h'
      exact ih (T - (t + 1)) _ _ _ _ (by omega) ⟨rfl, t + 1, rfl, by omega, rfl, h'⟩
    generalize tws b beg fin l (cAll l) W t = W0 at *
    unfold twk at next
    unfold M_writeTokens_56 M_writeTokens_134
    rcases tb with tb | tb
    · have e2 : sOf b beg fin t = tV b beg fin t := if_pos tb.1
      rw [e2] at us
      rw [if_pos tb.1, cA1 _ (by omega)] at next
      have lb := hl (tV b beg fin t) (by omega)
      have cb := @cde_b l 288 (tV b beg fin t) (by omega) lb (by omega)
      rw [tb.1] at v1
      simp (disch := omega) only [Tt_L, Tt_S, Tt_C, Tt_Z, Tt_R0, Tt_R1, Tt_R2, Tt_R3, Tt_R4, Tt_R5, q10, eq_self, Nat.not_lt_zero, if_true, if_false, i_0, i_1, i_2, i_3, i_4, i_5, i_6, i_7, i_8, i_9, i_10, i_11, i_13, i_14, i_15, i_16, i_17, i_18, i_19, i_24, i_29, i_30, i_31, i_32, i_138, i_143, i_144, i_254, i_255, i_256, i_257, i_258, i_261, i_264, i_265, i_279, i_280, i_284, i_285, i_286, i_288, i_319, i_320, i_338, i_339, i_575, i_576, i_599, i_600, i_4096, i_8191, i_8192, i_8249, i_8250, i_8256, i_9000, i_16384, i_32767, i_32768, i_65520, i_65521, i_65535, i_65536, i_65999, i_66000, i_1300, i_120, i_156, nI_leI, Tt_N, nI_clamp, v1, v2, nI_add]
      rw [if_neg z]
      refine ⟨by omega, by omega, ?_⟩
      refine Tt_m (t_writeCode hC (by omega) lb rfl (by omega) hN (hL _ (by omega)) (cS _ (by omega) us) (by omega)) ?_
      rintro ⟨_, bits', packed'⟩ h'
      dsimp only
      refine ⟨by omega, ?_⟩
      rw [if_pos (Nat.le_refl 0)]
      exact next _ _ h'
    · have n0 : ¬ (tL b beg fin t = 0) := by omega
      have e2 : sOf b beg fin t = lsym (tL b beg fin t) := if_neg n0
      rw [e2] at us
      have ud := ud n0
      have ylb := y_lsymB (tL b beg fin t) (by omega)
      have yd := @y_drest (tV b beg fin t) (by omega) (by omega)
      rw [if_neg n0, cA1 _ (by omega), cA2] at next
      have yx := y_lex (lsym (tL b beg fin t)) ylb.2 ylb.1
      have ye := y_dex (dsym (tV b beg fin t)) yd.1
      have yb := y_lbase (lsym (tL b beg fin t)) ylb.2 ylb.1
      have ydb := y_dbase (dsym (tV b beg fin t)) yd.1
      have yl := y_lsymM (tL b beg fin t) (by omega)
      have yr := y_lrest (tL b beg fin t) (by omega) (by omega)
      have lb1 := hl (lsym (tL b beg fin t)) (by omega)
      have lb2 := hl (288 + dsym (tV b beg fin t)) (by omega)
      have cb1 := @cde_b l 288 (lsym (tL b beg fin t)) (by omega) lb1 (by omega)
      have cb2 := @cde_b (fun d => l (288 + d)) 32 (dsym (tV b beg fin t)) (by omega) lb2 (by omega)
      simp (disch := omega) only [Tt_L, Tt_S, Tt_C, Tt_Z, Tt_R0, Tt_R1, Tt_R2, Tt_R3, Tt_R4, Tt_R5, q10, eq_self, Nat.not_lt_zero, if_true, if_false, i_0, i_1, i_2, i_3, i_4, i_5, i_6, i_7, i_8, i_9, i_10, i_11, i_13, i_14, i_15, i_16, i_17, i_18, i_19, i_24, i_29, i_30, i_31, i_32, i_138, i_143, i_144, i_254, i_255, i_256, i_257, i_258, i_261, i_264, i_265, i_279, i_280, i_284, i_285, i_286, i_288, i_319, i_320, i_338, i_339, i_575, i_576, i_599, i_600, i_4096, i_8191, i_8192, i_8249, i_8250, i_8256, i_9000, i_16384, i_32767, i_32768, i_65520, i_65521, i_65535, i_65536, i_65999, i_66000, i_1300, i_120, i_156, nI_leI, nI_eq, Tt_N, nI_clamp, v1, v2, nI_add, yl]
      rw [if_neg z, if_neg n0]
      refine ⟨by omega, by omega, ?_⟩
      refine Tt_m (t_writeCode hC (by omega) lb1 rfl (by omega) hN (hL _ (by omega)) (cS _ (by omega) us) (by omega)) ?_
      rintro ⟨_, bits', packed'⟩ h'
      dsimp only
      rw [if_neg (by omega)]
      refine ⟨by omega, by omega, ?_⟩
      refine Tt_m (t_dsymM (by omega) rfl) ?_
      rintro ⟨r, _⟩ hr
      have hr' : r = nI (dsym (tV b beg fin t)) := hr
      subst hr'
      simp (disch := omega) only [Tt_L, Tt_S, Tt_C, Tt_Z, Tt_R0, Tt_R1, Tt_R2, Tt_R3, Tt_R4, Tt_R5, q10, eq_self, Nat.not_lt_zero, if_true, if_false, i_0, i_1, i_2, i_3, i_4, i_5, i_6, i_7, i_8, i_9, i_10, i_11, i_13, i_14, i_15, i_16, i_17, i_18, i_19, i_24, i_29, i_30, i_31, i_32, i_138, i_143, i_144, i_254, i_255, i_256, i_257, i_258, i_261, i_264, i_265, i_279, i_280, i_284, i_285, i_286, i_288, i_319, i_320, i_338, i_339, i_575, i_576, i_599, i_600, i_4096, i_8191, i_8192, i_8249, i_8250, i_8256, i_9000, i_16384, i_32767, i_32768, i_65520, i_65521, i_65535, i_65536, i_65999, i_66000, i_1300, i_120, i_156, nI_add, Tt_N, nI_clamp, yx.1, yb.1, ye.1, ydb.1]
      refine ⟨by omega, ?_⟩
      rw [pk_sub yr.1, pk_sub yd.2.1]
      refine Tt_m (t_writeNumber h' (by omega) (by omega) (by omega) rfl rfl) ?_
      rintro ⟨_, bits2, packed2⟩ h2
      dsimp only at h2 ⊢
      rw [Nat.mod_eq_of_lt yr.2] at h2
      refine Tt_m (t_writeCode h2 (by omega) lb2 rfl (by omega) hN (hL _ (by omega)) (cD _ (by omega) ud) (by omega)) ?_
      rintro ⟨_, bits3, packed3⟩ h3
      dsimp only at h3 ⊢
      refine ⟨by omega, ?_⟩
      refine Tt_m (t_writeNumber h3 (by omega) (by omega) (by omega) rfl rfl) ?_
      rintro ⟨_, bits4, packed4⟩ h4
      dsimp only at h4 ⊢
      rw [Nat.mod_eq_of_lt yd.2.2] at h4
      exact next _ _ h4
/-! codes read: numbers alone -/
def krs (f : Nat → Nat) (n : Nat) : Nat → Nat
  | 0 => 0
  | l + 1 => krs f n l + cn f (l + 1) n * 2 ^ (14 - l)
theorem krs_mono (f : Nat → Nat) (n : Nat) : ∀ {a b : Nat}, a ≤ b → krs f n a ≤ krs f n b := by
  intro a b h
  induction b with
  | zero => have : a = 0 := by omega
            subst this; exact Nat.le_refl _
  | succ b ih =>
    by_cases e : a = b + 1
    · subst e; exact Nat.le_refl _
    · have := ih (by omega)
      show krs f n a ≤ krs f n b + _
      omega
theorem bs_krs (f : Nat → Nat) (n : Nat) : ∀ l, l ≤ 14 → bs f n (l + 1) * 2 ^ (14 - l) = krs f n l := by
  intro l
  induction l with
  | zero => intro _; show 2 * (0 + 0) * 2 ^ 14 = 0; omega
  | succ l ih =>
    intro hl
    have i1 := ih (by omega)
    have e1 : bs f n (l + 1 + 1) = 2 * (bs f n (l + 1) + cn f (l + 1) n) := by
      show 2 * (bs f n (l + 1) + (if l + 1 = 0 then 0 else cn f (l + 1) n)) = _
      rw [if_neg (by omega)]
    have e2 : 2 ^ (14 - l) = 2 * 2 ^ (14 - (l + 1)) := by rw [show 14 - l = (14 - (l + 1)) + 1 by omega, Nat.pow_succ]; omega
    rw [e1]
    show _ = krs f n l + cn f (l + 1) n * 2 ^ (14 - l)
    rw [← i1, ← Nat.add_mul, e2, ← Nat.mul_assoc, Nat.mul_comm 2]
theorem full_krs {f : Nat → Nat} {n l : Nat} (h1 : 1 ≤ l) (h2 : l ≤ 15) : (bs f n l + cn f l n) * 2 ^ (15 - l) = krs f n l := by
  obtain ⟨k, rfl⟩ : ∃ k, l = k + 1 := ⟨l - 1, by omega⟩
  rw [Nat.add_mul, show 15 - (k + 1) = 14 - k by omega, bs_krs f n k (by omega)]
  rfl
theorem full_le {f : Nat → Nat} {n l : Nat} (hK : krs f n 15 ≤ 32768) (h1 : 1 ≤ l) (h2 : l ≤ 15) : bs f n l + cn f l n ≤ 2 ^ l := by
  have e := @full_krs f n l h1 h2
  have m := @krs_mono f n l 15 h2
  have p : 2 ^ l * 2 ^ (15 - l) = 32768 := by rw [← Nat.pow_add, show l + (15 - l) = 15 by omega]
  refine Nat.le_of_mul_le_mul_right (c := 2 ^ (15 - l)) ?_ (Nat.two_pow_pos _)
  rw [e, p]
  omega
theorem cn_s {f : Nat → Nat} {s : Nat} : cn f (f s) (s + 1) = cn f (f s) s + 1 := by
  show cn f (f s) s + (if f s = f s then 1 else 0) = _
  rw [if_pos rfl]
theorem cde_lt {f : Nat → Nat} {n s : Nat} (hK : krs f n 15 ≤ 32768) (hs : s < n) (h1 : 0 < f s) (h2 : f s ≤ 15) : cde f n s < 2 ^ f s := by
  have a := @full_le f n (f s) hK h1 h2
  have b := @cn_mono f (f s) (s + 1) n (by omega)
  rw [cn_s] at b
  unfold cde
  omega
theorem bs_up {f : Nat → Nat} {n l' : Nat} (h1 : 1 ≤ l') : ∀ {l : Nat}, l' < l → (bs f n l' + cn f l' n) * 2 ^ (l - l') ≤ bs f n l := by
  intro l
  induction l with
  | zero => intro h; omega
  | succ l ih =>
    intro h
    have e1 : bs f n (l + 1) = 2 * (bs f n l + (if l = 0 then 0 else cn f l n)) := rfl
    rw [e1, if_neg (by omega)]
    by_cases e : l = l'
    · subst e
      rw [show l + 1 - l = 1 by omega]
      omega
    · have := ih (by omega)
      rw [show l + 1 - l' = (l - l') + 1 by omega, Nat.pow_succ, ← Nat.mul_assoc]
      omega
/-- what has been given a code before symbol s of length l -/
def ins (f : Nat → Nat) (n l s x : Nat) : Prop := x < n ∧ 0 < f x ∧ (f x < l ∨ f x = l ∧ x < s)
theorem pre_le {f : Nat → Nat} {n l s x : Nat} (h : ins f n l s x) : (cde f n x + 1) * 2 ^ (l - f x) ≤ bs f n l + cn f l s := by
  obtain ⟨h1, h2, h3⟩ := h
  unfold cde
  rcases h3 with h3 | ⟨h3, h4⟩
  · have a := @bs_up f n (f x) h2 l h3
    have b := @cn_mono f (f x) (x + 1) n (by omega)
    rw [cn_s] at b
    have c : (bs f n (f x) + cn f (f x) x + 1) * 2 ^ (l - f x) ≤ (bs f n (f x) + cn f (f x) n) * 2 ^ (l - f x) := Nat.mul_le_mul_right _ (by omega)
    omega
  · have b := @cn_mono f (f x) (x + 1) s (by omega)
    rw [cn_s] at b
    rw [h3, Nat.sub_self, Nat.pow_zero, Nat.mul_one]
    rw [h3] at b
    omega
theorem pre_div {f : Nat → Nat} {n l s x : Nat} (h : ins f n l s x) : cde f n x + 1 ≤ (bs f n l + cn f l s) / 2 ^ (l - f x) := (Nat.le_div_iff_mul_le (Nat.two_pow_pos _)).mpr (pre_le h)
theorem cover {f : Nat → Nat} {n : Nat} : ∀ l s z, 1 ≤ l → s ≤ n → z < bs f n l + cn f l s → ∃ x, ins f n l s x ∧ z / 2 ^ (l - f x) = cde f n x := by
  intro l
  induction l with
  | zero => intro s z h; omega
  | succ l ih =>
    intro s
    induction s with
    | zero =>
      intro z _ _ hz
      have e1 : bs f n (l + 1) = 2 * (bs f n l + (if l = 0 then 0 else cn f l n)) := rfl
      have e0 : cn f (l + 1) 0 = 0 := rfl
      by_cases e : l = 0
      · subst e
        rw [if_pos rfl] at e1
        have : bs f n 0 = 0 := rfl
        omega
      · rw [if_neg e] at e1
        obtain ⟨x, hx, hd⟩ := ih n (z / 2) (by omega) (Nat.le_refl n) (by omega)
        obtain ⟨x1, x2, x3⟩ := hx
        refine ⟨x, ⟨x1, x2, Or.inl (by omega)⟩, ?_⟩
        have e9 : 2 ^ (l + 1 - f x) = 2 ^ (l - f x) * 2 := by rw [show l + 1 - f x = (l - f x) + 1 by omega, Nat.pow_succ]
        rw [← hd, Nat.div_div_eq_div_mul, Nat.mul_comm 2, e9]
    | succ s ih2 =>
      intro z h1 h2 hz
      by_cases zz : z < bs f n (l + 1) + cn f (l + 1) s
      · obtain ⟨x, ⟨x1, x2, x3⟩, hd⟩ := ih2 z h1 (by omega) zz
        exact ⟨x, ⟨x1, x2, by omega⟩, hd⟩
      · have e1 : cn f (l + 1) (s + 1) = cn f (l + 1) s + (if f s = l + 1 then 1 else 0) := rfl
        by_cases e : f s = l + 1
        · rw [if_pos e] at e1
          refine ⟨s, ⟨by omega, by omega, Or.inr ⟨e, by omega⟩⟩, ?_⟩
          unfold cde
          rw [e, Nat.sub_self, Nat.pow_zero, Nat.div_one]
          omega
        · rw [if_neg e] at e1
          omega
/-- how many of 2, 4 .. 2^j divide c -/
def cz (c : Nat) : Nat → Nat
  | 0 => 0
  | j + 1 => cz c j + (if c % 2 ^ (j + 1) = 0 then 1 else 0)
theorem cz_h (c : Nat) : ∀ j, cz c (j + 1) = if c % 2 = 0 then 1 + cz (c / 2) j else 0 := by
  intro j
  induction j with
  | zero =>
    show 0 + (if c % 2 ^ 1 = 0 then 1 else 0) = _
    rw [Nat.pow_one]
    split
    · rfl
    · rfl
  | succ j ih =>
    show cz c (j + 1) + (if c % 2 ^ (j + 1 + 1) = 0 then 1 else 0) = _
    rw [ih]
    have e : c % 2 ^ (j + 1 + 1) = 0 ↔ c % 2 = 0 ∧ c / 2 % 2 ^ (j + 1) = 0 := by
      rw [Nat.pow_succ 2 (j + 1), Nat.mul_comm, Nat.mod_mul]
      have := Nat.two_pow_pos (j + 1)
      constructor
      · intro h
        exact ⟨by omega, by omega⟩
      · intro h
        rw [h.1, h.2]
    by_cases z : c % 2 = 0
    · rw [if_pos z, if_pos z]
      show 1 + cz (c / 2) j + _ = 1 + (cz (c / 2) j + (if c / 2 % 2 ^ (j + 1) = 0 then 1 else 0))
      by_cases y : c / 2 % 2 ^ (j + 1) = 0
      · rw [if_pos (e.mpr ⟨z, y⟩), if_pos y]; omega
      · rw [if_neg (fun q => y (e.mp q).2), if_neg y]; omega
    · rw [if_neg z, if_neg z, if_neg (fun q => z (e.mp q).1)]
/-- how many of the lowest l bits of c are 0 -/
def zr : Nat → Nat → Nat
  | 0, _ => 0
  | l + 1, c => zr l (c / 2) + (1 - c % 2)
theorem zr_le : ∀ l c, zr l c ≤ l := by
  intro l
  induction l with
  | zero => intro c; exact Nat.le_refl 0
  | succ l ih =>
    intro c
    have := ih (c / 2)
    show zr l (c / 2) + (1 - c % 2) ≤ l + 1
    omega
theorem zr_0 : ∀ l, zr l 0 = l := by
  intro l
  induction l with
  | zero => rfl
  | succ l ih => show zr l (0 / 2) + (1 - 0 % 2) = l + 1; rw [Nat.zero_div, ih]
theorem zr_d (l c : Nat) : zr (l + 1) (2 * c + 1) = zr l c := by
  show zr l ((2 * c + 1) / 2) + (1 - (2 * c + 1) % 2) = zr l c
  rw [show (2 * c + 1) / 2 = c by omega]
  omega
theorem cz_zr : ∀ l c, 1 ≤ l → 0 < c → cz c (l - 1) + zr l (c - 1) ≤ zr l c + 1 := by
  intro l
  induction l with
  | zero => intro c h; omega
  | succ l ih =>
    intro c _ hc
    rw [Nat.add_sub_cancel]
    show cz c l + (zr l ((c - 1) / 2) + (1 - (c - 1) % 2)) ≤ zr l (c / 2) + (1 - c % 2) + 1
    cases l with
    | zero =>
      show 0 + (0 + _) ≤ 0 + _ + 1
      omega
    | succ l =>
      rw [cz_h]
      by_cases z : c % 2 = 0
      · rw [if_pos z]
        have i := ih (c / 2) (by omega) (by omega)
        rw [Nat.add_sub_cancel] at i
        rw [show (c - 1) / 2 = c / 2 - 1 by omega]
        omega
      · rw [if_neg z, show (c - 1) / 2 = c / 2 by omega]
        omega
/-- how many nodes there may be before code c of length l, with x symbols given codes -/
def ndB (l c x : Nat) : Nat := if c = 0 then 1 else x + zr l (c - 1) - 1
/-! the reference's tree -/
theorem cz_le (c : Nat) : ∀ j, cz c j ≤ j := by
  intro j
  induction j with
  | zero => exact Nat.le_refl 0
  | succ j ih =>
    show cz c j + (if c % 2 ^ (j + 1) = 0 then 1 else 0) ≤ j + 1
    split <;> omega
theorem nd_ins {l c x nodes : Nat} (hl : 1 ≤ l) (hx : c = 0 ∨ 0 < x) (h : nodes ≤ ndB l c x) : nodes + cz c (l - 1) ≤ ndB l (c + 1) (x + 1) := by
  unfold ndB at *
  rw [if_neg (by omega), Nat.add_sub_cancel]
  by_cases e : c = 0
  · subst e
    rw [if_pos rfl] at h
    have := cz_le 0 (l - 1)
    rw [zr_0]
    omega
  · rw [if_neg e] at h
    have := cz_zr l c hl (by omega)
    omega
theorem nd_dbl {l c x : Nat} : ndB (l + 1) (2 * c) x = ndB l c x := by
  unfold ndB
  by_cases e : c = 0
  · subst e; rfl
  · rw [if_neg (by omega), if_neg e, show 2 * c - 1 = 2 * (c - 1) + 1 by omega, zr_d]
theorem nd_b {l c x : Nat} (hl : l ≤ 16) (hx : x ≤ 288) : ndB l c x ≤ 304 := by
  unfold ndB
  have := zr_le l (c - 1)
  split <;> omega
/-- a tree: paths of its nodes, leaves lf (depth, way, symbol), inner places inn (depth, way) -/
def TI (next : Nat → Int32) (nodes : Nat) (path : Nat → Nat × Nat) (lf : Nat → Nat → Nat → Prop) (inn : Nat → Nat → Prop) : Prop := path 0 = (0, 0) ∧ 0 < nodes ∧ (∀ u v, u < nodes → v < nodes → path u = path v → u = v) ∧ (∀ w, 0 < w → w < nodes → ∃ u b, u < nodes ∧ b < 2 ∧ path w = ((path u).1 + 1, 2 * (path u).2 + b) ∧ next (2 * u + b) = nI w) ∧ ∀ v b, v < nodes → b < 2 → ((∀ s, lf ((path v).1 + 1) (2 * (path v).2 + b) s → next (2 * v + b) = nI 0 - nI (s + 1)) ∧ ((¬ ∃ s, lf ((path v).1 + 1) (2 * (path v).2 + b) s) → inn ((path v).1 + 1) (2 * (path v).2 + b) → ∃ w, 0 < w ∧ w < nodes ∧ next (2 * v + b) = nI w ∧ path w = ((path v).1 + 1, 2 * (path v).2 + b)) ∧ ((¬ ∃ s, lf ((path v).1 + 1) (2 * (path v).2 + b) s) → ¬ inn ((path v).1 + 1) (2 * (path v).2 + b) → next (2 * v + b) = nI 0))
theorem TI_c {next : Nat → Int32} {nodes : Nat} {path : Nat → Nat × Nat} {lf lf' : Nat → Nat → Nat → Prop} {inn inn' : Nat → Nat → Prop} (h : TI next nodes path lf inn) (hl : ∀ d y s, 0 < d → (lf d y s ↔ lf' d y s)) (hi : ∀ d y, 0 < d → (inn d y ↔ inn' d y)) : TI next nodes path lf' inn' := by
  obtain ⟨h1, h2, h3, h4, h5⟩ := h
  refine ⟨h1, h2, h3, h4, fun v b hv hb => ?_⟩
  obtain ⟨a1, a2, a3⟩ := h5 v b hv hb
  refine ⟨fun s hs => a1 s ((hl _ _ _ (by omega)).mpr hs), fun q1 q2 => a2 (fun ⟨s, hs⟩ => q1 ⟨s, (hl _ _ _ (by omega)).mp hs⟩) ((hi _ _ (by omega)).mpr q2), fun q1 q2 => a3 (fun ⟨s, hs⟩ => q1 ⟨s, (hl _ _ _ (by omega)).mp hs⟩) (fun z => q2 ((hi _ _ (by omega)).mp z))⟩
def lfI (f : Nat → Nat) (n l s : Nat) (d y x : Nat) : Prop := ins f n l s x ∧ f x = d ∧ cde f n x = y
def inI (f : Nat → Nat) (n l s : Nat) (d y : Nat) : Prop := ∃ x, ins f n l s x ∧ d < f x ∧ cde f n x / 2 ^ (f x - d) = y
/-- the inner places when the way of code c of length l is there down to depth i -/
def inE (f : Nat → Nat) (n l s c i : Nat) (d y : Nat) : Prop := inI f n l s d y ∨ (d ≤ i ∧ c / 2 ^ (l - d) = y)
theorem div2 (a k : Nat) : 2 * (a / 2 ^ (k + 1)) + a / 2 ^ k % 2 = a / 2 ^ k := by
  have : a / 2 ^ (k + 1) = a / 2 ^ k / 2 := by rw [Nat.pow_succ, Nat.div_div_eq_div_mul]
  rw [this]
  omega
theorem TI_new {f : Nat → Nat} {n l s c k nodes v : Nat} {next : Nat → Int32} {path : Nat → Nat × Nat} (hc : c = bs f n l + cn f l s) (hk1 : 1 ≤ k) (hk : k < l) (hn : 2 * nodes + 1 < 1300) (hT : TI next nodes path (lfI f n l s) (inE f n l s c (l - 1 - k))) (hv : v < nodes) (hp : path v = (l - 1 - k, c / 2 ^ (k + 1))) (hno : ¬ inI f n l s (l - k) (c / 2 ^ k)) : TI (upd (upd (upd next (2 * v + c / 2 ^ k % 2) (nI nodes)) (2 * nodes) (nI 0)) (2 * nodes + 1) (nI 0)) (nodes + 1) (fun u => if u = nodes then (l - k, c / 2 ^ k) else path u) (lfI f n l s) (inE f n l s c (l - k)) := by
  obtain ⟨h1, h2, h3, h4, h5⟩ := hT
  have bt : c / 2 ^ k % 2 < 2 := Nat.mod_lt _ (by omega)
  have hw := div2 c k
  generalize hy : c / 2 ^ k = y at *
  generalize hb : y % 2 = b at *
  have e1 : (path v).1 + 1 = l - k := by rw [hp]; show l - 1 - k + 1 = l - k; omega
  have e2 : 2 * (path v).2 + b = y := by rw [hp]; exact hw
  have noleaf : ¬ ∃ x, lfI f n l s (l - k) y x := by
    rintro ⟨x, i1, i2, i3⟩
    have := pre_div i1
    rw [i2, show l - (l - k) = k by omega, ← hc, hy] at this
    omega
  have noin : ¬ inE f n l s c (l - 1 - k) (l - k) y := by
    rintro (q | q)
    · exact hno q
    · omega
  have zero : next (2 * v + b) = nI 0 := by
    have := (h5 v b hv bt).2.2
    rw [e1, e2] at this
    exact this noleaf noin
  have pn : ∀ u, u < nodes → (if u = nodes then (l - k, y) else path u) = path u := fun u hu => if_neg (by omega)
  have old : ∀ u b', u < nodes → b' < 2 → ¬ (u = v ∧ b' = b) → upd (upd (upd next (2 * v + b) (nI nodes)) (2 * nodes) (nI 0)) (2 * nodes + 1) (nI 0) (2 * u + b') = next (2 * u + b') := by
    intro u b' hu hb' hne
    rw [pk_un (by omega), pk_un (by omega), pk_un (by omega)]
  have uniq : ∀ u b', u < nodes → b' < 2 → (path u).1 + 1 = l - k → 2 * (path u).2 + b' = y → u = v ∧ b' = b := by
    intro u b' hu hb' g1 g2
    have g3 : (path u).2 = (path v).2 := by omega
    have g4 : (path u).1 = (path v).1 := by omega
    have g5 : path u = path v := Prod.ext g4 g3
    exact ⟨h3 u v hu hv g5, by omega⟩
  refine ⟨?_, by omega, ?_, ?_, ?_⟩
  · show (if 0 = nodes then (l - k, y) else path 0) = (0, 0)
    rw [if_neg (by omega)]; exact h1
  · intro u u' hu hu' he
    dsimp only at he
    have key : ∀ u, u < nodes → path u = (l - k, y) → False := by
      intro u hu hpu
      have u0 : 0 < u := by
        rcases Nat.eq_zero_or_pos u with z | z
        · subst z
          rw [h1] at hpu
          have := congrArg Prod.fst hpu
          dsimp only at this
          omega
        · exact z
      obtain ⟨p, b', g1, g2, g3, g4⟩ := h4 u u0 hu
      rw [hpu] at g3
      have g5 := congrArg Prod.fst g3
      have g6 := congrArg Prod.snd g3
      dsimp only at g5 g6
      obtain ⟨rfl, rfl⟩ := uniq p b' g1 g2 g5.symm g6.symm
      rw [zero] at g4
      have := (nI_eq (by omega) (by omega)).mp g4
      omega
    by_cases z : u = nodes
    · by_cases z' : u' = nodes
      · omega
      · rw [if_pos z, if_neg z'] at he
        exact absurd he.symm (fun q => key u' (by omega) q)
    · by_cases z' : u' = nodes
      · rw [if_neg z, if_pos z'] at he
        exact absurd he (fun q => key u (by omega) q)
      · rw [if_neg z, if_neg z'] at he
        exact h3 u u' (by omega) (by omega) he
  · intro w w0 hw'
    by_cases z : w = nodes
    · subst z
      refine ⟨v, b, by omega, bt, ?_, ?_⟩
      · show (if w = w then (l - k, y) else path w) = ((if v = w then (l - k, y) else path v).1 + 1, 2 * (if v = w then (l - k, y) else path v).2 + b)
        rw [if_pos rfl, if_neg (by omega), e1, e2]
      · rw [pk_un (by omega), pk_un (by omega), pk_us]
    · obtain ⟨p, b', g1, g2, g3, g4⟩ := h4 w w0 (by omega)
      refine ⟨p, b', by omega, g2, ?_, ?_⟩
      · show (if w = nodes then (l - k, y) else path w) = ((if p = nodes then (l - k, y) else path p).1 + 1, 2 * (if p = nodes then (l - k, y) else path p).2 + b')
        rw [if_neg z, if_neg (by omega)]; exact g3
      · rw [old p b' g1 g2]
        · exact g4
        · rintro ⟨rfl, rfl⟩
          rw [zero] at g4
          have := (nI_eq (by omega) (by omega)).mp g4
          omega
  · intro u b' hu hb'
    dsimp only
    by_cases z : u = nodes
    · subst z
      rw [if_pos rfl]
      dsimp only
      have sub : ∀ x, ins f n l s x → l - k < f x → cde f n x / 2 ^ (f x - (l - k + 1)) = 2 * y + b' → False := by
        intro x i1 i2 i3
        apply hno
        refine ⟨x, i1, i2, ?_⟩
        have : cde f n x / 2 ^ (f x - (l - k)) = cde f n x / 2 ^ (f x - (l - k + 1)) / 2 := by
          have e9 : 2 ^ (f x - (l - k)) = 2 ^ (f x - (l - k + 1)) * 2 := by rw [show f x - (l - k) = (f x - (l - k + 1)) + 1 by omega, Nat.pow_succ]
          rw [e9, Nat.div_div_eq_div_mul]
        rw [this, i3]
        omega
      have n1 : ¬ ∃ x, lfI f n l s (l - k + 1) (2 * y + b') x := by
        rintro ⟨x, i1, i2, i3⟩
        exact sub x i1 (by omega) (by rw [i2, Nat.sub_self, Nat.pow_zero, Nat.div_one]; exact i3)
      have n2 : ¬ inE f n l s c (l - k) (l - k + 1) (2 * y + b') := by
        rintro (⟨x, i1, i2, i3⟩ | q)
        · exact sub x i1 (by omega) i3
        · omega
      refine ⟨fun x hx => absurd ⟨x, hx⟩ n1, fun _ q => absurd q n2, fun _ _ => ?_⟩
      have : b' = 0 ∨ b' = 1 := by omega
      rcases this with rfl | rfl
      · rw [pk_un (by omega), Nat.add_zero, pk_us]
      · rw [pk_us]
    · rw [if_neg z]
      by_cases e : u = v ∧ b' = b
      · obtain ⟨rfl, rfl⟩ := e
        rw [e1, e2]
        refine ⟨fun x hx => absurd ⟨x, hx⟩ noleaf, fun _ _ => ⟨nodes, h2, by omega, ?_, if_pos rfl⟩, fun _ q => absurd (Or.inr ⟨Nat.le_refl _, by rw [show l - (l - k) = k by omega]; exact hy⟩) q⟩
        rw [pk_un (by omega), pk_un (by omega), pk_us]
      · rw [old u b' (by omega) hb' e]
        obtain ⟨a1, a2, a3⟩ := h5 u b' (by omega) hb'
        have same : inE f n l s c (l - k) ((path u).1 + 1) (2 * (path u).2 + b') → inE f n l s c (l - 1 - k) ((path u).1 + 1) (2 * (path u).2 + b') := by
          rintro (q | ⟨q1, q2⟩)
          · exact Or.inl q
          · by_cases w : (path u).1 + 1 = l - k
            · exfalso
              apply e
              apply uniq u b' (by omega) hb' w
              rw [← q2, w, show l - (l - k) = k by omega]
              exact hy
            · exact Or.inr ⟨by omega, q2⟩
        have same2 : inE f n l s c (l - 1 - k) ((path u).1 + 1) (2 * (path u).2 + b') → inE f n l s c (l - k) ((path u).1 + 1) (2 * (path u).2 + b') := by
          rintro (q | ⟨q1, q2⟩)
          · exact Or.inl q
          · exact Or.inr ⟨by omega, q2⟩
        refine ⟨a1, fun q1 q2 => ?_, fun q1 q2 => a3 q1 (fun q => q2 (same2 q))⟩
        obtain ⟨w, w1, w2, w3, w4⟩ := a2 q1 (same q2)
        exact ⟨w, w1, by omega, w3, by rw [if_neg (by omega)]; exact w4⟩
theorem ins_s {f : Nat → Nat} {n l s x : Nat} (hs : s < n) (hl : f s = l) (h0 : 0 < l) : ins f n l (s + 1) x ↔ ins f n l s x ∨ x = s := by
  unfold ins
  constructor
  · rintro ⟨h1, h2, h3⟩
    by_cases e : x = s
    · exact Or.inr e
    · exact Or.inl ⟨h1, h2, by omega⟩
  · rintro (⟨h1, h2, h3⟩ | rfl)
    · exact ⟨h1, h2, by omega⟩
    · exact ⟨hs, by omega, Or.inr ⟨hl, by omega⟩⟩
theorem TI_leaf {f : Nat → Nat} {n l s c nodes v : Nat} {next : Nat → Int32} {path : Nat → Nat × Nat} (hs : s < n) (hl : f s = l) (h0 : 0 < l) (hc : c = bs f n l + cn f l s) (hn : nodes ≤ 650) (hT : TI next nodes path (lfI f n l s) (inE f n l s c (l - 1))) (hv : v < nodes) (hp : path v = (l - 1, c / 2)) : TI (upd next (2 * v + c % 2) (nI 0 - nI (s + 1))) nodes path (lfI f n l (s + 1)) (inI f n l (s + 1)) := by
  have ec : cde f n s = c := by unfold cde; rw [hl, hc]
  have hin : ∀ d y, 0 < d → (inI f n l (s + 1) d y ↔ inE f n l s c (l - 1) d y) := by
    intro d y hd
    constructor
    · rintro ⟨x, i1, i2, i3⟩
      rcases (ins_s hs hl h0).mp i1 with i1 | rfl
      · exact Or.inl ⟨x, i1, i2, i3⟩
      · right
        rw [ec, hl] at i3
        exact ⟨by omega, i3⟩
    · rintro (⟨x, i1, i2, i3⟩ | ⟨q1, q2⟩)
      · exact ⟨x, (ins_s hs hl h0).mpr (Or.inl i1), i2, i3⟩
      · exact ⟨s, (ins_s hs hl h0).mpr (Or.inr rfl), by omega, by rw [ec, hl]; exact q2⟩
  have hlf : ∀ d y x, lfI f n l (s + 1) d y x ↔ lfI f n l s d y x ∨ (x = s ∧ d = l ∧ y = c) := by
    intro d y x
    unfold lfI
    rw [ins_s hs hl h0]
    constructor
    · rintro ⟨i1 | rfl, i2, i3⟩
      · exact Or.inl ⟨i1, i2, i3⟩
      · exact Or.inr ⟨rfl, by omega, by omega⟩
    · rintro (⟨i1, i2, i3⟩ | ⟨rfl, rfl, rfl⟩)
      · exact ⟨Or.inl i1, i2, i3⟩
      · exact ⟨Or.inr rfl, hl, ec⟩
  have nol : ∀ x, ¬ lfI f n l s l c x := by
    rintro x ⟨i1, i2, i3⟩
    have := pre_le i1
    rw [i2, Nat.sub_self, Nat.pow_zero, i3] at this
    omega
  have noi : ¬ inE f n l s c (l - 1) l c := by
    rintro (⟨x, i1, i2, i3⟩ | q)
    · have := i1.2.2
      omega
    · omega
  obtain ⟨h1, h2, h3, h4, h5⟩ := hT
  have bt : c % 2 < 2 := Nat.mod_lt _ (by omega)
  generalize hb : c % 2 = b at *
  have e1 : (path v).1 + 1 = l := by rw [hp]; show l - 1 + 1 = l; omega
  have e2 : 2 * (path v).2 + b = c := by rw [hp]; show 2 * (c / 2) + b = c; omega
  have zero : next (2 * v + b) = nI 0 := by
    have := (h5 v b hv bt).2.2
    rw [e1, e2] at this
    exact this (fun ⟨x, hx⟩ => nol x hx) noi
  have uniq : ∀ u b', u < nodes → b' < 2 → (path u).1 + 1 = l → 2 * (path u).2 + b' = c → u = v ∧ b' = b := by
    intro u b' hu hb' g1 g2
    have g3 : (path u).2 = (path v).2 := by omega
    have g4 : (path u).1 = (path v).1 := by omega
    have g5 : path u = path v := Prod.ext g4 g3
    exact ⟨h3 u v hu hv g5, by omega⟩
  refine ⟨h1, h2, h3, ?_, ?_⟩
  · intro w w0 hw
    obtain ⟨p, b', g1, g2, g3, g4⟩ := h4 w w0 hw
    refine ⟨p, b', g1, g2, g3, ?_⟩
    by_cases e : 2 * p + b' = 2 * v + b
    · rw [e, zero] at g4
      have := (nI_eq (by omega) (by omega)).mp g4
      omega
    · rw [pk_un e]; exact g4
  · intro u b' hu hb'
    obtain ⟨a1, a2, a3⟩ := h5 u b' hu hb'
    by_cases e : u = v ∧ b' = b
    · obtain ⟨rfl, rfl⟩ := e
      rw [e1, e2]
      have iss : lfI f n l (s + 1) l c s := (hlf _ _ _).mpr (Or.inr ⟨rfl, rfl, rfl⟩)
      refine ⟨fun x hx => ?_, fun q => absurd ⟨s, iss⟩ q, fun q => absurd ⟨s, iss⟩ q⟩
      rw [pk_us]
      rcases (hlf _ _ _).mp hx with q | q
      · exact absurd q (nol x)
      · rw [q.1]
    · have ne : ¬ (2 * u + b' = 2 * v + b) := by omega
      rw [pk_un ne]
      have nq : ¬ ((path u).1 + 1 = l ∧ 2 * (path u).2 + b' = c) := fun q => e (uniq u b' hu hb' q.1 q.2)
      have lq : ∀ x, lfI f n l (s + 1) ((path u).1 + 1) (2 * (path u).2 + b') x → lfI f n l s ((path u).1 + 1) (2 * (path u).2 + b') x := by
        intro x hx
        rcases (hlf _ _ _).mp hx with q | q
        · exact q
        · exact absurd ⟨q.2.1, q.2.2⟩ nq
      refine ⟨fun x hx => a1 x (lq x hx), fun q1 q2 => a2 (fun ⟨x, hx⟩ => q1 ⟨x, (hlf _ _ _).mpr (Or.inl hx)⟩) ((hin _ _ (by omega)).mp q2), fun q1 q2 => a3 (fun ⟨x, hx⟩ => q1 ⟨x, (hlf _ _ _).mpr (Or.inl hx)⟩) (fun z => q2 ((hin _ _ (by omega)).mpr z))⟩
/-! the reference's tree, grown -/
theorem t_grow {f : Nat → Nat} {n l s c nodes : Nat} {next : Nat → Int32} {path : Nat → Nat × Nat} {x0 x1 x2 x3 : Int32} (hs : s < n) (hn : n ≤ 288) (hl : f s = l) (h0 : 0 < l) (hl15 : l ≤ 15) (hc : c = bs f n l + cn f l s) (hcl : c < 2 ^ l) (hx0 : x0 = nI nodes) (h1 : x1 = nI c) (h2 : x2 = nI l) (h3 : x3 = nI s) (hT : TI next nodes path (lfI f n l s) (inI f n l s)) (hB : nodes + cz c (l - 1) ≤ 320) : Tt (Tree_grow 200000 x0 next x1 x2 x3) (fun u => ∃ nodes' path', u.2.1 = nI nodes' ∧ nodes' ≤ nodes + cz c (l - 1) ∧ TI u.2.2 nodes' path' (lfI f n l (s + 1)) (inI f n l (s + 1))) := by
  subst hx0 h1 h2 h3
  have c15 : c < 2 ^ 15 := Nat.lt_of_lt_of_le hcl (Nat.pow_le_pow_right (by omega) hl15)
  unfold Tree_grow
  have e0 : nI l - 1 = nI (l - 1) := n_pred (by omega)
  simp only [Tt_L, e0]
  refine Tt_W4 (fun mm x0 next x4 x5 => ∃ nodes' path' v k, x0 = nI nodes' ∧ x4 = nI v ∧ x5 = nI k ∧ k = mm ∧ k < l ∧ nodes' + cz c k ≤ nodes + cz c (l - 1) ∧ v < nodes' ∧ path' v = (l - 1 - k, c / 2 ^ (k + 1)) ∧ TI next nodes' path' (lfI f n l s) (inE f n l s c (l - 1 - k))) ?_ 200000 (l - 1) _ _ _ _ (by omega) ⟨nodes, path, 0, l - 1, rfl, rfl, rfl, rfl, by omega, Nat.le_refl _, hT.2.1, ?_, ?_⟩
  · rintro K mm x0 next x4 x5 ⟨nodes', path', v, k, rfl, rfl, rfl, rfl, hk, hnb, hv, hp, hT'⟩ ih
    unfold Tree_grow_8
    by_cases z : k = 0
    · subst z
      simp only [Tt_C, Tt_S]
      rw [if_pos (by decide)]
      unfold Tree_grow_98
      have ev : -nI 1 - nI s = nI 0 - nI (s + 1) := by
        have := n_it3 (nI s)
        rw [nI_1] at this
        exact this
      simp (disch := omega) only [Tt_L, Tt_S, Tt_C, Tt_Z, Tt_R0, Tt_R1, Tt_R2, Tt_R3, Tt_R4, Tt_R5, q10, eq_self, Nat.not_lt_zero, if_true, if_false, i_0, i_1, i_2, i_3, i_4, i_5, i_6, i_7, i_8, i_9, i_10, i_11, i_13, i_14, i_15, i_16, i_17, i_18, i_19, i_24, i_29, i_30, i_31, i_32, i_138, i_143, i_144, i_254, i_255, i_256, i_257, i_258, i_261, i_264, i_265, i_279, i_280, i_284, i_285, i_286, i_288, i_319, i_320, i_338, i_339, i_575, i_576, i_599, i_600, i_4096, i_8191, i_8192, i_8249, i_8250, i_8256, i_9000, i_16384, i_32767, i_32768, i_65520, i_65521, i_65535, i_65536, i_65999, i_66000, i_1300, i_120, i_156, pk_mul, n_1, nI_add, Tt_N, nI_clamp, ev]
      refine ⟨by omega, nodes', path', rfl, ?_, ?_⟩
      · have : cz c 0 = 0 := rfl
        omega
      · refine TI_leaf hs hl h0 hc (by omega) ?_ hv ?_
        · rw [Nat.sub_zero] at hT'; exact hT'
        · rw [hp, Nat.sub_zero]
    · have bt : c / 2 ^ k % 2 < 2 := Nat.mod_lt _ (by omega)
      have w0 := div2 c k
      have cl : c / 2 ^ k ≤ c := Nat.div_le_self _ _
      have ek : k = (k - 1) + 1 := by omega
      have czk : cz c k = cz c (k - 1) + (if c % 2 ^ k = 0 then 1 else 0) := by
        conv => lhs; rw [ek]
        show cz c (k - 1) + (if c % 2 ^ (k - 1 + 1) = 0 then 1 else 0) = _
        rw [← ek]
      have e1 : (path' v).1 + 1 = l - k := by rw [hp]; show l - 1 - k + 1 = l - k; omega
      have e2 : 2 * (path' v).2 + c / 2 ^ k % 2 = c / 2 ^ k := by rw [hp]; exact w0
      have noleaf : ¬ ∃ x, lfI f n l s (l - k) (c / 2 ^ k) x := by
        rintro ⟨x, i1, i2, i3⟩
        have := pre_div i1
        rw [i2, show l - (l - k) = k by omega, ← hc] at this
        omega
      have pow2 : c / 2 ^ (k - 1 + 1) = c / 2 ^ k := by rw [← ek]
      simp (disch := omega) only [Tt_L, Tt_S, Tt_C, Tt_Z, Tt_R0, Tt_R1, Tt_R2, Tt_R3, Tt_R4, Tt_R5, q10, eq_self, Nat.not_lt_zero, if_true, if_false, i_0, i_1, i_2, i_3, i_4, i_5, i_6, i_7, i_8, i_9, i_10, i_11, i_13, i_14, i_15, i_16, i_17, i_18, i_19, i_24, i_29, i_30, i_31, i_32, i_138, i_143, i_144, i_254, i_255, i_256, i_257, i_258, i_261, i_264, i_265, i_279, i_280, i_284, i_285, i_286, i_288, i_319, i_320, i_338, i_339, i_575, i_576, i_599, i_600, i_4096, i_8191, i_8192, i_8249, i_8250, i_8256, i_9000, i_16384, i_32767, i_32768, i_65520, i_65521, i_65535, i_65536, i_65999, i_66000, i_1300, i_120, i_156, nI_leI, n_shr, n_1, pk_mul, nI_add, Tt_N, nI_clamp, n_dec2]
      rw [if_neg (by omega)]
      refine ⟨by omega, ?_⟩
      by_cases y : inI f n l s (l - k) (c / 2 ^ k)
      · obtain ⟨w, w1, w2, w3, w4⟩ : ∃ w, 0 < w ∧ w < nodes' ∧ next (2 * v + c / 2 ^ k % 2) = nI w ∧ path' w = ((path' v).1 + 1, 2 * (path' v).2 + c / 2 ^ k % 2) := by
          refine (hT'.2.2.2.2 v (c / 2 ^ k % 2) hv bt).2.1 ?_ ?_
          · rw [e1, e2]; exact noleaf
          · rw [e1, e2]; exact Or.inl y
        rw [e1, e2] at w4
        unfold Tree_grow_83
        rw [w3, if_neg (by rw [nI_eq (by omega) (by omega)]; omega)]
        simp (disch := omega) only [Tt_L, Tt_S, Tt_C, Tt_Z, Tt_R0, Tt_R1, Tt_R2, Tt_R3, Tt_R4, Tt_R5, q10, eq_self, Nat.not_lt_zero, if_true, if_false, i_0, i_1, i_2, i_3, i_4, i_5, i_6, i_7, i_8, i_9, i_10, i_11, i_13, i_14, i_15, i_16, i_17, i_18, i_19, i_24, i_29, i_30, i_31, i_32, i_138, i_143, i_144, i_254, i_255, i_256, i_257, i_258, i_261, i_264, i_265, i_279, i_280, i_284, i_285, i_286, i_288, i_319, i_320, i_338, i_339, i_575, i_576, i_599, i_600, i_4096, i_8191, i_8192, i_8249, i_8250, i_8256, i_9000, i_16384, i_32767, i_32768, i_65520, i_65521, i_65535, i_65536, i_65999, i_66000, i_1300, i_120, i_156, Tt_N, nI_clamp, n_dec2, w3]
        refine ⟨by omega, ih (k - 1) _ _ _ _ (by omega) ⟨nodes', path', w, k - 1, rfl, rfl, rfl, rfl, by omega, by omega, w2, ?_, ?_⟩⟩
        · rw [w4, pow2, show l - 1 - (k - 1) = l - k by omega]
        · refine TI_c hT' (fun _ _ _ _ => Iff.rfl) (fun d q hd => ?_)
          constructor
          · rintro (g | ⟨g1, g2⟩)
            · exact Or.inl g
            · exact Or.inr ⟨by omega, g2⟩
          · rintro (g | ⟨g1, g2⟩)
            · exact Or.inl g
            · by_cases e : d = l - k
              · left
                rw [e, ← g2, e, show l - (l - k) = k by omega]
                exact y
              · exact Or.inr ⟨by omega, g2⟩
      · have zero : next (2 * v + c / 2 ^ k % 2) = nI 0 := by
          refine (hT'.2.2.2.2 v (c / 2 ^ k % 2) hv bt).2.2 ?_ ?_
          · rw [e1, e2]; exact noleaf
          · rw [e1, e2]
            rintro (g | g)
            · exact y g
            · omega
        have dv : c % 2 ^ k = 0 := by
          rcases Nat.eq_zero_or_pos (c % 2 ^ k) with g | g
          · exact g
          · exfalso
            have dm := Nat.div_add_mod c (2 ^ k)
            obtain ⟨x, i1, i2⟩ := @cover f n l s (2 ^ k * (c / 2 ^ k)) h0 (by omega) (by omega)
            by_cases q : f x ≤ l - k
            · have := pre_div i1
              rw [← hc] at this
              have e3 : 2 ^ k * (c / 2 ^ k) / 2 ^ (l - f x) = c / 2 ^ (l - f x) := by
                rw [show l - f x = k + (l - f x - k) by omega, Nat.pow_add, ← Nat.div_div_eq_div_mul, ← Nat.div_div_eq_div_mul, Nat.mul_div_cancel_left _ (Nat.two_pow_pos k)]
              rw [e3] at i2
              omega
            · apply y
              refine ⟨x, i1, by omega, ?_⟩
              have fx : f x ≤ l := by have := i1.2.2; omega
              rw [← i2, Nat.div_div_eq_div_mul, ← Nat.pow_add, show l - f x + (f x - (l - k)) = k by omega, Nat.mul_div_cancel_left _ (Nat.two_pow_pos k)]
        rw [if_pos dv] at czk
        rw [zero, if_pos rfl]
        unfold Tree_grow_83
        simp (disch := omega) only [Tt_L, Tt_S, Tt_C, Tt_Z, Tt_R0, Tt_R1, Tt_R2, Tt_R3, Tt_R4, Tt_R5, q10, eq_self, Nat.not_lt_zero, if_true, if_false, i_0, i_1, i_2, i_3, i_4, i_5, i_6, i_7, i_8, i_9, i_10, i_11, i_13, i_14, i_15, i_16, i_17, i_18, i_19, i_24, i_29, i_30, i_31, i_32, i_138, i_143, i_144, i_254, i_255, i_256, i_257, i_258, i_261, i_264, i_265, i_279, i_280, i_284, i_285, i_286, i_288, i_319, i_320, i_338, i_339, i_575, i_576, i_599, i_600, i_4096, i_8191, i_8192, i_8249, i_8250, i_8256, i_9000, i_16384, i_32767, i_32768, i_65520, i_65521, i_65535, i_65536, i_65999, i_66000, i_1300, i_120, i_156, Tt_N, nI_clamp, n_dec2]
        have tn := @TI_new f n l s c k nodes' v next path' hc (by omega) hk (by omega) hT' hv hp y
        refine ⟨by omega, by omega, by omega, by omega, ?_⟩
        have rd : upd (upd (upd next (2 * v + c / 2 ^ k % 2) (nI nodes')) (2 * nodes') (nI 0)) (2 * nodes' + 1) (nI 0) (2 * v + c / 2 ^ k % 2) = nI nodes' := by rw [pk_un (by omega), pk_un (by omega), pk_us]
        rw [rd]
        refine ih (k - 1) _ _ _ _ (by omega) ⟨nodes' + 1, (fun u => if u = nodes' then (l - k, c / 2 ^ k) else path' u), nodes', k - 1, rfl, rfl, rfl, rfl, by omega, by omega, by omega, ?_, ?_⟩
        · show (if nodes' = nodes' then (l - k, c / 2 ^ k) else path' nodes') = _
          rw [if_pos rfl, pow2, show l - 1 - (k - 1) = l - k by omega]
        · rw [show l - 1 - (k - 1) = l - k by omega]
          exact tn
  · rw [hT.1, Nat.sub_self, show l - 1 + 1 = l by omega, Nat.div_eq_of_lt hcl]
  · refine TI_c hT (fun _ _ _ _ => Iff.rfl) (fun d q hd => ?_)
    constructor
    · intro g
      exact Or.inl g
    · rintro (g | ⟨g1, g2⟩)
      · exact g
      · omega
/-- how many symbols have a code shorter than l -/
def lv (f : Nat → Nat) (n : Nat) : Nat → Nat
  | 0 => 0
  | l + 1 => lv f n l + (if l = 0 then 0 else cn f l n)
theorem lv_sm (f : Nat → Nat) (n : Nat) : ∀ l, lv f n l ≤ sm (fun j => 1 * cn f j n) l := by
  intro l
  induction l with
  | zero => exact Nat.le_refl 0
  | succ l ih =>
    show lv f n l + (if l = 0 then 0 else cn f l n) ≤ sm (fun j => 1 * cn f j n) l + 1 * cn f l n
    split <;> omega
theorem lv_le (f : Nat → Nat) (n l : Nat) : lv f n l ≤ n := by
  have h := lv_sm f n l
  have e := sm_cn (fun _ => 1) f l n
  rw [e] at h
  refine Nat.le_trans h (sm_le (fun i _ => ?_))
  split <;> omega
theorem bs_pos {f : Nat → Nat} {n : Nat} : ∀ l, lv f n l = 0 → bs f n l = 0 := by
  intro l
  induction l with
  | zero => intro _; rfl
  | succ l ih =>
    intro h
    have h' : lv f n l + (if l = 0 then 0 else cn f l n) = 0 := h
    show 2 * (bs f n l + (if l = 0 then 0 else cn f l n)) = 0
    rw [ih (by omega)]
    omega
theorem ins_0 {f : Nat → Nat} {n l x : Nat} : ins f n (l + 1) 0 x ↔ ins f n l n x := by
  unfold ins
  constructor
  · rintro ⟨h1, h2, h3⟩; exact ⟨h1, h2, by omega⟩
  · rintro ⟨h1, h2, h3⟩; exact ⟨h1, h2, by omega⟩
theorem t_treeGrow {N0 a n : Nat} {of next : Nat → Int32} {f : Nat → Nat} {x0 : Int32} (hN : a + n ≤ N0) (hN0 : N0 ≤ 339) (hn : n ≤ 288) (hL : ∀ i, i < n → of (a + i) = nI (f i)) (hf : ∀ i, i < n → f i ≤ 15) (hK : krs f n 15 ≤ 32768) (hx0 : x0 = nI 1) (hz : next 0 = nI 0 ∧ next 1 = nI 0) : Tt (Tree_make_119 200000 N0 of (nI a) (nI n) x0 next) (fun u => u.1 = nI 1 ∧ ∃ nodes path, nodes ≤ 400 ∧ TI u.2.2 nodes path (lfI f n 16 0) (inI f n 16 0)) := by
  subst hx0
  unfold Tree_make_119
  refine Tt_W4 (fun mm x0 next x7 x8 => ∃ l nodes path, 1 ≤ l ∧ l ≤ 16 ∧ x8 = nI l ∧ mm = 16 - l ∧ x0 = nI nodes ∧ 2 * x7 = nI (bs f n l) ∧ nodes ≤ ndB l (bs f n l) (lv f n l) ∧ TI next nodes path (lfI f n l 0) (inI f n l 0)) ?_ 200000 15 _ _ _ _ (by omega) ⟨1, 1, fun _ => (0, 0), by omega, by omega, rfl, rfl, rfl, rfl, ?_, ?_⟩
  · rintro K mm x0 next x7 x8 ⟨l, nodes, path, hl1, hl2, rfl, rfl, rfl, h7, hnb, hT⟩ ih
    unfold Tree_make_125
    by_cases z : 16 ≤ l
    · have el : l = 16 := by omega
      subst el
      simp only [Tt_C, Tt_S]
      rw [if_pos (by decide)]
      have b := @nd_b 16 (bs f n 16) (lv f n 16) (by omega) (by have := lv_le f n 16; omega)
      exact ⟨rfl, nodes, path, by omega, hT⟩
    · simp (disch := omega) only [Tt_C, Tt_S, Tt_L, i_16, nI_leI]
      rw [if_neg z, h7]
      refine Tt_W5 (fun mm x0 next x7 x8 x9 => ∃ s nodes path, s ≤ n ∧ x9 = nI s ∧ x8 = nI l ∧ mm = n - s ∧ x0 = nI nodes ∧ x7 = nI (bs f n l + cn f l s) ∧ nodes ≤ ndB l (bs f n l + cn f l s) (lv f n l + cn f l s) ∧ TI next nodes path (lfI f n l s) (inI f n l s)) ?_ 200000 n _ _ _ _ _ (by omega) ⟨0, nodes, path, by omega, rfl, rfl, rfl, rfl, rfl, hnb, hT⟩
      rintro K2 mm x0 next x7 x8 x9 ⟨s, nodes, path, hs, rfl, rfl, rfl, rfl, rfl, hnb2, hT2⟩ ih2
      unfold Tree_make_141
      by_cases y : n ≤ s
      · have es : s = n := by omega
        subst es
        simp (disch := omega) only [Tt_C, Tt_S, nI_leI]
        rw [if_pos y]
        unfold Tree_make_177
        simp only [Tt_L, nI_1]
        have eb : bs f s (l + 1) = 2 * (bs f s l + cn f l s) := by
          show 2 * (bs f s l + (if l = 0 then 0 else cn f l s)) = _
          rw [if_neg (by omega)]
        have elv : lv f s (l + 1) = lv f s l + cn f l s := by
          show lv f s l + (if l = 0 then 0 else cn f l s) = _
          rw [if_neg (by omega)]
        refine ih (16 - (l + 1)) _ _ _ _ (by omega) ⟨l + 1, nodes, path, by omega, by omega, rfl, rfl, rfl, ?_, ?_, ?_⟩
        · rw [eb, i_2, pk_mul]
        · rw [eb, elv, nd_dbl]; exact hnb2
        · refine TI_c hT2 (fun d q x _ => ?_) (fun d q _ => ?_)
          · unfold lfI; rw [ins_0]
          · unfold inI
            constructor
            · rintro ⟨x, i1, i2⟩; exact ⟨x, ins_0.mpr i1, i2⟩
            · rintro ⟨x, i1, i2⟩; exact ⟨x, ins_0.mp i1, i2⟩
      · have es := hL s (by omega)
        have fs := hf s (by omega)
        have c1 : cn f l (s + 1) = cn f l s + (if f s = l then 1 else 0) := rfl
        unfold Tree_make_171
        simp (disch := omega) only [Tt_L, Tt_S, Tt_C, Tt_Z, Tt_R0, Tt_R1, Tt_R2, Tt_R3, Tt_R4, Tt_R5, q10, eq_self, Nat.not_lt_zero, if_true, if_false, i_0, i_1, i_2, i_3, i_4, i_5, i_6, i_7, i_8, i_9, i_10, i_11, i_13, i_14, i_15, i_16, i_17, i_18, i_19, i_24, i_29, i_30, i_31, i_32, i_138, i_143, i_144, i_254, i_255, i_256, i_257, i_258, i_261, i_264, i_265, i_279, i_280, i_284, i_285, i_286, i_288, i_319, i_320, i_338, i_339, i_575, i_576, i_599, i_600, i_4096, i_8191, i_8192, i_8249, i_8250, i_8256, i_9000, i_16384, i_32767, i_32768, i_65520, i_65521, i_65535, i_65536, i_65999, i_66000, i_1300, i_120, i_156, nI_leI, nI_add, Tt_N, nI_clamp, es, nI_eq]
        rw [if_neg y]
        refine ⟨by omega, ?_⟩
        by_cases e : f s = l
        · rw [if_pos e]
          rw [if_pos e] at c1
          have cl := @cde_lt f n s hK (by omega) (by omega) fs
          have ce : cde f n s = bs f n l + cn f l s := by unfold cde; rw [e]
          rw [ce, e] at cl
          have ndi := @nd_ins l (bs f n l + cn f l s) (lv f n l + cn f l s) nodes hl1 (by
            rcases Nat.eq_zero_or_pos (lv f n l + cn f l s) with q | q
            · left
              rw [bs_pos l (by omega)]
              omega
            · exact Or.inr q) hnb2
          have lvn := lv_le f n (l + 1)
          have lvn2 : lv f n (l + 1) = lv f n l + (if l = 0 then 0 else cn f l n) := rfl
          rw [if_neg (by omega)] at lvn2
          have cmo := @cn_mono f l (s + 1) n (by omega)
          have b := @nd_b l (bs f n l + cn f l s + 1) (lv f n l + cn f l s + 1) (by omega) (by omega)
          refine Tt_m (t_grow (f := f) (n := n) (l := l) (s := s) (by omega) hn e (by omega) (by omega) rfl cl rfl rfl rfl rfl hT2 (by omega)) ?_
          rintro ⟨_, x0', next'⟩ ⟨nodes', path', g1, g2, g3⟩
          dsimp only at g1 g3 ⊢
          subst g1
          refine ih2 (n - (s + 1)) _ _ _ _ _ (by omega) ⟨s + 1, nodes', path', by omega, rfl, rfl, rfl, rfl, ?_, ?_, g3⟩
          · rw [c1]; rfl
          · rw [c1]
            show nodes' ≤ ndB l (bs f n l + cn f l s + 1) (lv f n l + cn f l s + 1)
            omega
        · rw [if_neg e]
          rw [if_neg e, Nat.add_zero] at c1
          have is : ∀ x, ins f n l (s + 1) x ↔ ins f n l s x := by
            intro x
            unfold ins
            constructor
            · rintro ⟨q1, q2, q3⟩
              refine ⟨q1, q2, ?_⟩
              rcases q3 with q3 | q3
              · exact Or.inl q3
              · right
                refine ⟨q3.1, ?_⟩
                have : x ≠ s := fun w => e (by rw [← w]; exact q3.1)
                omega
            · rintro ⟨q1, q2, q3⟩; exact ⟨q1, q2, by omega⟩
          refine ih2 (n - (s + 1)) _ _ _ _ _ (by omega) ⟨s + 1, nodes, path, by omega, rfl, rfl, rfl, rfl, ?_, ?_, ?_⟩
          · rw [c1]; rfl
          · rw [c1]; exact hnb2
          · refine TI_c hT2 (fun d q x _ => ?_) (fun d q _ => ?_)
            · unfold lfI; rw [is]
            · unfold inI
              constructor
              · rintro ⟨x, i1, i2⟩; exact ⟨x, (is x).mpr i1, i2⟩
              · rintro ⟨x, i1, i2⟩; exact ⟨x, (is x).mp i1, i2⟩
  · show 1 ≤ ndB 1 (bs f n 1) (lv f n 1)
    have : bs f n 1 = 0 := rfl
    rw [this]
    exact Nat.le_refl 1
  · have nI0 : ∀ x, ¬ ins f n 1 0 x := by
      rintro x ⟨q1, q2, q3⟩
      omega
    refine ⟨rfl, by omega, fun u v hu hv _ => by omega, fun w h1 h2 => by omega, fun v b hv hb => ⟨fun x hx => absurd hx.1 (nI0 x), fun _ ⟨x, hx⟩ => absurd hx.1 (nI0 x), fun _ _ => ?_⟩⟩
    have : v = 0 := by omega
    subst this
    have : b = 0 ∨ b = 1 := by omega
    rcases this with rfl | rfl
    · exact hz.1
    · exact hz.2
/-! bits read -/
/-- bit p of the bytes from a place on -/
def sB (b : Nat → Nat) (a p : Nat) : Nat := b (a + p / 8) / 2 ^ (p % 8) % 2
theorem sB_lt (b : Nat → Nat) (a p : Nat) : sB b a p < 2 := Nat.mod_lt _ (by omega)
def num (src : Nat → Nat) (p : Nat) : Nat → Nat
  | 0 => 0
  | k + 1 => num src p k + src (p + k) * 2 ^ k
theorem num_lt {src : Nat → Nat} (hs : ∀ i, src i < 2) (p : Nat) : ∀ k, num src p k < 2 ^ k := by
  intro k
  induction k with
  | zero => exact Nat.one_pos
  | succ k ih =>
    show num src p k + src (p + k) * 2 ^ k < 2 ^ (k + 1)
    have h1 := hs (p + k)
    have h2 : src (p + k) * 2 ^ k ≤ 1 * 2 ^ k := Nat.mul_le_mul_right _ (by omega)
    rw [Nat.pow_succ]
    omega
theorem b_low : ∀ v, v < 256 → ∀ t, t < 8 → (sx v >>> (nI t &&& nI 31)) &&& nI 1 = nI (v / 2 ^ t % 2) := by
  have h : ∀ v, v < 256 → (sx v >>> (nI 0 &&& nI 31)) &&& nI 1 = nI (v / 2 ^ 0 % 2) ∧ (sx v >>> (nI 1 &&& nI 31)) &&& nI 1 = nI (v / 2 ^ 1 % 2) ∧ (sx v >>> (nI 2 &&& nI 31)) &&& nI 1 = nI (v / 2 ^ 2 % 2) ∧ (sx v >>> (nI 3 &&& nI 31)) &&& nI 1 = nI (v / 2 ^ 3 % 2) ∧ (sx v >>> (nI 4 &&& nI 31)) &&& nI 1 = nI (v / 2 ^ 4 % 2) ∧ (sx v >>> (nI 5 &&& nI 31)) &&& nI 1 = nI (v / 2 ^ 5 % 2) ∧ (sx v >>> (nI 6 &&& nI 31)) &&& nI 1 = nI (v / 2 ^ 6 % 2) ∧ (sx v >>> (nI 7 &&& nI 31)) &&& nI 1 = nI (v / 2 ^ 7 % 2) := by decide +kernel
  intro v hv t ht
  obtain ⟨h0, h1, h2, h3, h4, h5, h6, h7⟩ := h v hv
  have : t = 0 ∨ t = 1 ∨ t = 2 ∨ t = 3 ∨ t = 4 ∨ t = 5 ∨ t = 6 ∨ t = 7 := by omega
  rcases this with rfl | rfl | rfl | rfl | rfl | rfl | rfl | rfl
  · exact h0
  · exact h1
  · exact h2
  · exact h3
  · exact h4
  · exact h5
  · exact h6
  · exact h7
/-- the program reads a number of k bits -/
theorem t_numC {c : Nat → Int32} {b : Nat → Nat} {len a M p k : Nat} {ve vl va x1 : Int32} (h : Row c 0 len b) (hlen : len ≤ 66000) (hM : M ≤ 8 * (len - a)) (ha : a ≤ len) (hp : p ≤ M) (hk : k ≤ 16) (h1 : ve = nI (8 * a + M)) (h2 : vl = nI len) (h3 : va = nI (8 * a + p)) (h4 : x1 = nI k) : Tt (BitReader_number 200000 66000 ve vl c va x1) (fun u => if p + k ≤ M then u.1 = nI (num (sB b a) p k) ∧ u.2 = nI (8 * a + (p + k)) else u.1 = -1 ∧ u.2 = nI (8 * a + p)) := by
  subst h1 h2 h3 h4
  have ed : nI (8 * a + M) - nI (8 * a + p) = nI (M - p) := by rw [pk_sub (by omega)]; exact congrArg nI (by omega)
  unfold BitReader_number
  simp (disch := omega) only [Tt_C, Tt_S, i_0, n_neg, Nat.not_lt_zero, if_false, ed, nI_leI]
  by_cases z : p + k ≤ M
  · rw [if_pos (by omega)]
    simp only [if_pos z]
    refine Tt_W3 (fun mm va x2 x3 => ∃ j, j ≤ k ∧ mm = k - j ∧ va = nI (8 * a + (p + j)) ∧ x2 = nI (num (sB b a) p j) ∧ x3 = nI j) ?_ 200000 k _ _ _ (by omega) ⟨0, by omega, rfl, rfl, rfl, rfl⟩
    rintro K mm va x2 x3 ⟨j, hj, rfl, rfl, rfl, rfl⟩ ih
    have nl := num_lt (sB_lt b a) p j
    have nk : 2 ^ j ≤ 2 ^ 16 := Nat.pow_le_pow_right (by omega) (by omega)
    unfold BitReader_number_23
    by_cases y : k ≤ j
    · simp (disch := omega) only [Tt_C, Tt_S, nI_leI]
      have : j = k := by omega
      subst this
      rw [if_pos y]
      exact ⟨rfl, rfl⟩
    · have g0 := @e_at 200000 66000 len (a + (p + j) / 8) c b (nI (a + (p + j) / 8)) (nI len) h hlen (by omega) (by omega) rfl rfl
      have z0 : bz b len (a + (p + j) / 8) = b (a + (p + j) / 8) := if_pos (by omega)
      rw [z0] at g0
      have b0 := h.2 (a + (p + j) / 8)
      have q1 : (8 * a + (p + j)) / 2 ^ 3 = a + (p + j) / 8 := by omega
      have q2 : (8 * a + (p + j)) % 8 = (p + j) % 8 := by omega
      have q3 : b (a + (p + j) / 8) / 2 ^ ((p + j) % 8) % 2 = sB b a (p + j) := rfl
      have q4 := sB_lt b a (p + j)
      have q5 : sB b a (p + j) * 2 ^ j ≤ 1 * 2 ^ j := Nat.mul_le_mul_right _ (by omega)
      simp (disch := omega) only [Tt_L, Tt_S, Tt_C, Tt_Z, Tt_R0, Tt_R1, Tt_R2, Tt_R3, Tt_R4, Tt_R5, q10, eq_self, Nat.not_lt_zero, if_true, if_false, i_0, i_1, i_2, i_3, i_4, i_5, i_6, i_7, i_8, i_9, i_10, i_11, i_13, i_14, i_15, i_16, i_17, i_18, i_19, i_24, i_29, i_30, i_31, i_32, i_138, i_143, i_144, i_254, i_255, i_256, i_257, i_258, i_261, i_264, i_265, i_279, i_280, i_284, i_285, i_286, i_288, i_319, i_320, i_338, i_339, i_575, i_576, i_599, i_600, i_4096, i_8191, i_8192, i_8249, i_8250, i_8256, i_9000, i_16384, i_32767, i_32768, i_65520, i_65521, i_65535, i_65536, i_65999, i_66000, i_1300, i_120, i_156, nI_leI, n_shr, n_7, q1, q2, g0, n_1, q3, n_shl, nI_add]
      rw [if_neg y, n_ord nl]
      exact ih (k - (j + 1)) _ _ _ (by omega) ⟨j + 1, by omega, rfl, rfl, rfl, rfl⟩
  · rw [if_neg (by omega), if_neg z]
    exact ⟨trivial, trivial⟩
/-- the reference reads a bit -/
theorem t_bitM {c : Nat → Int32} {b : Nat → Nat} {len a M p wr : Nat} {vf vb vr vw : Int32} (h : Row c 0 len b) (hlen : len ≤ 66000) (hM : M ≤ 8 * (len - a)) (ha : a ≤ len) (hp : p ≤ M) (hw : wr ≤ 1) (h1 : vf = nI a) (h2 : vb = nI M) (h3 : vr = nI p) (h4 : vw = nI wr) : Tt (M_readBit 200000 66000 vf vb c vr vw) (fun u => if wr = 0 ∧ p < M then u = (nI (sB b a p), nI (p + 1), nI 0) else u = (nI 0, nI p, nI 1)) := by
  subst h1 h2 h3 h4
  unfold M_readBit M_readBit_19 M_readBit_24
  by_cases z : wr = 0
  · subst z
    by_cases y : p = M
    · subst y
      simp (disch := omega) only [Tt_L, Tt_S, Tt_C, Tt_Z, Tt_R0, Tt_R1, Tt_R2, Tt_R3, Tt_R4, Tt_R5, q10, eq_self, Nat.not_lt_zero, if_true, if_false, i_0, i_1, i_2, i_3, i_4, i_5, i_6, i_7, i_8, i_9, i_10, i_11, i_13, i_14, i_15, i_16, i_17, i_18, i_19, i_24, i_29, i_30, i_31, i_32, i_138, i_143, i_144, i_254, i_255, i_256, i_257, i_258, i_261, i_264, i_265, i_279, i_280, i_284, i_285, i_286, i_288, i_319, i_320, i_338, i_339, i_575, i_576, i_599, i_600, i_4096, i_8191, i_8192, i_8249, i_8250, i_8256, i_9000, i_16384, i_32767, i_32768, i_65520, i_65521, i_65535, i_65536, i_65999, i_66000, i_1300, i_120, i_156, nI_eq]
      rw [if_neg (by omega)]
      simp only [or_true, true_and]
    · have e0 := h.1 (a + p / 8) (by omega)
      rw [Nat.zero_add] at e0
      have b0 := b_low (b (a + p / 8)) (h.2 _) (p % 8) (by omega)
      have q3 : b (a + p / 8) / 2 ^ (p % 8) % 2 = sB b a p := rfl
      simp (disch := omega) only [Tt_L, Tt_S, Tt_C, Tt_Z, Tt_R0, Tt_R1, Tt_R2, Tt_R3, Tt_R4, Tt_R5, q10, eq_self, Nat.not_lt_zero, if_true, if_false, i_0, i_1, i_2, i_3, i_4, i_5, i_6, i_7, i_8, i_9, i_10, i_11, i_13, i_14, i_15, i_16, i_17, i_18, i_19, i_24, i_29, i_30, i_31, i_32, i_138, i_143, i_144, i_254, i_255, i_256, i_257, i_258, i_261, i_264, i_265, i_279, i_280, i_284, i_285, i_286, i_288, i_319, i_320, i_338, i_339, i_575, i_576, i_599, i_600, i_4096, i_8191, i_8192, i_8249, i_8250, i_8256, i_9000, i_16384, i_32767, i_32768, i_65520, i_65521, i_65535, i_65536, i_65999, i_66000, i_1300, i_120, i_156, nI_eq, pk_div, n_rem, n_rem2, nI_add, Tt_N, nI_clamp, e0, b0, q3]
      rw [if_neg y, if_pos ⟨trivial, by omega⟩]
      exact ⟨Or.inl trivial, by omega, trivial⟩
  · have w1 : wr = 1 := by omega
    subst w1
    simp (disch := omega) only [Tt_L, Tt_S, Tt_C, Tt_Z, Tt_R0, Tt_R1, Tt_R2, Tt_R3, Tt_R4, Tt_R5, q10, eq_self, Nat.not_lt_zero, if_true, if_false, i_0, i_1, i_2, i_3, i_4, i_5, i_6, i_7, i_8, i_9, i_10, i_11, i_13, i_14, i_15, i_16, i_17, i_18, i_19, i_24, i_29, i_30, i_31, i_32, i_138, i_143, i_144, i_254, i_255, i_256, i_257, i_258, i_261, i_264, i_265, i_279, i_280, i_284, i_285, i_286, i_288, i_319, i_320, i_338, i_339, i_575, i_576, i_599, i_600, i_4096, i_8191, i_8192, i_8249, i_8250, i_8256, i_9000, i_16384, i_32767, i_32768, i_65520, i_65521, i_65535, i_65536, i_65999, i_66000, i_1300, i_120, i_156, nI_eq]
    simp only [false_and, if_false, or_true, true_and]
theorem t_numM {c : Nat → Int32} {b : Nat → Nat} {len a M p k wr : Nat} {vf vb vr vw x1 : Int32} (h : Row c 0 len b) (hlen : len ≤ 66000) (hM : M ≤ 8 * (len - a)) (ha : a ≤ len) (hp : p ≤ M) (hk : k ≤ 16) (hw : wr ≤ 1) (h1 : vf = nI a) (h2 : vb = nI M) (h3 : vr = nI p) (h4 : vw = nI wr) (h5 : x1 = nI k) : Tt (M_readNumber 200000 66000 vf vb c vr vw x1) (fun u => ∃ v p' wr', u = (nI v, nI p', nI wr') ∧ v < 2 ^ k ∧ p ≤ p' ∧ p' ≤ M ∧ wr' ≤ 1 ∧ (wr = 0 → p + k ≤ M → v = num (sB b a) p k ∧ p' = p + k ∧ wr' = 0) ∧ ((wr = 1 ∨ M < p + k) → wr' = 1 ∨ k = 0 ∧ wr' = wr)) := by
  subst h1 h2 h3 h4 h5
  unfold M_readNumber
  refine Tt_W4 (fun mm vr vw x2 x3 => ∃ j v p' wr', j ≤ k ∧ mm = k - j ∧ x3 = nI j ∧ vr = nI p' ∧ vw = nI wr' ∧ x2 = nI v ∧ v < 2 ^ j ∧ p ≤ p' ∧ p' ≤ M ∧ wr' ≤ 1 ∧ (wr = 0 → p + j ≤ M → v = num (sB b a) p j ∧ p' = p + j ∧ wr' = 0) ∧ ((wr = 1 ∨ M < p + j) → wr' = 1 ∨ j = 0 ∧ wr' = wr)) ?_ 200000 k _ _ _ _ (by omega) ⟨0, 0, p, wr, by omega, rfl, rfl, rfl, rfl, rfl, by omega, by omega, hp, hw, fun q _ => ⟨rfl, rfl, q⟩, fun _ => Or.inr ⟨rfl, rfl⟩⟩
  rintro K mm vr vw x2 x3 ⟨j, v, p', wr', hj, rfl, rfl, rfl, rfl, rfl, hv, hp1, hp2, hw', hg, hb⟩ ih
  have nk : 2 ^ j ≤ 2 ^ 16 := Nat.pow_le_pow_right (by omega) (by omega)
  unfold M_readNumber_4
  by_cases y : k ≤ j
  · simp (disch := omega) only [Tt_C, Tt_S, nI_leI]
    have : j = k := by omega
    subst this
    rw [if_pos y]
    exact ⟨v, p', wr', rfl, hv, hp1, hp2, hw', hg, hb⟩
  · simp (disch := omega) only [Tt_C, Tt_S, Tt_R2, nI_leI]
    rw [if_neg y]
    refine Tt_m (t_bitM h hlen hM ha hp2 hw' rfl rfl rfl rfl) ?_
    rintro ⟨r, vr2, vw2⟩ hu
    have pj : 2 ^ (j + 1) = 2 ^ j * 2 := Nat.pow_succ 2 j
    by_cases z : wr' = 0 ∧ p' < M
    · rw [if_pos z] at hu
      have q4 := sB_lt b a p'
      have q5 : sB b a p' * 2 ^ j ≤ 1 * 2 ^ j := Nat.mul_le_mul_right _ (by omega)
      obtain ⟨rfl, rfl, rfl⟩ : r = nI (sB b a p') ∧ vr2 = nI (p' + 1) ∧ vw2 = nI 0 := by
        have e1 := congrArg Prod.fst hu
        have e2 := congrArg (fun z => z.2.1) hu
        have e3 := congrArg (fun z => z.2.2) hu
        exact ⟨e1, e2, e3⟩
      simp (disch := omega) only [Tt_L, i_0, i_1, i_2, i_3, i_4, i_5, i_6, i_7, i_8, i_9, i_10, i_11, i_13, i_14, i_15, i_16, i_17, i_18, i_19, i_24, i_29, i_30, i_31, i_32, i_138, i_143, i_144, i_254, i_255, i_256, i_257, i_258, i_261, i_264, i_265, i_279, i_280, i_284, i_285, i_286, i_288, i_319, i_320, i_338, i_339, i_575, i_576, i_599, i_600, i_4096, i_8191, i_8192, i_8249, i_8250, i_8256, i_9000, i_16384, i_32767, i_32768, i_65520, i_65521, i_65535, i_65536, i_65999, i_66000, i_1300, i_120, i_156, nI_add, n_shl]
      rw [n_ord hv]
      refine ih (k - (j + 1)) _ _ _ _ (by omega) ⟨j + 1, v + sB b a p' * 2 ^ j, p' + 1, 0, by omega, rfl, rfl, rfl, rfl, rfl, by omega, by omega, by omega, by omega, fun w0 hpm => ?_, fun q => ?_⟩
      · obtain ⟨g1, g2, g3⟩ := hg w0 (by omega)
        rw [g1, g2]
        exact ⟨rfl, by omega, rfl⟩
      · exfalso
        rcases q with q | q
        · rcases hb (Or.inl q) with g | g
          · omega
          · omega
        · by_cases w : wr = 0
          · by_cases q2 : p + j ≤ M
            · have := (hg w q2).2.1
              omega
            · rcases hb (Or.inr (by omega)) with g | g
              · omega
              · omega
          · rcases hb (Or.inl (by omega)) with g | g
            · omega
            · omega
    · rw [if_neg z] at hu
      obtain ⟨rfl, rfl, rfl⟩ : r = nI 0 ∧ vr2 = nI p' ∧ vw2 = nI 1 := by
        have e1 := congrArg Prod.fst hu
        have e2 := congrArg (fun z => z.2.1) hu
        have e3 := congrArg (fun z => z.2.2) hu
        exact ⟨e1, e2, e3⟩
      simp (disch := omega) only [Tt_L, i_0, i_1, i_2, i_3, i_4, i_5, i_6, i_7, i_8, i_9, i_10, i_11, i_13, i_14, i_15, i_16, i_17, i_18, i_19, i_24, i_29, i_30, i_31, i_32, i_138, i_143, i_144, i_254, i_255, i_256, i_257, i_258, i_261, i_264, i_265, i_279, i_280, i_284, i_285, i_286, i_288, i_319, i_320, i_338, i_339, i_575, i_576, i_599, i_600, i_4096, i_8191, i_8192, i_8249, i_8250, i_8256, i_9000, i_16384, i_32767, i_32768, i_65520, i_65521, i_65535, i_65536, i_65999, i_66000, i_1300, i_120, i_156, nI_add, n_shl]
      rw [n_ord hv, Nat.zero_mul, Nat.add_zero]
      refine ih (k - (j + 1)) _ _ _ _ (by omega) ⟨j + 1, v, p', 1, by omega, rfl, rfl, rfl, rfl, rfl, by omega, hp1, hp2, by omega, fun w0 hpm => ?_, fun _ => Or.inl rfl⟩
      exfalso
      obtain ⟨g1, g2, g3⟩ := hg w0 (by omega)
      exact z ⟨g3, by omega⟩
/-! symbols read -/
def nth (f : Nat → Nat) (l r : Nat) : Nat → Nat
  | 0 => 0
  | n + 1 => if f n = l ∧ cn f l n = r then n else nth f l r n
theorem nth_ok {f : Nat → Nat} {l r : Nat} : ∀ {n : Nat}, r < cn f l n → nth f l r n < n ∧ f (nth f l r n) = l ∧ cn f l (nth f l r n) = r := by
  intro n
  induction n with
  | zero => intro h; exact absurd h (Nat.not_lt_zero r)
  | succ n ih =>
    intro h
    have h' : r < cn f l n + (if f n = l then 1 else 0) := h
    by_cases z : f n = l ∧ cn f l n = r
    · have e : nth f l r (n + 1) = n := if_pos z
      rw [e]
      exact ⟨by omega, z.1, z.2⟩
    · have e : nth f l r (n + 1) = nth f l r n := if_neg z
      rw [e]
      have : r < cn f l n := by
        by_cases y : f n = l
        · rw [if_pos y] at h'
          have : cn f l n ≠ r := fun q => z ⟨y, q⟩
          omega
        · rw [if_neg y] at h'
          omega
      obtain ⟨g1, g2, g3⟩ := ih this
      exact ⟨by omega, g2, g3⟩
def dgo (f : Nat → Nat) (n : Nat) (src : Nat → Nat) (M : Nat) : Nat → Nat → Nat → Nat → Option (Nat × Nat)
  | 0, _, _, _ => none
  | k + 1, l, x, p => if M ≤ p then none else if 2 * x + src p < bs f n (l + 1) + cn f (l + 1) n then some (nth f (l + 1) (2 * x + src p - bs f n (l + 1)) n, p + 1) else dgo f n src M k (l + 1) (2 * x + src p) (p + 1)
/-- the symbol whose code comes next, and the place behind it -/
def dcd (f : Nat → Nat) (n : Nat) (src : Nat → Nat) (M p : Nat) : Option (Nat × Nat) := dgo f n src M 15 0 0 p
theorem dgo_b {f : Nat → Nat} {n : Nat} {src : Nat → Nat} {M : Nat} : ∀ k l x p s p', bs f n (l + 1) ≤ 2 * x → dgo f n src M k l x p = some (s, p') → s < n ∧ p < p' ∧ p' ≤ M ∧ 0 < f s := by
  intro k
  induction k with
  | zero => intro l x p s p' _ h; cases h
  | succ k ih =>
    intro l x p s p' hx h
    have h' : (if M ≤ p then none else if 2 * x + src p < bs f n (l + 1) + cn f (l + 1) n then some (nth f (l + 1) (2 * x + src p - bs f n (l + 1)) n, p + 1) else dgo f n src M k (l + 1) (2 * x + src p) (p + 1)) = some (s, p') := h
    by_cases z : M ≤ p
    · rw [if_pos z] at h'; cases h'
    · rw [if_neg z] at h'
      by_cases y : 2 * x + src p < bs f n (l + 1) + cn f (l + 1) n
      · rw [if_pos y] at h'
        have e := Option.some.inj h'
        have e1 := congrArg Prod.fst e
        have e2 := congrArg Prod.snd e
        dsimp only at e1 e2
        have o := @nth_ok f (l + 1) (2 * x + src p - bs f n (l + 1)) n (by omega)
        rw [e1] at o
        exact ⟨o.1, by omega, by omega, by omega⟩
      · rw [if_neg y] at h'
        have eb : bs f n (l + 1 + 1) = 2 * (bs f n (l + 1) + cn f (l + 1) n) := by
          show 2 * (bs f n (l + 1) + (if l + 1 = 0 then 0 else cn f (l + 1) n)) = _
          rw [if_neg (by omega)]
        have := ih (l + 1) _ (p + 1) s p' (by omega) h'
        exact ⟨this.1, by omega, this.2.2.1, this.2.2.2⟩
theorem dgo_no {f : Nat → Nat} {n : Nat} {src : Nat → Nat} {M : Nat} (hs : ∀ i, src i < 2) : ∀ k l x p, bs f n (l + 1) ≤ 2 * x → ¬ inI f n 16 0 l x → l + k ≤ 15 → dgo f n src M k l x p = none := by
  intro k
  induction k with
  | zero => intro l x p _ _ _; rfl
  | succ k ih =>
    intro l x p hx hno hk
    have sp := hs p
    show (if M ≤ p then none else if 2 * x + src p < bs f n (l + 1) + cn f (l + 1) n then some (nth f (l + 1) (2 * x + src p - bs f n (l + 1)) n, p + 1) else dgo f n src M k (l + 1) (2 * x + src p) (p + 1)) = none
    by_cases z : M ≤ p
    · rw [if_pos z]
    · rw [if_neg z]
      have eb : bs f n (l + 1 + 1) = 2 * (bs f n (l + 1) + cn f (l + 1) n) := by
        show 2 * (bs f n (l + 1) + (if l + 1 = 0 then 0 else cn f (l + 1) n)) = _
        rw [if_neg (by omega)]
      by_cases y : 2 * x + src p < bs f n (l + 1) + cn f (l + 1) n
      · exfalso
        obtain ⟨o1, o2, o3⟩ := @nth_ok f (l + 1) (2 * x + src p - bs f n (l + 1)) n (by omega)
        apply hno
        refine ⟨_, ⟨o1, by omega, Or.inl (by omega)⟩, by omega, ?_⟩
        unfold cde
        rw [o2, o3, show l + 1 - l = 1 by omega]
        omega
      · rw [if_neg y]
        apply ih _ _ _ (by omega) _ (by omega)
        rintro ⟨x', i1, i2, i3⟩
        apply hno
        refine ⟨x', i1, by omega, ?_⟩
        have : cde f n x' / 2 ^ (f x' - l) = cde f n x' / 2 ^ (f x' - (l + 1)) / 2 := by
          have e9 : 2 ^ (f x' - l) = 2 ^ (f x' - (l + 1)) * 2 := by rw [show f x' - l = (f x' - (l + 1)) + 1 by omega, Nat.pow_succ]
          rw [e9, Nat.div_div_eq_div_mul]
        rw [this, i3]
        omega
/-- a tree that reads the codes of lengths f -/
def TreeOK (next : Nat → Int32) (f : Nat → Nat) (n : Nat) : Prop := ∃ nodes path, nodes ≤ 400 ∧ TI next nodes path (lfI f n 16 0) (inI f n 16 0)
theorem t_symM {c next : Nat → Int32} {b f : Nat → Nat} {len a M p n : Nat} {vf vb vr vw : Int32} (h : Row c 0 len b) (hlen : len ≤ 66000) (hM : M ≤ 8 * (len - a)) (ha : a ≤ len) (hp : p ≤ M) (hn : n ≤ 288) (hf : ∀ i, i < n → f i ≤ 15) (hT : TreeOK next f n) (h1 : vf = nI a) (h2 : vb = nI M) (h3 : vr = nI p) (h4 : vw = nI 0) : Tt (M_readSymbol 200000 66000 vf vb c next vr vw) (fun u => (∀ s p', dcd f n (sB b a) M p = some (s, p') → u = (nI s, nI p', nI 0)) ∧ (dcd f n (sB b a) M p = none → ∃ p', p ≤ p' ∧ p' ≤ M ∧ u = (nI 0, nI p', nI 1))) := by
  subst h1 h2 h3 h4
  obtain ⟨nodes, path, hnd, hTI⟩ := hT
  have hTI' := hTI
  obtain ⟨t1, t2, t3, t4, t5⟩ := hTI'
  unfold M_readSymbol
  refine Tt_W3 (fun mm vr vw x2 => (∃ l x v p', l ≤ 14 ∧ mm = 16 - l ∧ vr = nI p' ∧ vw = nI 0 ∧ x2 = nI v ∧ v < nodes ∧ path v = (l, x) ∧ p ≤ p' ∧ p' ≤ M ∧ bs f n (l + 1) ≤ 2 * x ∧ x < 2 ^ l ∧ dgo f n (sB b a) M (15 - l) l x p' = dcd f n (sB b a) M p) ∨ (mm = 0 ∧ vw = nI 1 ∧ dcd f n (sB b a) M p = none ∧ ∃ p', p ≤ p' ∧ p' ≤ M ∧ vr = nI p')) ?_ 200000 16 _ _ _ (by omega) (Or.inl ⟨0, 0, 0, p, by omega, rfl, rfl, rfl, rfl, t2, t1, by omega, hp, Nat.le_refl 0, by omega, rfl⟩)
  rintro K mm vr vw x2 (⟨l, x, v, p', hl, rfl, rfl, rfl, rfl, hv, hpa, hp1, hp2, hbx, hx2, hD⟩ | ⟨rfl, rfl, hnone, p', hp1, hp2, rfl⟩) ih
  · unfold M_readSymbol_2 M_readSymbol_34 M_readSymbol_50
    simp (disch := omega) only [Tt_L, Tt_S, Tt_C, Tt_Z, Tt_R0, Tt_R1, Tt_R2, Tt_R3, Tt_R4, Tt_R5, q10, eq_self, Nat.not_lt_zero, if_true, if_false, i_0, i_1, i_2, i_3, i_4, i_5, i_6, i_7, i_8, i_9, i_10, i_11, i_13, i_14, i_15, i_16, i_17, i_18, i_19, i_24, i_29, i_30, i_31, i_32, i_138, i_143, i_144, i_254, i_255, i_256, i_257, i_258, i_261, i_264, i_265, i_279, i_280, i_284, i_285, i_286, i_288, i_319, i_320, i_338, i_339, i_575, i_576, i_599, i_600, i_4096, i_8191, i_8192, i_8249, i_8250, i_8256, i_9000, i_16384, i_32767, i_32768, i_65520, i_65521, i_65535, i_65536, i_65999, i_66000, i_1300, i_120, i_156]
    refine Tt_m (t_bitM h hlen hM ha hp2 (wr := 0) (by omega) rfl rfl rfl rfl) ?_
    rintro ⟨r, vr2, vw2⟩ hu
    have ek : 15 - l = (14 - l) + 1 := by omega
    rw [ek] at hD
    have hD' : (if M ≤ p' then none else if 2 * x + sB b a p' < bs f n (l + 1) + cn f (l + 1) n then some (nth f (l + 1) (2 * x + sB b a p' - bs f n (l + 1)) n, p' + 1) else dgo f n (sB b a) M (14 - l) (l + 1) (2 * x + sB b a p') (p' + 1)) = dcd f n (sB b a) M p := hD
    have fail : ∀ p'' y3, p ≤ p'' → p'' ≤ M → dcd f n (sB b a) M p = none → Tt (K (nI p'') (nI 1) y3) (fun u => (∀ s p', dcd f n (sB b a) M p = some (s, p') → u = (nI s, nI p', nI 0)) ∧ (dcd f n (sB b a) M p = none → ∃ p', p ≤ p' ∧ p' ≤ M ∧ u = (nI 0, nI p', nI 1))) := by
      intro p'' y3 q1 q2 q3
      exact ih 0 _ _ _ (by omega) (Or.inr ⟨rfl, rfl, q3, p'', q1, q2, rfl⟩)
    by_cases z : p' < M
    · rw [if_pos ⟨rfl, z⟩] at hu
      obtain ⟨rfl, rfl, rfl⟩ : r = nI (sB b a p') ∧ vr2 = nI (p' + 1) ∧ vw2 = nI 0 := ⟨congrArg Prod.fst hu, congrArg (fun z => z.2.1) hu, congrArg (fun z => z.2.2) hu⟩
      have sb := sB_lt b a p'
      rw [if_neg (by omega)] at hD'
      obtain ⟨a1, a2, a3⟩ := t5 v (sB b a p') hv sb
      rw [hpa] at a1 a2 a3
      dsimp only at a1 a2 a3
      simp (disch := omega) only [Tt_L, Tt_S, Tt_C, Tt_Z, Tt_R0, Tt_R1, Tt_R2, Tt_R3, Tt_R4, Tt_R5, q10, eq_self, Nat.not_lt_zero, if_true, if_false, i_0, i_1, i_2, i_3, i_4, i_5, i_6, i_7, i_8, i_9, i_10, i_11, i_13, i_14, i_15, i_16, i_17, i_18, i_19, i_24, i_29, i_30, i_31, i_32, i_138, i_143, i_144, i_254, i_255, i_256, i_257, i_258, i_261, i_264, i_265, i_279, i_280, i_284, i_285, i_286, i_288, i_319, i_320, i_338, i_339, i_575, i_576, i_599, i_600, i_4096, i_8191, i_8192, i_8249, i_8250, i_8256, i_9000, i_16384, i_32767, i_32768, i_65520, i_65521, i_65535, i_65536, i_65999, i_66000, i_1300, i_120, i_156, pk_mul, nI_add, Tt_N, nI_clamp]
      refine ⟨by omega, ?_⟩
      by_cases y : 2 * x + sB b a p' < bs f n (l + 1) + cn f (l + 1) n
      · rw [if_pos y] at hD'
        obtain ⟨o1, o2, o3⟩ := @nth_ok f (l + 1) (2 * x + sB b a p' - bs f n (l + 1)) n (by omega)
        generalize nth f (l + 1) (2 * x + sB b a p' - bs f n (l + 1)) n = s at *
        have e := a1 s ⟨⟨o1, by omega, Or.inl (by omega)⟩, o2, by unfold cde; rw [o2, o3]; omega⟩
        have neg : nI 0 - nI (s + 1) < 0 := pk_sneg (by omega) (by omega)
        have ng2 : ¬ (nI 0 - nI (s + 1) = nI 0) := fun q => by rw [q] at neg; exact absurd neg (by decide)
        have ng3 : ¬ (nI 0 ≤ nI 0 - nI (s + 1)) := by
          intro q
          have q1 := Int32.lt_iff_toInt_lt.mp neg
          have q2 := Int32.le_iff_toInt_le.mp q
          have q3 : (nI 0).toInt = (0 : Int32).toInt := rfl
          omega
        rw [e, if_neg ng2, if_neg ng3]
        rw [← hD']
        refine ⟨fun s' p'' q => ?_, (fun q => by cases q)⟩
        have q' := Option.some.inj q
        have q1 := congrArg Prod.fst q'
        have q2 := congrArg Prod.snd q'
        dsimp only at q1 q2
        subst q1 q2
        have : -nI 1 - (nI 0 - nI (s + 1)) = nI s := by
          have q1 := n_it3 (nI s)
          have q3 := n_it1 (nI s)
          rw [q1, nI_1] at q3
          exact q3
        rw [this]
      · rw [if_neg y] at hD'
        have nolf : ¬ ∃ s, lfI f n 16 0 (l + 1) (2 * x + sB b a p') s := by
          rintro ⟨s, i1, i2, i3⟩
          have cm := @cn_mono f (f s) (s + 1) n (by have := i1.1; omega)
          rw [cn_s, i2] at cm
          unfold cde at i3
          rw [i2] at i3
          omega
        have eb : bs f n (l + 1 + 1) = 2 * (bs f n (l + 1) + cn f (l + 1) n) := by
          show 2 * (bs f n (l + 1) + (if l + 1 = 0 then 0 else cn f (l + 1) n)) = _
          rw [if_neg (by omega)]
        by_cases w : inI f n 16 0 (l + 1) (2 * x + sB b a p')
        · obtain ⟨w', w1, w2, w3, w4⟩ := a2 nolf w
          obtain ⟨x', i1, i2, i3⟩ := w
          have fx := hf x' i1.1
          rw [w3]
          simp (disch := omega) only [Tt_L, Tt_S, Tt_C, Tt_Z, Tt_R0, Tt_R1, Tt_R2, Tt_R3, Tt_R4, Tt_R5, q10, eq_self, Nat.not_lt_zero, if_true, if_false, i_0, i_1, i_2, i_3, i_4, i_5, i_6, i_7, i_8, i_9, i_10, i_11, i_13, i_14, i_15, i_16, i_17, i_18, i_19, i_24, i_29, i_30, i_31, i_32, i_138, i_143, i_144, i_254, i_255, i_256, i_257, i_258, i_261, i_264, i_265, i_279, i_280, i_284, i_285, i_286, i_288, i_319, i_320, i_338, i_339, i_575, i_576, i_599, i_600, i_4096, i_8191, i_8192, i_8249, i_8250, i_8256, i_9000, i_16384, i_32767, i_32768, i_65520, i_65521, i_65535, i_65536, i_65999, i_66000, i_1300, i_120, i_156, nI_eq, nI_leI]
          rw [if_neg (by omega), if_pos (by omega)]
          refine ih (16 - (l + 1)) _ _ _ (by omega) (Or.inl ⟨l + 1, 2 * x + sB b a p', w', p' + 1, by omega, rfl, rfl, rfl, rfl, w2, w4, by omega, by omega, by omega, ?_, ?_⟩)
          · rw [Nat.pow_succ]; omega
          · rw [show 15 - (l + 1) = 14 - l by omega]; exact hD'
        · have e := a3 nolf w
          rw [e, if_pos rfl]
          apply fail _ _ (by omega) (by omega)
          rw [← hD']
          exact dgo_no (sB_lt b a) _ _ _ _ (by omega) w (by omega)
    · rw [if_neg (fun q => z q.2)] at hu
      obtain ⟨rfl, rfl, rfl⟩ : r = nI 0 ∧ vr2 = nI p' ∧ vw2 = nI 1 := ⟨congrArg Prod.fst hu, congrArg (fun z => z.2.1) hu, congrArg (fun z => z.2.2) hu⟩
      rw [if_pos (by omega)] at hD'
      simp (disch := omega) only [Tt_L, Tt_S, Tt_C, Tt_Z, Tt_R0, Tt_R1, Tt_R2, Tt_R3, Tt_R4, Tt_R5, q10, eq_self, Nat.not_lt_zero, if_true, if_false, i_0, i_1, i_2, i_3, i_4, i_5, i_6, i_7, i_8, i_9, i_10, i_11, i_13, i_14, i_15, i_16, i_17, i_18, i_19, i_24, i_29, i_30, i_31, i_32, i_138, i_143, i_144, i_254, i_255, i_256, i_257, i_258, i_261, i_264, i_265, i_279, i_280, i_284, i_285, i_286, i_288, i_319, i_320, i_338, i_339, i_575, i_576, i_599, i_600, i_4096, i_8191, i_8192, i_8249, i_8250, i_8256, i_9000, i_16384, i_32767, i_32768, i_65520, i_65521, i_65535, i_65536, i_65999, i_66000, i_1300, i_120, i_156, pk_mul, nI_add, Tt_N, nI_clamp, nI_eq, q10, if_false]
      exact ⟨by omega, fail _ _ hp1 hp2 hD'.symm⟩
  · unfold M_readSymbol_2
    simp (disch := omega) only [Tt_L, Tt_S, Tt_C, Tt_Z, Tt_R0, Tt_R1, Tt_R2, Tt_R3, Tt_R4, Tt_R5, q10, eq_self, Nat.not_lt_zero, if_true, if_false, i_0, i_1, i_2, i_3, i_4, i_5, i_6, i_7, i_8, i_9, i_10, i_11, i_13, i_14, i_15, i_16, i_17, i_18, i_19, i_24, i_29, i_30, i_31, i_32, i_138, i_143, i_144, i_254, i_255, i_256, i_257, i_258, i_261, i_264, i_265, i_279, i_280, i_284, i_285, i_286, i_288, i_319, i_320, i_338, i_339, i_575, i_576, i_599, i_600, i_4096, i_8191, i_8192, i_8249, i_8250, i_8256, i_9000, i_16384, i_32767, i_32768, i_65520, i_65521, i_65535, i_65536, i_65999, i_66000, i_1300, i_120, i_156, nI_eq]
    exact ⟨(fun s p'' q => by rw [hnone] at q; cases q), (fun _ => ⟨p', hp1, hp2, rfl⟩)⟩
/-! the program's table -/
def TabOK (counts symbols : Nat → Int32) (f : Nat → Nat) (n : Nat) : Prop := (∀ l, 1 ≤ l → l ≤ 15 → counts l = nI (cn f l n)) ∧ ∀ s, s < n → 0 < f s → symbols (lv f n (f s) + cn f (f s) s) = nI s
theorem t_symC {c counts symbols : Nat → Int32} {b f : Nat → Nat} {len a M p n N : Nat} {ve vl va : Int32} (h : Row c 0 len b) (hlen : len ≤ 66000) (hM : M ≤ 8 * (len - a)) (ha : a ≤ len) (hp : p ≤ M) (hn : n ≤ N) (hN : N ≤ 288) (hf : ∀ i, i < n → f i ≤ 15) (hT : TabOK counts symbols f n) (hK : krs f n 15 ≤ 32768) (h1 : ve = nI (8 * a + M)) (h2 : vl = nI len) (h3 : va = nI (8 * a + p)) : Tt (Table_next 200000 66000 N ve vl c counts symbols va) (fun u => (∀ s p', dcd f n (sB b a) M p = some (s, p') → u = (nI s, nI (8 * a + p'))) ∧ (dcd f n (sB b a) M p = none → ∃ p', p ≤ p' ∧ p' ≤ M ∧ u = (-1, nI (8 * a + p')))) := by
  subst h1 h2 h3
  unfold Table_next
  refine Tt_W5 (fun mm va x2 x3 x4 x5 => ∃ l x p', l ≤ 15 ∧ mm = 15 - l ∧ va = nI (8 * a + p') ∧ x2 = nI x ∧ x3 = nI (bs f n (l + 1)) ∧ x4 = nI (lv f n (l + 1)) ∧ x5 = nI (l + 1) ∧ p ≤ p' ∧ p' ≤ M ∧ bs f n (l + 1) ≤ 2 * x ∧ x < 2 ^ l ∧ dgo f n (sB b a) M (15 - l) l x p' = dcd f n (sB b a) M p) ?_ 200000 15 _ _ _ _ _ (by omega) ⟨0, 0, p, by omega, rfl, rfl, rfl, rfl, rfl, rfl, by omega, hp, Nat.le_refl 0, by omega, rfl⟩
  rintro K mm va x2 x3 x4 x5 ⟨l, x, p', hl, rfl, rfl, rfl, rfl, rfl, rfl, hp1, hp2, hbx, hx2, hD⟩ ih
  unfold Table_next_10
  by_cases z : l = 15
  · subst z
    simp only [Tt_C, Tt_S]
    rw [if_pos (by decide)]
    have hD' : none = dcd f n (sB b a) M p := hD
    rw [← hD']
    exact ⟨(fun s p'' q => by cases q), (fun _ => ⟨p', hp1, hp2, rfl⟩)⟩
  · have ek : 15 - l = (14 - l) + 1 := by omega
    rw [ek] at hD
    have hD' : (if M ≤ p' then none else if 2 * x + sB b a p' < bs f n (l + 1) + cn f (l + 1) n then some (nth f (l + 1) (2 * x + sB b a p' - bs f n (l + 1)) n, p' + 1) else dgo f n (sB b a) M (14 - l) (l + 1) (2 * x + sB b a p') (p' + 1)) = dcd f n (sB b a) M p := hD
    have x15 : 2 ^ l ≤ 2 ^ 14 := Nat.pow_le_pow_right (by omega) (by omega)
    simp (disch := omega) only [Tt_C, Tt_S, Tt_R1, i_15, nI_ltI]
    rw [if_neg (by omega)]
    refine Tt_m (t_numC h hlen hM ha hp2 (k := 1) (by omega) rfl rfl rfl rfl) ?_
    rintro ⟨r, va2⟩ hu
    dsimp only at hu ⊢
    by_cases y : p' + 1 ≤ M
    · rw [if_pos y] at hu
      obtain ⟨rfl, rfl⟩ := hu
      have sb := sB_lt b a p'
      have e1 : num (sB b a) p' 1 = sB b a p' := by
        show 0 + sB b a (p' + 0) * 2 ^ 0 = _
        rw [Nat.add_zero]
        omega
      rw [e1]
      rw [if_neg (by omega)] at hD'
      have hc := hT.1 (l + 1) (by omega) (by omega)
      have fl := @full_le f n (l + 1) hK (by omega) (by omega)
      have fl2 : 2 ^ (l + 1) = 2 ^ l * 2 := Nat.pow_succ 2 l
      have lvn := lv_le f n (l + 1 + 1)
      have lv2 : lv f n (l + 1 + 1) = lv f n (l + 1) + cn f (l + 1) n := by
        show lv f n (l + 1) + (if l + 1 = 0 then 0 else cn f (l + 1) n) = _
        rw [if_neg (by omega)]
      have eb : bs f n (l + 1 + 1) = 2 * (bs f n (l + 1) + cn f (l + 1) n) := by
        show 2 * (bs f n (l + 1) + (if l + 1 = 0 then 0 else cn f (l + 1) n)) = _
        rw [if_neg (by omega)]
      have e2 : nI x <<< (nI 1 &&& nI 31) ||| nI (sB b a p') = nI (2 * x + sB b a p') := by
        rw [n_shl (by omega) (by omega), n_or, Nat.or_comm, ← n_or, n_ord (k := 1) (by omega)]
        congr 1
        omega
      simp only [Tt_L, i_0, i_1, i_2, i_3, i_4, i_5, i_6, i_7, i_8, i_9, i_10, i_11, i_13, i_14, i_15, i_16, i_17, i_18, i_19, i_24, i_29, i_30, i_31, i_32, i_138, i_143, i_144, i_254, i_255, i_256, i_257, i_258, i_261, i_264, i_265, i_279, i_280, i_284, i_285, i_286, i_288, i_319, i_320, i_338, i_339, i_575, i_576, i_599, i_600, i_4096, i_8191, i_8192, i_8249, i_8250, i_8256, i_9000, i_16384, i_32767, i_32768, i_65520, i_65521, i_65535, i_65536, i_65999, i_66000, i_1300, i_120, i_156, e2]
      rw [if_pos (by rw [nI_leI (by omega) (by omega)]; omega), Tt_N (by omega), nI_clamp (by omega), hc]
      simp (disch := omega) only [nI_add, pk_sub, Tt_C, Tt_S, nI_leI]
      refine ⟨by omega, ?_⟩
      by_cases w : 2 * x + sB b a p' < bs f n (l + 1) + cn f (l + 1) n
      · rw [if_neg (by omega)]
        rw [if_pos w] at hD'
        obtain ⟨o1, o2, o3⟩ := @nth_ok f (l + 1) (2 * x + sB b a p' - bs f n (l + 1)) n (by omega)
        have sy := hT.2 _ o1 (by omega)
        rw [o2, o3] at sy
        generalize nth f (l + 1) (2 * x + sB b a p' - bs f n (l + 1)) n = s at *
        have e3 : lv f n (l + 1) + (2 * x + sB b a p') - bs f n (l + 1) = lv f n (l + 1) + (2 * x + sB b a p' - bs f n (l + 1)) := by omega
        unfold Table_next_59
        simp (disch := omega) only [Tt_L, Tt_S, Tt_C, Tt_Z, Tt_R0, Tt_R1, Tt_R2, Tt_R3, Tt_R4, Tt_R5, q10, eq_self, Nat.not_lt_zero, if_true, if_false, i_0, i_1, i_2, i_3, i_4, i_5, i_6, i_7, i_8, i_9, i_10, i_11, i_13, i_14, i_15, i_16, i_17, i_18, i_19, i_24, i_29, i_30, i_31, i_32, i_138, i_143, i_144, i_254, i_255, i_256, i_257, i_258, i_261, i_264, i_265, i_279, i_280, i_284, i_285, i_286, i_288, i_319, i_320, i_338, i_339, i_575, i_576, i_599, i_600, i_4096, i_8191, i_8192, i_8249, i_8250, i_8256, i_9000, i_16384, i_32767, i_32768, i_65520, i_65521, i_65535, i_65536, i_65999, i_66000, i_1300, i_120, i_156, n_neg, nI_leI, Tt_N, nI_clamp]
        rw [if_neg (by omega), e3, sy, ← hD']
        refine ⟨by omega, fun s' p'' q => ?_, (fun q => by cases q)⟩
        have q' := Option.some.inj q
        have q1 := congrArg Prod.fst q'
        have q2 := congrArg Prod.snd q'
        dsimp only at q1 q2
        rw [q1, q2]
      · rw [if_neg w] at hD'
        rw [if_pos (by omega)]
        simp (disch := omega) only [Tt_N, Tt_L, nI_add, n_shl]
        refine ⟨by omega, by omega, ?_⟩
        refine ih (15 - (l + 1)) _ _ _ _ _ (by omega) ⟨l + 1, 2 * x + sB b a p', p' + 1, by omega, rfl, rfl, rfl, ?_, ?_, rfl, by omega, by omega, by omega, by omega, ?_⟩
        · rw [eb]; exact congrArg nI (by omega)
        · rw [lv2]
        · rw [show 15 - (l + 1) = 14 - l by omega]; exact hD'
    · rw [if_neg y] at hu
      obtain ⟨rfl, rfl⟩ := hu
      rw [if_pos (by omega)] at hD'
      rw [if_neg (by decide), ← hD']
      exact ⟨(fun s p'' q => by cases q), (fun _ => ⟨p', hp1, hp2, rfl⟩)⟩
/-! codes for reading, made: program and reference take the same lengths -/
def gd (f : Nat → Nat) (n mb : Nat) : Prop := krs f n 15 = 32768 ∨ (n - cn f 0 n = 1 ∧ cn f 1 n = 1) ∨ (n - cn f 0 n = 0 ∧ mb = 1)
theorem cn_all {f : Nat → Nat} : ∀ n, (∀ i, i < n → f i ≤ 15) → cn f 0 n + lv f n 16 = n := by
  intro n hf
  have h1 : ∀ l, cn f 0 n + lv f n (l + 1) = sm (fun j => 1 * cn f j n) (l + 1) := by
    intro l
    induction l with
    | zero => show cn f 0 n + (0 + 0) = 0 + 1 * cn f 0 n; omega
    | succ l ih =>
      show cn f 0 n + (lv f n (l + 1) + (if l + 1 = 0 then 0 else cn f (l + 1) n)) = sm (fun j => 1 * cn f j n) (l + 1) + 1 * cn f (l + 1) n
      rw [if_neg (by omega)]
      omega
  rw [h1 15, sm_cn (fun _ => 1)]
  have : ∀ k, k ≤ n → sm (fun t => if f t < 15 + 1 then 1 else 0) k = k := by
    intro k
    induction k with
    | zero => intro _; rfl
    | succ k ih =>
      intro hk
      show sm (fun t => if f t < 15 + 1 then 1 else 0) k + (if f k < 15 + 1 then 1 else 0) = k + 1
      rw [ih (by omega), if_pos (by have := hf k (by omega); omega)]
  exact this n (Nat.le_refl n)
theorem krs_u (f : Nat → Nat) (n : Nat) : ∀ l, krs f n (l + 1) ≤ cn f 1 n * 16384 + (lv f n (l + 2) - cn f 1 n) * 8192 ∧ cn f 1 n * 16384 ≤ krs f n (l + 1) ∧ cn f 1 n ≤ lv f n (l + 2) := by
  intro l
  induction l with
  | zero =>
    have e1 : krs f n 1 = 0 + cn f 1 n * 2 ^ 14 := rfl
    have e2 : lv f n 2 = 0 + 0 + cn f 1 n := rfl
    rw [e1, e2]
    omega
  | succ l ih =>
    have e1 : krs f n (l + 1 + 1) = krs f n (l + 1) + cn f (l + 1 + 1) n * 2 ^ (14 - (l + 1)) := rfl
    have e2 : lv f n (l + 1 + 2) = lv f n (l + 2) + cn f (l + 2) n := by
      show lv f n (l + 2) + (if l + 2 = 0 then 0 else cn f (l + 2) n) = _
      rw [if_neg (by omega)]
    have p1 : cn f (l + 1 + 1) n * 2 ^ (14 - (l + 1)) ≤ cn f (l + 2) n * 2 ^ 13 := Nat.mul_le_mul_left _ (Nat.pow_le_pow_right (by omega) (by omega))
    rw [e1, e2]
    omega
theorem gd_k {f : Nat → Nat} {n mb : Nat} (hf : ∀ i, i < n → f i ≤ 15) (h : gd f n mb) : krs f n 15 ≤ 32768 := by
  have a := cn_all n hf
  have k := krs_u f n 14
  unfold gd at h
  have k1 : krs f n 15 ≤ cn f 1 n * 16384 + (lv f n 16 - cn f 1 n) * 8192 := k.1
  have k3 : cn f 1 n ≤ lv f n 16 := k.2.2
  omega
theorem gd_m {f : Nat → Nat} {n : Nat} (hf : ∀ i, i < n → f i ≤ 15) (h : n - cn f 0 n = 1) : cn f 1 n = 1 ↔ krs f n 15 = 16384 := by
  have a := cn_all n hf
  have k := krs_u f n 14
  have k1 : krs f n 15 ≤ cn f 1 n * 16384 + (lv f n 16 - cn f 1 n) * 8192 := k.1
  have k2 : cn f 1 n * 16384 ≤ krs f n 15 := k.2.1
  have k3 : cn f 1 n ≤ lv f n 16 := k.2.2
  omega
theorem lv_mono (f : Nat → Nat) (n : Nat) : ∀ {a b : Nat}, a ≤ b → lv f n a ≤ lv f n b := by
  intro a b h
  induction b with
  | zero => have : a = 0 := by omega
            subst this; exact Nat.le_refl _
  | succ b ih =>
    by_cases e : a = b + 1
    · subst e; exact Nat.le_refl _
    · have := ih (by omega)
      show lv f n a ≤ lv f n b + _
      omega
theorem lv_s {f : Nat → Nat} {n l : Nat} (h : 1 ≤ l) : lv f n (l + 1) = lv f n l + cn f l n := by
  show lv f n l + (if l = 0 then 0 else cn f l n) = _
  rw [if_neg (by omega)]
/-- places of symbols in the program's table differ -/
theorem pl_ne {f : Nat → Nat} {n t s : Nat} (ht : t < s) (hs : s < n) (h1 : 0 < f t) (h2 : 0 < f s) : lv f n (f t) + cn f (f t) t ≠ lv f n (f s) + cn f (f s) s := by
  have a1 := @cn_mono f (f t) (t + 1) n (by omega)
  have a2 := @cn_mono f (f s) (s + 1) n (by omega)
  rw [cn_s] at a1 a2
  have b1 := @lv_s f n (f t) (by omega)
  have b2 := @lv_s f n (f s) (by omega)
  rcases Nat.lt_trichotomy (f t) (f s) with z | z | z
  · have := @lv_mono f n (f t + 1) (f s) (by omega)
    omega
  · have := @cn_mono f (f t) (t + 1) s (by omega)
    rw [cn_s] at this
    rw [← z]
    omega
  · have := @lv_mono f n (f s + 1) (f t) (by omega)
    omega
theorem t_tsort {N0 N a n : Nat} {p counts offs syms : Nat → Int32} {f : Nat → Nat} (hN0 : a + n ≤ N0) (hN0' : N0 ≤ 339) (hnN : n ≤ N) (hN : N ≤ 288) (hL : ∀ i, i < n → p (a + i) = nI (f i)) (hf : ∀ i, i < n → f i ≤ 15) (hc : ∀ l, 1 ≤ l → l ≤ 15 → counts l = nI (cn f l n)) : Tt (Table_sort 200000 N0 N counts p offs syms (nI a) (nI n)) (fun u => ∀ s, s < n → 0 < f s → u.2.2 (lv f n (f s) + cn f (f s) s) = nI s) := by
  unfold Table_sort
  refine Tt_W4 (fun mm offs _ x4 x5 => ∃ l, 1 ≤ l ∧ l ≤ 16 ∧ x4 = nI (lv f n l) ∧ x5 = nI l ∧ mm = 16 - l ∧ ∀ j, 1 ≤ j → j < l → offs j = nI (lv f n j)) ?_ 200000 15 _ _ _ _ (by omega) ⟨1, by omega, by omega, rfl, rfl, rfl, fun j h1 h2 => by omega⟩
  rintro K mm offs syms x4 x5 ⟨l, h1, h2, rfl, rfl, rfl, ho⟩ ih
  unfold Table_sort_6
  by_cases z : 15 < l
  · simp (disch := omega) only [Tt_C, Tt_S, i_15, nI_ltI]
    rw [if_pos z]
    unfold Table_sort_40
    refine Tt_W3 (fun mm offs syms x5 => ∃ s, s ≤ n ∧ x5 = nI s ∧ mm = n - s ∧ (∀ j, 1 ≤ j → j ≤ 15 → offs j = nI (lv f n j + cn f j s)) ∧ ∀ t, t < s → 0 < f t → syms (lv f n (f t) + cn f (f t) t) = nI t) ?_ 200000 n _ _ _ (by omega) ⟨0, by omega, rfl, rfl, fun j q1 q2 => ho j q1 (by omega), fun t ht => by omega⟩
    rintro K2 mm offs syms x5 ⟨s, hs, rfl, rfl, ho2, hsy⟩ ih2
    unfold Table_sort_43 Table_sort_118
    by_cases y : n ≤ s
    · simp (disch := omega) only [Tt_C, Tt_S, nI_leI]
      rw [if_pos y]
      intro t ht h0
      exact hsy t (by omega) h0
    · have e1 := hL s (by omega)
      have fs := hf s (by omega)
      have cs1 : ∀ j, cn f j (s + 1) = cn f j s + (if f s = j then 1 else 0) := fun j => rfl
      simp (disch := omega) only [Tt_L, Tt_S, Tt_C, Tt_Z, Tt_R0, Tt_R1, Tt_R2, Tt_R3, Tt_R4, Tt_R5, q10, eq_self, Nat.not_lt_zero, if_true, if_false, i_0, i_1, i_2, i_3, i_4, i_5, i_6, i_7, i_8, i_9, i_10, i_11, i_13, i_14, i_15, i_16, i_17, i_18, i_19, i_24, i_29, i_30, i_31, i_32, i_138, i_143, i_144, i_254, i_255, i_256, i_257, i_258, i_261, i_264, i_265, i_279, i_280, i_284, i_285, i_286, i_288, i_319, i_320, i_338, i_339, i_575, i_576, i_599, i_600, i_4096, i_8191, i_8192, i_8249, i_8250, i_8256, i_9000, i_16384, i_32767, i_32768, i_65520, i_65521, i_65535, i_65536, i_65999, i_66000, i_1300, i_120, i_156, nI_leI, nI_ltI, nI_add, Tt_N, nI_clamp, e1]
      rw [if_neg y, if_neg (by omega)]
      refine ⟨by omega, ?_⟩
      by_cases w : f s ≤ 0
      · rw [if_pos w]
        refine ih2 (n - (s + 1)) _ _ _ (by omega) ⟨s + 1, by omega, rfl, rfl, fun j q1 q2 => ?_, fun t ht h0 => ?_⟩
        · rw [cs1, if_neg (by omega)]; exact ho2 j q1 q2
        · by_cases e : t = s
          · subst e; omega
          · exact hsy t (by omega) h0
      · rw [if_neg w, if_neg (by omega)]
        have o1 := ho2 (f s) (by omega) (by omega)
        have cm := @cn_mono f (f s) (s + 1) n (by omega)
        rw [cn_s] at cm
        have l1 := @lv_s f n (f s) (by omega)
        have l2 := lv_le f n (f s + 1)
        rw [o1]
        simp (disch := omega) only [Tt_L, Tt_S, Tt_C, Tt_Z, Tt_R0, Tt_R1, Tt_R2, Tt_R3, Tt_R4, Tt_R5, q10, eq_self, Nat.not_lt_zero, if_true, if_false, i_0, i_1, i_2, i_3, i_4, i_5, i_6, i_7, i_8, i_9, i_10, i_11, i_13, i_14, i_15, i_16, i_17, i_18, i_19, i_24, i_29, i_30, i_31, i_32, i_138, i_143, i_144, i_254, i_255, i_256, i_257, i_258, i_261, i_264, i_265, i_279, i_280, i_284, i_285, i_286, i_288, i_319, i_320, i_338, i_339, i_575, i_576, i_599, i_600, i_4096, i_8191, i_8192, i_8249, i_8250, i_8256, i_9000, i_16384, i_32767, i_32768, i_65520, i_65521, i_65535, i_65536, i_65999, i_66000, i_1300, i_120, i_156, nI_leI, Tt_N, nI_clamp, nI_add]
        rw [if_neg (by omega)]
        refine ⟨by omega, by omega, by omega, by omega, by omega, ih2 (n - (s + 1)) _ _ _ (by omega) ⟨s + 1, by omega, rfl, rfl, fun j q1 q2 => ?_, fun t ht h0 => ?_⟩⟩
        · rw [cs1]
          by_cases e : j = f s
          · rw [e, pk_us, if_pos rfl]; rfl
          · rw [pk_un e, if_neg (fun q => e q.symm)]; exact ho2 j q1 q2
        · by_cases e : t = s
          · rw [e, pk_us]
          · rw [pk_un (pl_ne (by omega) (by omega) h0 (by omega))]
            exact hsy t (by omega) h0
  · simp (disch := omega) only [Tt_L, Tt_S, Tt_C, Tt_Z, Tt_R0, Tt_R1, Tt_R2, Tt_R3, Tt_R4, Tt_R5, q10, eq_self, Nat.not_lt_zero, if_true, if_false, i_0, i_1, i_2, i_3, i_4, i_5, i_6, i_7, i_8, i_9, i_10, i_11, i_13, i_14, i_15, i_16, i_17, i_18, i_19, i_24, i_29, i_30, i_31, i_32, i_138, i_143, i_144, i_254, i_255, i_256, i_257, i_258, i_261, i_264, i_265, i_279, i_280, i_284, i_285, i_286, i_288, i_319, i_320, i_338, i_339, i_575, i_576, i_599, i_600, i_4096, i_8191, i_8192, i_8249, i_8250, i_8256, i_9000, i_16384, i_32767, i_32768, i_65520, i_65521, i_65535, i_65536, i_65999, i_66000, i_1300, i_120, i_156, nI_ltI, Tt_N, nI_clamp, hc l h1 (by omega), nI_add]
    rw [if_neg z]
    refine ⟨by omega, by omega, ih (16 - (l + 1)) _ _ _ _ (by omega) ⟨l + 1, by omega, by omega, ?_, rfl, rfl, fun j q1 q2 => ?_⟩⟩
    · rw [lv_s h1]
    · by_cases e : j = l
      · rw [e, pk_us]
      · rw [pk_un e]; exact ho j q1 (by omega)
theorem t_makeC {N0 N a n mb : Nat} {p counts offs syms : Nat → Int32} {f : Nat → Nat} {x2 x3 x4 : Int32} (h2 : x2 = nI a) (h3 : x3 = nI n) (h4 : x4 = nI mb) (hmb : mb ≤ 1) (hN0 : a + n ≤ N0) (hN0' : N0 ≤ 339) (hnN : n ≤ N) (hN : N ≤ 288) (hL : ∀ i, i < n → p (a + i) = nI (f i)) (hf : ∀ i, i < n → f i ≤ 15) : Tt (Table_make 200000 N N0 p syms counts offs x2 x3 x4) (fun u => (gd f n mb → u.1 = nI 1 ∧ TabOK u.2.2.1 u.2.1 f n) ∧ (¬ gd f n mb → u.1 = nI 0)) := by
  subst h2 h3 h4
  have ca := cn_all n hf
  have c0 := cn_le f 0 n
  unfold Table_make
  simp (disch := omega) only [Tt_C, Tt_S, Tt_R1, i_0, n_neg, Nat.not_lt_zero, if_false, nI_ltI, pk_sub, nI_leI]
  rw [if_neg (by omega), if_pos (by omega)]
  refine Tt_m (t_fill (by omega)) ?_
  rintro ⟨_, c1⟩ hc1
  refine Tt_W4 (fun mm _ counts _ x5 => ∃ s, s ≤ n ∧ x5 = nI s ∧ mm = n - s ∧ ∀ l, l ≤ 15 → counts l = nI (cn f l s)) ?_ 200000 n _ _ _ _ (by omega) ⟨0, by omega, rfl, rfl, fun l hl => by
    have := hc1 l
    rw [if_pos (by omega)] at this
    exact this⟩
  rintro K mm syms counts offs x5 ⟨s, hs, rfl, rfl, hc⟩ ih
  unfold Table_make_38 Table_make_75
  by_cases y : n ≤ s
  · have es : s = n := by omega
    subst es
    simp (disch := omega) only [Tt_C, Tt_S, nI_leI]
    rw [if_pos y]
    unfold Table_make_81
    simp (disch := omega) only [Tt_L, Tt_S, Tt_C, Tt_Z, Tt_R0, Tt_R1, Tt_R2, Tt_R3, Tt_R4, Tt_R5, q10, eq_self, Nat.not_lt_zero, if_true, if_false, i_0, i_1, i_2, i_3, i_4, i_5, i_6, i_7, i_8, i_9, i_10, i_11, i_13, i_14, i_15, i_16, i_17, i_18, i_19, i_24, i_29, i_30, i_31, i_32, i_138, i_143, i_144, i_254, i_255, i_256, i_257, i_258, i_261, i_264, i_265, i_279, i_280, i_284, i_285, i_286, i_288, i_319, i_320, i_338, i_339, i_575, i_576, i_599, i_600, i_4096, i_8191, i_8192, i_8249, i_8250, i_8256, i_9000, i_16384, i_32767, i_32768, i_65520, i_65521, i_65535, i_65536, i_65999, i_66000, i_1300, i_120, i_156, Tt_N, nI_clamp, hc 0 (by omega), pk_sub]
    refine ⟨by omega, ?_⟩
    refine Tt_W6 (fun mm syms' counts' offs' x5 x6 x7 => syms' = syms ∧ counts' = counts ∧ offs' = offs ∧ x5 = nI (s - cn f 0 s) ∧ ∃ l, l ≤ 15 ∧ x7 = nI (l + 1) ∧ mm = 15 - l ∧ bs f s l + (if l = 0 then 0 else cn f l s) ≤ 2 ^ l ∧ x6 = nI (2 ^ l - (bs f s l + (if l = 0 then 0 else cn f l s)))) ?_ 200000 15 _ _ _ _ _ _ (by omega) ⟨rfl, rfl, rfl, rfl, 0, by omega, rfl, rfl, Nat.zero_le _, rfl⟩
    rintro K2 mm syms' counts' offs' x5 x6 x7 ⟨rfl, rfl, rfl, rfl, l, hl, rfl, rfl, hF, rfl⟩ ih2
    unfold Table_make_97
    by_cases z : l = 15
    · subst z
      simp only [Tt_C, Tt_S]
      rw [if_pos (by decide)]
      rw [if_neg (by omega)] at hF ⊢
      have fk := @full_krs f s 15 (by omega) (by omega)
      rw [show 15 - 15 = 0 from rfl, Nat.pow_zero, Nat.mul_one] at fk
      have p15 : (2 : Nat) ^ 15 = 32768 := by decide
      rw [fk, p15] at hF
      rw [fk, p15]
      unfold Table_make_131
      rw [Tt_R2]
      refine Tt_m (t_tsort hN0 hN0' hnN hN hL hf (fun l q1 q2 => hc l q2)) ?_
      rintro ⟨_, offs2, syms2⟩ hsy
      have ok : TabOK counts' syms2 f s := ⟨fun l q1 q2 => hc l q2, hsy⟩
      unfold Table_make_159
      dsimp only
      simp (disch := omega) only [Tt_L, Tt_S, Tt_C, Tt_Z, Tt_R0, Tt_R1, Tt_R2, Tt_R3, Tt_R4, Tt_R5, q10, eq_self, Nat.not_lt_zero, if_true, if_false, i_0, i_1, i_2, i_3, i_4, i_5, i_6, i_7, i_8, i_9, i_10, i_11, i_13, i_14, i_15, i_16, i_17, i_18, i_19, i_24, i_29, i_30, i_31, i_32, i_138, i_143, i_144, i_254, i_255, i_256, i_257, i_258, i_261, i_264, i_265, i_279, i_280, i_284, i_285, i_286, i_288, i_319, i_320, i_338, i_339, i_575, i_576, i_599, i_600, i_4096, i_8191, i_8192, i_8249, i_8250, i_8256, i_9000, i_16384, i_32767, i_32768, i_65520, i_65521, i_65535, i_65536, i_65999, i_66000, i_1300, i_120, i_156, nI_eq, Tt_N, nI_clamp, hc 1 (by omega)]
      have cn1 := cn_le f 1 s
      by_cases w1 : 32768 - krs f s 15 = 0
      · rw [if_pos w1]
        have g : gd f s mb := Or.inl (by omega)
        exact ⟨fun _ => ⟨trivial, ok⟩, fun q => absurd g q⟩
      · rw [if_neg w1]
        by_cases w2 : s - cn f 0 s = 1
        · rw [if_pos w2]
          refine ⟨by omega, ?_⟩
          simp (disch := omega) only [Tt_L, Tt_S, Tt_C, Tt_Z, Tt_R0, Tt_R1, Tt_R2, Tt_R3, Tt_R4, Tt_R5, q10, eq_self, Nat.not_lt_zero, if_true, if_false, i_0, i_1, i_2, i_3, i_4, i_5, i_6, i_7, i_8, i_9, i_10, i_11, i_13, i_14, i_15, i_16, i_17, i_18, i_19, i_24, i_29, i_30, i_31, i_32, i_138, i_143, i_144, i_254, i_255, i_256, i_257, i_258, i_261, i_264, i_265, i_279, i_280, i_284, i_285, i_286, i_288, i_319, i_320, i_338, i_339, i_575, i_576, i_599, i_600, i_4096, i_8191, i_8192, i_8249, i_8250, i_8256, i_9000, i_16384, i_32767, i_32768, i_65520, i_65521, i_65535, i_65536, i_65999, i_66000, i_1300, i_120, i_156, nI_eq]
          by_cases w3 : cn f 1 s = 1
          · rw [if_pos w3]
            have g : gd f s mb := Or.inr (Or.inl ⟨w2, w3⟩)
            exact ⟨fun _ => ⟨trivial, ok⟩, fun q => absurd g q⟩
          · rw [if_neg w3, if_neg (by omega)]
            refine ⟨fun g => ?_, fun _ => trivial⟩
            exfalso
            unfold gd at g
            omega
        · rw [if_neg w2]
          by_cases w4 : s - cn f 0 s = 0
          · rw [if_pos w4]
            by_cases w5 : mb = 0
            · rw [if_pos w5]
              refine ⟨fun g => ?_, fun _ => trivial⟩
              exfalso
              unfold gd at g
              omega
            · rw [if_neg w5]
              have g : gd f s mb := Or.inr (Or.inr ⟨w4, by omega⟩)
              exact ⟨fun _ => ⟨trivial, ok⟩, fun q => absurd g q⟩
          · rw [if_neg w4]
            refine ⟨fun g => ?_, fun _ => trivial⟩
            exfalso
            unfold gd at g
            omega
    · have p2 : 2 ^ (l + 1) = 2 * 2 ^ l := by rw [Nat.pow_succ]; omega
      have pl : 2 ^ l ≤ 2 ^ 14 := Nat.pow_le_pow_right (by omega) (by omega)
      have eb : bs f s (l + 1) = 2 * (bs f s l + (if l = 0 then 0 else cn f l s)) := rfl
      have cl := cn_le f (l + 1) s
      generalize hF0 : bs f s l + (if l = 0 then 0 else cn f l s) = F0 at *
      simp (disch := omega) only [Tt_L, Tt_S, Tt_C, Tt_Z, Tt_R0, Tt_R1, Tt_R2, Tt_R3, Tt_R4, Tt_R5, q10, eq_self, Nat.not_lt_zero, if_true, if_false, i_0, i_1, i_2, i_3, i_4, i_5, i_6, i_7, i_8, i_9, i_10, i_11, i_13, i_14, i_15, i_16, i_17, i_18, i_19, i_24, i_29, i_30, i_31, i_32, i_138, i_143, i_144, i_254, i_255, i_256, i_257, i_258, i_261, i_264, i_265, i_279, i_280, i_284, i_285, i_286, i_288, i_319, i_320, i_338, i_339, i_575, i_576, i_599, i_600, i_4096, i_8191, i_8192, i_8249, i_8250, i_8256, i_9000, i_16384, i_32767, i_32768, i_65520, i_65521, i_65535, i_65536, i_65999, i_66000, i_1300, i_120, i_156, nI_ltI, Tt_N, nI_clamp, hc (l + 1) (by omega), pk_mul, nI_add]
      rw [if_neg (by omega)]
      refine ⟨by omega, ?_⟩
      by_cases w : cn f (l + 1) s ≤ 2 * (2 ^ l - F0)
      · rw [pk_sub w]
        simp (disch := omega) only [Tt_L, Tt_S, Tt_C, Tt_Z, Tt_R0, Tt_R1, Tt_R2, Tt_R3, Tt_R4, Tt_R5, q10, eq_self, Nat.not_lt_zero, if_true, if_false, i_0, i_1, i_2, i_3, i_4, i_5, i_6, i_7, i_8, i_9, i_10, i_11, i_13, i_14, i_15, i_16, i_17, i_18, i_19, i_24, i_29, i_30, i_31, i_32, i_138, i_143, i_144, i_254, i_255, i_256, i_257, i_258, i_261, i_264, i_265, i_279, i_280, i_284, i_285, i_286, i_288, i_319, i_320, i_338, i_339, i_575, i_576, i_599, i_600, i_4096, i_8191, i_8192, i_8249, i_8250, i_8256, i_9000, i_16384, i_32767, i_32768, i_65520, i_65521, i_65535, i_65536, i_65999, i_66000, i_1300, i_120, i_156, nI_leI]
        rw [if_pos (by omega)]
        refine ih2 (15 - (l + 1)) _ _ _ _ _ _ (by omega) ⟨rfl, rfl, rfl, rfl, l + 1, by omega, rfl, rfl, ?_, ?_⟩
        · rw [if_neg (by omega)]; omega
        · rw [if_neg (by omega)]; exact congrArg nI (by omega)
      · have neg : nI (2 * (2 ^ l - F0)) - nI (cn f (l + 1) s) < 0 := pk_sneg (by omega) (by omega)
        have ng : ¬ (nI 0 ≤ nI (2 * (2 ^ l - F0)) - nI (cn f (l + 1) s)) := by
          intro q
          have q1 := Int32.lt_iff_toInt_lt.mp neg
          have q2 := Int32.le_iff_toInt_le.mp q
          have q3 : (nI 0).toInt = (0 : Int32).toInt := rfl
          omega
        rw [if_neg ng]
        have fk := @full_krs f s (l + 1) (by omega) (by omega)
        have km := @krs_mono f s (l + 1) 15 (by omega)
        have big : 32768 < krs f s 15 := by
          have q1 : 2 ^ (l + 1) * 2 ^ (15 - (l + 1)) = 32768 := by rw [← Nat.pow_add, show l + 1 + (15 - (l + 1)) = 15 by omega]
          have q2 : (2 ^ (l + 1) + 1) * 2 ^ (15 - (l + 1)) ≤ (bs f s (l + 1) + cn f (l + 1) s) * 2 ^ (15 - (l + 1)) := Nat.mul_le_mul_right _ (by omega)
          have q3 := Nat.two_pow_pos (15 - (l + 1))
          rw [Nat.add_mul, Nat.one_mul] at q2
          omega
        refine ⟨fun g => ?_, fun _ => trivial⟩
        have := gd_k hf g
        omega
  · have e1 := hL s (by omega)
    have fs := hf s (by omega)
    simp (disch := omega) only [Tt_L, Tt_S, Tt_C, Tt_Z, Tt_R0, Tt_R1, Tt_R2, Tt_R3, Tt_R4, Tt_R5, q10, eq_self, Nat.not_lt_zero, if_true, if_false, i_0, i_1, i_2, i_3, i_4, i_5, i_6, i_7, i_8, i_9, i_10, i_11, i_13, i_14, i_15, i_16, i_17, i_18, i_19, i_24, i_29, i_30, i_31, i_32, i_138, i_143, i_144, i_254, i_255, i_256, i_257, i_258, i_261, i_264, i_265, i_279, i_280, i_284, i_285, i_286, i_288, i_319, i_320, i_338, i_339, i_575, i_576, i_599, i_600, i_4096, i_8191, i_8192, i_8249, i_8250, i_8256, i_9000, i_16384, i_32767, i_32768, i_65520, i_65521, i_65535, i_65536, i_65999, i_66000, i_1300, i_120, i_156, nI_leI, nI_ltI, nI_add, Tt_N, nI_clamp, e1, n_neg]
    rw [if_neg y, if_neg (by omega)]
    refine ⟨by omega, by omega, by omega, ih (n - (s + 1)) _ _ _ _ (by omega) ⟨s + 1, by omega, rfl, rfl, fun l hl => ?_⟩⟩
    show _ = nI (cn f l s + (if f s = l then 1 else 0))
    by_cases e : l = f s
    · rw [e, pk_us, if_pos rfl, hc (f s) (by omega)]; exact nI_1 _
    · rw [pk_un e, if_neg (fun q => e q.symm)]; exact hc l hl
theorem krs_sm (f : Nat → Nat) (n : Nat) : ∀ l, l ≤ 15 → krs f n l = sm (fun j => (if 0 < j then 2 ^ (15 - j) else 0) * cn f j n) (l + 1) := by
  intro l
  induction l with
  | zero => intro _; show 0 = 0 + (if 0 < 0 then _ else 0) * cn f 0 n; rw [if_neg (by omega)]; omega
  | succ l ih =>
    intro hl
    show krs f n l + cn f (l + 1) n * 2 ^ (14 - l) = sm (fun j => (if 0 < j then 2 ^ (15 - j) else 0) * cn f j n) (l + 1) + (if 0 < l + 1 then 2 ^ (15 - (l + 1)) else 0) * cn f (l + 1) n
    rw [ih (by omega), if_pos (by omega), show 15 - (l + 1) = 14 - l by omega, Nat.mul_comm (2 ^ (14 - l))]
theorem krs_t {f : Nat → Nat} {n : Nat} (hf : ∀ i, i < n → f i ≤ 15) : sm (fun t => if 0 < f t then 2 ^ (15 - f t) else 0) n = krs f n 15 := by
  rw [krs_sm f n 15 (by omega), sm_cn]
  apply sm_c
  intro i hi
  have := hf i hi
  rw [if_pos (show f i < 15 + 1 by omega)]
theorem used_t (f : Nat → Nat) : ∀ n, cn f 0 n + sm (fun t => if 0 < f t then 1 else 0) n = n := by
  intro n
  induction n with
  | zero => rfl
  | succ n ih =>
    show cn f 0 n + (if f n = 0 then 1 else 0) + (sm (fun t => if 0 < f t then 1 else 0) n + (if 0 < f n then 1 else 0)) = n + 1
    by_cases e : f n = 0
    · rw [if_pos e, if_neg (by omega)]; omega
    · rw [if_neg e, if_pos (by omega)]; omega
theorem t_makeM {N0 a n mb : Nat} {of next : Nat → Int32} {f : Nat → Nat} {x0 x2 x3 x4 : Int32} (h2 : x2 = nI a) (h3 : x3 = nI n) (h4 : x4 = nI mb) (hmb : mb ≤ 1) (hN0 : a + n ≤ N0) (hN0' : N0 ≤ 339) (hn : n ≤ 288) (hL : ∀ i, i < n → of (a + i) = nI (f i)) (hf : ∀ i, i < n → f i ≤ 15) : Tt (Tree_make 200000 N0 of x0 next x2 x3 x4) (fun u => (gd f n mb → u.1 = nI 1 ∧ TreeOK u.2.2 f n) ∧ (¬ gd f n mb → u.1 = nI 0)) := by
  subst h2 h3 h4
  unfold Tree_make
  simp (disch := omega) only [Tt_L, Tt_S, Tt_C, Tt_Z, Tt_R0, Tt_R1, Tt_R2, Tt_R3, Tt_R4, Tt_R5, q10, eq_self, Nat.not_lt_zero, if_true, if_false, i_0, i_1, i_2, i_3, i_4, i_5, i_6, i_7, i_8, i_9, i_10, i_11, i_13, i_14, i_15, i_16, i_17, i_18, i_19, i_24, i_29, i_30, i_31, i_32, i_138, i_143, i_144, i_254, i_255, i_256, i_257, i_258, i_261, i_264, i_265, i_279, i_280, i_284, i_285, i_286, i_288, i_319, i_320, i_338, i_339, i_575, i_576, i_599, i_600, i_4096, i_8191, i_8192, i_8249, i_8250, i_8256, i_9000, i_16384, i_32767, i_32768, i_65520, i_65521, i_65535, i_65536, i_65999, i_66000, i_1300, i_120, i_156, Tt_N, nI_clamp]
  refine ⟨by omega, by omega, ?_⟩
  generalize hnx : upd (upd next 0 (nI 0)) 1 (nI 0) = nx
  have hz : nx 0 = nI 0 ∧ nx 1 = nI 0 := by
    rw [← hnx]
    exact ⟨by rw [pk_un (by omega), pk_us], by rw [pk_us]⟩
  have kb : ∀ s, s ≤ n → sm (fun t => if 0 < f t then 2 ^ (15 - f t) else 0) s ≤ s * 16384 := by
    intro s
    induction s with
    | zero => intro _; exact Nat.le_refl 0
    | succ s ih =>
      intro hs
      have i1 := ih (by omega)
      show sm (fun t => if 0 < f t then 2 ^ (15 - f t) else 0) s + (if 0 < f s then 2 ^ (15 - f s) else 0) ≤ _
      by_cases e : 0 < f s
      · rw [if_pos e]
        have : 2 ^ (15 - f s) ≤ 2 ^ 14 := Nat.pow_le_pow_right (by omega) (by omega)
        rw [Nat.add_mul]
        omega
      · rw [if_neg e, Nat.add_mul]
        exact Nat.le_trans i1 (Nat.le_add_right _ _)
  refine Tt_W5 (fun mm x0 next' x5 x6 x7 => x0 = nI 1 ∧ next' = nx ∧ ∃ s, s ≤ n ∧ x7 = nI s ∧ mm = n - s ∧ x5 = nI (sm (fun t => if 0 < f t then 2 ^ (15 - f t) else 0) s) ∧ x6 = nI (sm (fun t => if 0 < f t then 1 else 0) s)) ?_ 200000 n _ _ _ _ _ (by omega) ⟨rfl, rfl, 0, by omega, rfl, rfl, rfl, rfl⟩
  rintro K mm x0 next' x5 x6 x7 ⟨rfl, rfl, s, hs, rfl, rfl, rfl, rfl⟩ ih
  unfold Tree_make_28
  by_cases y : n ≤ s
  · have es : s = n := by omega
    subst es
    simp (disch := omega) only [Tt_C, Tt_S, nI_leI]
    rw [if_pos y]
    have kb' := kb s (Nat.le_refl s)
    have ut := used_t f s
    have kt := @krs_t f s hf
    generalize sm (fun t => if 0 < f t then 1 else 0) s = us at *
    rw [kt] at kb' ⊢
    have grow : gd f s mb → Tt (Tree_make_119 200000 N0 of (nI a) (nI s) (nI 1) next') (fun u => (gd f s mb → u.1 = nI 1 ∧ TreeOK u.2.2 f s) ∧ (¬ gd f s mb → u.1 = nI 0)) := by
      intro g
      refine Tt_m (t_treeGrow hN0 hN0' hn hL hf (gd_k hf g) rfl hz) ?_
      rintro ⟨r, nd, nx2⟩ ⟨g1, g2⟩
      exact ⟨fun _ => ⟨g1, g2⟩, fun q => absurd g q⟩
    unfold Tree_make_86 Tree_make_107
    simp (disch := omega) only [Tt_C, Tt_S, i_0, i_1, i_2, i_3, i_4, i_5, i_6, i_7, i_8, i_9, i_10, i_11, i_13, i_14, i_15, i_16, i_17, i_18, i_19, i_24, i_29, i_30, i_31, i_32, i_138, i_143, i_144, i_254, i_255, i_256, i_257, i_258, i_261, i_264, i_265, i_279, i_280, i_284, i_285, i_286, i_288, i_319, i_320, i_338, i_339, i_575, i_576, i_599, i_600, i_4096, i_8191, i_8192, i_8249, i_8250, i_8256, i_9000, i_16384, i_32767, i_32768, i_65520, i_65521, i_65535, i_65536, i_65999, i_66000, i_1300, i_120, i_156, nI_eq]
    have gm := @gd_m f s hf
    by_cases w1 : krs f s 15 = 32768
    · rw [if_pos w1]
      exact grow (Or.inl w1)
    · rw [if_neg w1]
      by_cases w2 : us = 1
      · rw [if_pos w2]
        have w2' : s - cn f 0 s = 1 := by omega
        by_cases w3 : krs f s 15 = 16384
        · rw [if_pos w3]
          exact grow (Or.inr (Or.inl ⟨w2', (gm w2').mpr w3⟩))
        · rw [if_neg w3, if_neg (by omega)]
          refine ⟨fun g => ?_, fun _ => trivial⟩
          exfalso
          rcases g with g | g | g
          · exact w1 g
          · exact w3 ((gm w2').mp g.2)
          · omega
      · rw [if_neg w2]
        by_cases w4 : us = 0
        · rw [if_pos w4]
          by_cases w5 : mb = 0
          · rw [if_pos w5]
            refine ⟨fun g => ?_, fun _ => trivial⟩
            exfalso
            unfold gd at g
            omega
          · rw [if_neg w5]
            exact grow (Or.inr (Or.inr ⟨by omega, by omega⟩))
        · rw [if_neg w4]
          refine ⟨fun g => ?_, fun _ => trivial⟩
          exfalso
          unfold gd at g
          omega
  · have e1 := hL s (by omega)
    have fs := hf s (by omega)
    have p15 : 2 ^ (15 - f s) ≤ 2 ^ 15 := Nat.pow_le_pow_right (by omega) (by omega)
    unfold Tree_make_62 Tree_make_78
    simp (disch := omega) only [Tt_L, Tt_S, Tt_C, Tt_Z, Tt_R0, Tt_R1, Tt_R2, Tt_R3, Tt_R4, Tt_R5, q10, eq_self, Nat.not_lt_zero, if_true, if_false, i_0, i_1, i_2, i_3, i_4, i_5, i_6, i_7, i_8, i_9, i_10, i_11, i_13, i_14, i_15, i_16, i_17, i_18, i_19, i_24, i_29, i_30, i_31, i_32, i_138, i_143, i_144, i_254, i_255, i_256, i_257, i_258, i_261, i_264, i_265, i_279, i_280, i_284, i_285, i_286, i_288, i_319, i_320, i_338, i_339, i_575, i_576, i_599, i_600, i_4096, i_8191, i_8192, i_8249, i_8250, i_8256, i_9000, i_16384, i_32767, i_32768, i_65520, i_65521, i_65535, i_65536, i_65999, i_66000, i_1300, i_120, i_156, nI_leI, nI_add, Tt_N, nI_clamp, e1, pk_sub, n_shl, Nat.one_mul]
    rw [if_neg y]
    refine ⟨by omega, ?_⟩
    by_cases w : f s ≤ 0
    · rw [if_pos w, if_pos w]
      refine ih (n - (s + 1)) _ _ _ _ _ (by omega) ⟨rfl, rfl, s + 1, by omega, rfl, rfl, ?_, ?_⟩
      · show _ = nI (sm (fun t => if 0 < f t then 2 ^ (15 - f t) else 0) s + (if 0 < f s then 2 ^ (15 - f s) else 0))
        rw [if_neg (by omega)]; rfl
      · show _ = nI (sm (fun t => if 0 < f t then 1 else 0) s + (if 0 < f s then 1 else 0))
        rw [if_neg (by omega)]; rfl
    · rw [if_neg w, if_neg w]
      refine ih (n - (s + 1)) _ _ _ _ _ (by omega) ⟨rfl, rfl, s + 1, by omega, rfl, rfl, ?_, ?_⟩
      · show _ = nI (sm (fun t => if 0 < f t then 2 ^ (15 - f t) else 0) s + (if 0 < f s then 2 ^ (15 - f s) else 0))
        rw [if_pos (by omega)]
      · show _ = nI (sm (fun t => if 0 < f t then 1 else 0) s + (if 0 < f s then 1 else 0))
        rw [if_pos (by omega)]
