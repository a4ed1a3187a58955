/-! codes read: numbers alone -/
def krs (f : Nat → Nat) (n : Nat) : Nat → Nat
  | 0 => 0
  | l + 1 => krs f n l + cn f (l + 1) n * 2 ^ (14 - l)
theorem krs_mono (f : Nat → Nat) (n : Nat) : ∀ {a b : Nat}, a ≤ b → krs f n a ≤ krs f n b := by
  intro a b h
  induction b with
  | zero => have : a = 0 := by omega
            subst this; exact Nat.le_refl _
  | succ b ih =>
    by_cases e : a = b + 1
    · subst e; exact Nat.le_refl _
    · have := ih (by omega)
      show krs f n a ≤ krs f n b + _
      omega
theorem bs_krs (f : Nat → Nat) (n : Nat) : ∀ l, l ≤ 14 → bs f n (l + 1) * 2 ^ (14 - l) = krs f n l := by
  intro l
  induction l with
  | zero => intro _; show 2 * (0 + 0) * 2 ^ 14 = 0; omega
  | succ l ih =>
    intro hl
    have i1 := ih (by omega)
    have e1 : bs f n (l + 1 + 1) = 2 * (bs f n (l + 1) + cn f (l + 1) n) := by
      show 2 * (bs f n (l + 1) + (if l + 1 = 0 then 0 else cn f (l + 1) n)) = _
      rw [if_neg (by omega)]
    have e2 : 2 ^ (14 - l) = 2 * 2 ^ (14 - (l + 1)) := by rw [show 14 - l = (14 - (l + 1)) + 1 by omega, Nat.pow_succ]; omega
    rw [e1]
    show _ = krs f n l + cn f (l + 1) n * 2 ^ (14 - l)
    rw [← i1, ← Nat.add_mul, e2, ← Nat.mul_assoc, Nat.mul_comm 2]
theorem full_krs {f : Nat → Nat} {n l : Nat} (h1 : 1 ≤ l) (h2 : l ≤ 15) : (bs f n l + cn f l n) * 2 ^ (15 - l) = krs f n l := by
  obtain ⟨k, rfl⟩ : ∃ k, l = k + 1 := ⟨l - 1, by omega⟩
  rw [Nat.add_mul, show 15 - (k + 1) = 14 - k by omega, bs_krs f n k (by omega)]
  rfl
theorem full_le {f : Nat → Nat} {n l : Nat} (hK : krs f n 15 ≤ 32768) (h1 : 1 ≤ l) (h2 : l ≤ 15) : bs f n l + cn f l n ≤ 2 ^ l := by
  have e := @full_krs f n l h1 h2
  have m := @krs_mono f n l 15 h2
  have p : 2 ^ l * 2 ^ (15 - l) = 32768 := by rw [← Nat.pow_add, show l + (15 - l) = 15 by omega]; rfl
  apply Nat.le_of_mul_le_mul_right (a := 2 ^ (15 - l)) _ (Nat.two_pow_pos _)
  rw [e, p]
  omega
theorem cn_s {f : Nat → Nat} {s : Nat} : cn f (f s) (s + 1) = cn f (f s) s + 1 := by
  show cn f (f s) s + (if f s = f s then 1 else 0) = _
  rw [if_pos rfl]
theorem cde_lt {f : Nat → Nat} {n s : Nat} (hK : krs f n 15 ≤ 32768) (hs : s < n) (h1 : 0 < f s) (h2 : f s ≤ 15) : cde f n s < 2 ^ f s := by
  have a := @full_le f n (f s) hK h1 h2
  have b := @cn_mono f (f s) (s + 1) n (by omega)
  rw [cn_s] at b
  unfold cde
  omega
theorem bs_up {f : Nat → Nat} {n l' : Nat} (h1 : 1 ≤ l') : ∀ {l : Nat}, l' < l → (bs f n l' + cn f l' n) * 2 ^ (l - l') ≤ bs f n l := by
  intro l
  induction l with
  | zero => intro h; omega
  | succ l ih =>
    intro h
    have e1 : bs f n (l + 1) = 2 * (bs f n l + (if l = 0 then 0 else cn f l n)) := rfl
    rw [e1, if_neg (by omega)]
    by_cases e : l = l'
    · subst e
      rw [show l + 1 - l = 1 by omega]
      omega
    · have := ih (by omega)
      rw [show l + 1 - l' = (l - l') + 1 by omega, Nat.pow_succ, ← Nat.mul_assoc]
      omega
/-- what has been given a code before symbol s of length l -/
def ins (f : Nat → Nat) (n l s x : Nat) : Prop := x < n ∧ 0 < f x ∧ (f x < l ∨ f x = l ∧ x < s)
theorem pre_le {f : Nat → Nat} {n l s x : Nat} (h : ins f n l s x) : (cde f n x + 1) * 2 ^ (l - f x) ≤ bs f n l + cn f l s := by
  obtain ⟨h1, h2, h3⟩ := h
  unfold cde
  rcases h3 with h3 | ⟨h3, h4⟩
  · have a := @bs_up f n (f x) h2 l h3
    have b := @cn_mono f (f x) (x + 1) n (by omega)
    rw [cn_s] at b
    have c : (bs f n (f x) + cn f (f x) x + 1) * 2 ^ (l - f x) ≤ (bs f n (f x) + cn f (f x) n) * 2 ^ (l - f x) := Nat.mul_le_mul_right _ (by omega)
    omega
  · have b := @cn_mono f (f x) (x + 1) s (by omega)
    rw [cn_s] at b
    rw [h3, Nat.sub_self, Nat.pow_zero, Nat.mul_one]
    rw [h3] at b
    omega
theorem pre_div {f : Nat → Nat} {n l s x : Nat} (h : ins f n l s x) : cde f n x + 1 ≤ (bs f n l + cn f l s) / 2 ^ (l - f x) := (Nat.le_div_iff_mul_le (Nat.two_pow_pos _)).mpr (pre_le h)
theorem cover {f : Nat → Nat} {n : Nat} : ∀ l s z, 1 ≤ l → s ≤ n → z < bs f n l + cn f l s → ∃ x, ins f n l s x ∧ z / 2 ^ (l - f x) = cde f n x := by
  intro l
  induction l with
  | zero => intro s z h; omega
  | succ l ih =>
    intro s
    induction s with
    | zero =>
      intro z _ _ hz
      have e1 : bs f n (l + 1) = 2 * (bs f n l + (if l = 0 then 0 else cn f l n)) := rfl
      have e0 : cn f (l + 1) 0 = 0 := rfl
      by_cases e : l = 0
      · subst e
        rw [if_pos rfl] at e1
        have : bs f n 0 = 0 := rfl
        omega
      · rw [if_neg e] at e1
        obtain ⟨x, hx, hd⟩ := ih n (z / 2) (by omega) (Nat.le_refl n) (by omega)
        obtain ⟨x1, x2, x3⟩ := hx
        refine ⟨x, ⟨x1, x2, Or.inl (by omega)⟩, ?_⟩
        rw [← hd, Nat.div_div_eq_div_mul, Nat.mul_comm 2, ← Nat.pow_succ, show l - f x + 1 = l + 1 - f x by omega]
    | succ s ih2 =>
      intro z h1 h2 hz
      by_cases zz : z < bs f n (l + 1) + cn f (l + 1) s
      · obtain ⟨x, ⟨x1, x2, x3⟩, hd⟩ := ih2 z h1 (by omega) zz
        exact ⟨x, ⟨x1, x2, by omega⟩, hd⟩
      · have e1 : cn f (l + 1) (s + 1) = cn f (l + 1) s + (if f s = l + 1 then 1 else 0) := rfl
        by_cases e : f s = l + 1
        · rw [if_pos e] at e1
          refine ⟨s, ⟨by omega, by omega, Or.inr ⟨e, by omega⟩⟩, ?_⟩
          unfold cde
          rw [e, Nat.sub_self, Nat.pow_zero, Nat.div_one]
          omega
        · rw [if_neg e] at e1
          omega
/-- how many of 2, 4 .. 2^j divide c -/
def cz (c : Nat) : Nat → Nat
  | 0 => 0
  | j + 1 => cz c j + (if c % 2 ^ (j + 1) = 0 then 1 else 0)
theorem cz_h (c : Nat) : ∀ j, cz c (j + 1) = if c % 2 = 0 then 1 + cz (c / 2) j else 0 := by
  intro j
  induction j with
  | zero =>
    show 0 + (if c % 2 ^ 1 = 0 then 1 else 0) = _
    rw [Nat.pow_one]
    split
    · rfl
    · rfl
  | succ j ih =>
    show cz c (j + 1) + (if c % 2 ^ (j + 1 + 1) = 0 then 1 else 0) = _
    rw [ih]
    have e : c % 2 ^ (j + 1 + 1) = 0 ↔ c % 2 = 0 ∧ c / 2 % 2 ^ (j + 1) = 0 := by
      rw [Nat.pow_succ 2 (j + 1), Nat.mul_comm, Nat.mod_mul]
      have := Nat.two_pow_pos (j + 1)
      constructor
      · intro h
        exact ⟨by omega, by omega⟩
      · intro h
        rw [h.1, h.2]
    by_cases z : c % 2 = 0
    · rw [if_pos z, if_pos z]
      show 1 + cz (c / 2) j + _ = 1 + (cz (c / 2) j + (if c / 2 % 2 ^ (j + 1) = 0 then 1 else 0))
      by_cases y : c / 2 % 2 ^ (j + 1) = 0
      · rw [if_pos (e.mpr ⟨z, y⟩), if_pos y]; omega
      · rw [if_neg (fun q => y (e.mp q).2), if_neg y]; omega
    · rw [if_neg z, if_neg z, if_neg (fun q => z (e.mp q).1)]
/-- how many of the lowest l bits of c are 0 -/
def zr : Nat → Nat → Nat
  | 0, _ => 0
  | l + 1, c => zr l (c / 2) + (1 - c % 2)
theorem zr_le : ∀ l c, zr l c ≤ l := by
  intro l
  induction l with
  | zero => intro c; exact Nat.le_refl 0
  | succ l ih =>
    intro c
    have := ih (c / 2)
    show zr l (c / 2) + (1 - c % 2) ≤ l + 1
    omega
theorem zr_0 : ∀ l, zr l 0 = l := by
  intro l
  induction l with
  | zero => rfl
  | succ l ih => show zr l (0 / 2) + (1 - 0 % 2) = l + 1; rw [Nat.zero_div, ih]
theorem zr_d (l c : Nat) : zr (l + 1) (2 * c + 1) = zr l c := by
  show zr l ((2 * c + 1) / 2) + (1 - (2 * c + 1) % 2) = zr l c
  rw [show (2 * c + 1) / 2 = c by omega]
  omega
theorem cz_zr : ∀ l c, 1 ≤ l → 0 < c → cz c (l - 1) + zr l (c - 1) ≤ zr l c + 1 := by
  intro l
  induction l with
  | zero => intro c h; omega
  | succ l ih =>
    intro c _ hc
    rw [Nat.add_sub_cancel]
    show cz c l + (zr l ((c - 1) / 2) + (1 - (c - 1) % 2)) ≤ zr l (c / 2) + (1 - c % 2) + 1
    cases l with
    | zero =>
      show 0 + (0 + _) ≤ 0 + _ + 1
      omega
    | succ l =>
      rw [cz_h]
      by_cases z : c % 2 = 0
      · rw [if_pos z]
        have i := ih (c / 2) (by omega) (by omega)
        rw [Nat.add_sub_cancel] at i
        rw [show (c - 1) / 2 = c / 2 - 1 by omega]
        omega
      · rw [if_neg z, show (c - 1) / 2 = c / 2 by omega]
        omega
/-- how many nodes there may be before code c of length l, with x symbols given codes -/
def ndB (l c x : Nat) : Nat := if c = 0 then 1 else x + zr l (c - 1) - 1
