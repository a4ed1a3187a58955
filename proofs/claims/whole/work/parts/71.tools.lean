/-! pure work: what a mirror function answers (Tt: it is some answer, and the answer is so); numbers -/
def Tt {α : Type} (o : Option α) (Q : α → Prop) : Prop := ∃ a, o = some a ∧ Q a
theorem Tt_S {α : Type} {a : α} {Q : α → Prop} : Tt (some a) Q = Q a := propext ⟨(fun ⟨b, h, q⟩ => by cases h; exact q), (fun q => ⟨a, rfl, q⟩)⟩
theorem Tt_Si {α : Type} {a : α} {Q : α → Prop} (h : Q a) : Tt (some a) Q := ⟨a, rfl, h⟩
theorem Tt_0 {α : Type} {Q : α → Prop} : ¬ Tt none Q := fun ⟨_, h, _⟩ => by cases h
theorem Tt_m {α : Type} {o : Option α} {P Q : α → Prop} (h : Tt o P) (k : ∀ a, P a → Q a) : Tt o Q := by
  obtain ⟨a, h1, h2⟩ := h
  exact ⟨a, h1, k a h2⟩
theorem Tt_e {α : Type} {o : Option α} {Q : α → Prop} (h : Tt o Q) : ∃ a, o = some a ∧ Q a := h
theorem Tt_o {α : Type} {o : Option α} {a : α} {Q : α → Prop} (h : o = some a) (q : Q a) : Tt o Q := ⟨a, h, q⟩
theorem Tt_L {α β : Type} {x : α} {k : α → Option β} {Q : β → Prop} : Tt (mL x k) Q = Tt (k x) Q := propext Iff.rfl
theorem Tt_G {β : Type} {i : Int32} {N : Nat} {k : Option β} {Q : β → Prop} : Tt (mG i N k) Q ↔ (¬ (i < 0 ∨ N ≤ i.toNatClampNeg)) ∧ Tt k Q := by
  unfold mG
  by_cases c : i < 0 ∨ N ≤ i.toNatClampNeg
  · rw [if_pos c]
    exact ⟨fun h => absurd h Tt_0, fun h => absurd c h.1⟩
  · rw [if_neg c]
    exact ⟨fun h => ⟨c, h⟩, fun h => h.2⟩
theorem Tt_N {β : Type} {n N : Nat} {k : Option β} {Q : β → Prop} (h : n < 2 ^ 31) : Tt (mG (nI n) N k) Q ↔ n < N ∧ Tt k Q := by
  rw [Tt_G, nI_clamp h]
  constructor
  · intro q
    exact ⟨by
      have := q.1
      omega, q.2⟩
  · intro q
    refine ⟨fun z => ?_, q.2⟩
    cases z with
    | inl z => exact nI_pos h z
    | inr z => have := q.1; omega
theorem Tt_C {β : Type} {c : Prop} [Decidable c] {a b : Option β} {Q : β → Prop} : Tt (mC c a b) Q ↔ if c then Tt a Q else Tt b Q := by
  unfold mC
  by_cases h : c
  · rw [if_pos h, if_pos h]
  · rw [if_neg h, if_neg h]
theorem Tt_Z {β : Type} {x : Int32} {k : Option β} {Q : β → Prop} : Tt (mZ x k) Q ↔ (x = 0 ∨ x = 1) ∧ Tt k Q := by
  unfold mZ
  by_cases c : x = 0 ∨ x = 1
  · rw [if_pos c]
    exact ⟨fun h => ⟨c, h⟩, fun h => h.2⟩
  · rw [if_neg c]
    exact ⟨fun h => absurd h Tt_0, fun h => absurd h.1 c⟩
theorem Tt_A {β : Type} {c : Prop} [Decidable c] {k : Option β} {Q : β → Prop} : Tt (mA c k) Q ↔ c ∧ Tt k Q := by
  unfold mA
  by_cases h : c
  · rw [if_pos h]
    exact ⟨fun q => ⟨h, q⟩, fun q => q.2⟩
  · rw [if_neg h]
    exact ⟨fun q => absurd q Tt_0, fun q => absurd q.1 h⟩
theorem Tt_R0 {ρ δ  : Type} {x : Option (ρ × Unit)} {k : ρ → Option δ} {Q : δ → Prop} : Tt (mR0 x k) Q ↔ Tt x (fun u => Tt (k u.1) Q) := by
  cases x with
  | none => exact ⟨fun h => absurd h Tt_0, fun h => absurd h Tt_0⟩
  | some u => rw [Tt_S]; exact Iff.rfl
theorem Tt_R1 {ρ δ A1 : Type} {x : Option (ρ × A1)} {k : ρ → A1 → Option δ} {Q : δ → Prop} : Tt (mR1 x k) Q ↔ Tt x (fun u => Tt (k u.1 u.2) Q) := by
  cases x with
  | none => exact ⟨fun h => absurd h Tt_0, fun h => absurd h Tt_0⟩
  | some u => rw [Tt_S]; exact Iff.rfl
theorem Tt_R2 {ρ δ A1 A2 : Type} {x : Option (ρ × A1 × A2)} {k : ρ → A1 → A2 → Option δ} {Q : δ → Prop} : Tt (mR2 x k) Q ↔ Tt x (fun u => Tt (k u.1 u.2.1 u.2.2) Q) := by
  cases x with
  | none => exact ⟨fun h => absurd h Tt_0, fun h => absurd h Tt_0⟩
  | some u => rw [Tt_S]; exact Iff.rfl
theorem Tt_R3 {ρ δ A1 A2 A3 : Type} {x : Option (ρ × A1 × A2 × A3)} {k : ρ → A1 → A2 → A3 → Option δ} {Q : δ → Prop} : Tt (mR3 x k) Q ↔ Tt x (fun u => Tt (k u.1 u.2.1 u.2.2.1 u.2.2.2) Q) := by
  cases x with
  | none => exact ⟨fun h => absurd h Tt_0, fun h => absurd h Tt_0⟩
  | some u => rw [Tt_S]; exact Iff.rfl
theorem Tt_R4 {ρ δ A1 A2 A3 A4 : Type} {x : Option (ρ × A1 × A2 × A3 × A4)} {k : ρ → A1 → A2 → A3 → A4 → Option δ} {Q : δ → Prop} : Tt (mR4 x k) Q ↔ Tt x (fun u => Tt (k u.1 u.2.1 u.2.2.1 u.2.2.2.1 u.2.2.2.2) Q) := by
  cases x with
  | none => exact ⟨fun h => absurd h Tt_0, fun h => absurd h Tt_0⟩
  | some u => rw [Tt_S]; exact Iff.rfl
theorem Tt_R5 {ρ δ A1 A2 A3 A4 A5 : Type} {x : Option (ρ × A1 × A2 × A3 × A4 × A5)} {k : ρ → A1 → A2 → A3 → A4 → A5 → Option δ} {Q : δ → Prop} : Tt (mR5 x k) Q ↔ Tt x (fun u => Tt (k u.1 u.2.1 u.2.2.1 u.2.2.2.1 u.2.2.2.2.1 u.2.2.2.2.2) Q) := by
  cases x with
  | none => exact ⟨fun h => absurd h Tt_0, fun h => absurd h Tt_0⟩
  | some u => rw [Tt_S]; exact Iff.rfl
theorem Tt_R6 {ρ δ A1 A2 A3 A4 A5 A6 : Type} {x : Option (ρ × A1 × A2 × A3 × A4 × A5 × A6)} {k : ρ → A1 → A2 → A3 → A4 → A5 → A6 → Option δ} {Q : δ → Prop} : Tt (mR6 x k) Q ↔ Tt x (fun u => Tt (k u.1 u.2.1 u.2.2.1 u.2.2.2.1 u.2.2.2.2.1 u.2.2.2.2.2.1 u.2.2.2.2.2.2) Q) := by
  cases x with
  | none => exact ⟨fun h => absurd h Tt_0, fun h => absurd h Tt_0⟩
  | some u => rw [Tt_S]; exact Iff.rfl
theorem Tt_R7 {ρ δ A1 A2 A3 A4 A5 A6 A7 : Type} {x : Option (ρ × A1 × A2 × A3 × A4 × A5 × A6 × A7)} {k : ρ → A1 → A2 → A3 → A4 → A5 → A6 → A7 → Option δ} {Q : δ → Prop} : Tt (mR7 x k) Q ↔ Tt x (fun u => Tt (k u.1 u.2.1 u.2.2.1 u.2.2.2.1 u.2.2.2.2.1 u.2.2.2.2.2.1 u.2.2.2.2.2.2.1 u.2.2.2.2.2.2.2) Q) := by
  cases x with
  | none => exact ⟨fun h => absurd h Tt_0, fun h => absurd h Tt_0⟩
  | some u => rw [Tt_S]; exact Iff.rfl
theorem Tt_R10 {ρ δ A1 A2 A3 A4 A5 A6 A7 A8 A9 A10 : Type} {x : Option (ρ × A1 × A2 × A3 × A4 × A5 × A6 × A7 × A8 × A9 × A10)} {k : ρ → A1 → A2 → A3 → A4 → A5 → A6 → A7 → A8 → A9 → A10 → Option δ} {Q : δ → Prop} : Tt (mR10 x k) Q ↔ Tt x (fun u => Tt (k u.1 u.2.1 u.2.2.1 u.2.2.2.1 u.2.2.2.2.1 u.2.2.2.2.2.1 u.2.2.2.2.2.2.1 u.2.2.2.2.2.2.2.1 u.2.2.2.2.2.2.2.2.1 u.2.2.2.2.2.2.2.2.2.1 u.2.2.2.2.2.2.2.2.2.2) Q) := by
  cases x with
  | none => exact ⟨fun h => absurd h Tt_0, fun h => absurd h Tt_0⟩
  | some u => rw [Tt_S]; exact Iff.rfl
theorem Tt_R11 {ρ δ A1 A2 A3 A4 A5 A6 A7 A8 A9 A10 A11 : Type} {x : Option (ρ × A1 × A2 × A3 × A4 × A5 × A6 × A7 × A8 × A9 × A10 × A11)} {k : ρ → A1 → A2 → A3 → A4 → A5 → A6 → A7 → A8 → A9 → A10 → A11 → Option δ} {Q : δ → Prop} : Tt (mR11 x k) Q ↔ Tt x (fun u => Tt (k u.1 u.2.1 u.2.2.1 u.2.2.2.1 u.2.2.2.2.1 u.2.2.2.2.2.1 u.2.2.2.2.2.2.1 u.2.2.2.2.2.2.2.1 u.2.2.2.2.2.2.2.2.1 u.2.2.2.2.2.2.2.2.2.1 u.2.2.2.2.2.2.2.2.2.2.1 u.2.2.2.2.2.2.2.2.2.2.2) Q) := by
  cases x with
  | none => exact ⟨fun h => absurd h Tt_0, fun h => absurd h Tt_0⟩
  | some u => rw [Tt_S]; exact Iff.rfl
theorem Tt_R16 {ρ δ A1 A2 A3 A4 A5 A6 A7 A8 A9 A10 A11 A12 A13 A14 A15 A16 : Type} {x : Option (ρ × A1 × A2 × A3 × A4 × A5 × A6 × A7 × A8 × A9 × A10 × A11 × A12 × A13 × A14 × A15 × A16)} {k : ρ → A1 → A2 → A3 → A4 → A5 → A6 → A7 → A8 → A9 → A10 → A11 → A12 → A13 → A14 → A15 → A16 → Option δ} {Q : δ → Prop} : Tt (mR16 x k) Q ↔ Tt x (fun u => Tt (k u.1 u.2.1 u.2.2.1 u.2.2.2.1 u.2.2.2.2.1 u.2.2.2.2.2.1 u.2.2.2.2.2.2.1 u.2.2.2.2.2.2.2.1 u.2.2.2.2.2.2.2.2.1 u.2.2.2.2.2.2.2.2.2.1 u.2.2.2.2.2.2.2.2.2.2.1 u.2.2.2.2.2.2.2.2.2.2.2.1 u.2.2.2.2.2.2.2.2.2.2.2.2.1 u.2.2.2.2.2.2.2.2.2.2.2.2.2.1 u.2.2.2.2.2.2.2.2.2.2.2.2.2.2.1 u.2.2.2.2.2.2.2.2.2.2.2.2.2.2.2.1 u.2.2.2.2.2.2.2.2.2.2.2.2.2.2.2.2) Q) := by
  cases x with
  | none => exact ⟨fun h => absurd h Tt_0, fun h => absurd h Tt_0⟩
  | some u => rw [Tt_S]; exact Iff.rfl
theorem Tt_R17 {ρ δ A1 A2 A3 A4 A5 A6 A7 A8 A9 A10 A11 A12 A13 A14 A15 A16 A17 : Type} {x : Option (ρ × A1 × A2 × A3 × A4 × A5 × A6 × A7 × A8 × A9 × A10 × A11 × A12 × A13 × A14 × A15 × A16 × A17)} {k : ρ → A1 → A2 → A3 → A4 → A5 → A6 → A7 → A8 → A9 → A10 → A11 → A12 → A13 → A14 → A15 → A16 → A17 → Option δ} {Q : δ → Prop} : Tt (mR17 x k) Q ↔ Tt x (fun u => Tt (k u.1 u.2.1 u.2.2.1 u.2.2.2.1 u.2.2.2.2.1 u.2.2.2.2.2.1 u.2.2.2.2.2.2.1 u.2.2.2.2.2.2.2.1 u.2.2.2.2.2.2.2.2.1 u.2.2.2.2.2.2.2.2.2.1 u.2.2.2.2.2.2.2.2.2.2.1 u.2.2.2.2.2.2.2.2.2.2.2.1 u.2.2.2.2.2.2.2.2.2.2.2.2.1 u.2.2.2.2.2.2.2.2.2.2.2.2.2.1 u.2.2.2.2.2.2.2.2.2.2.2.2.2.2.1 u.2.2.2.2.2.2.2.2.2.2.2.2.2.2.2.1 u.2.2.2.2.2.2.2.2.2.2.2.2.2.2.2.2.1 u.2.2.2.2.2.2.2.2.2.2.2.2.2.2.2.2.2) Q) := by
  cases x with
  | none => exact ⟨fun h => absurd h Tt_0, fun h => absurd h Tt_0⟩
  | some u => rw [Tt_S]; exact Iff.rfl
theorem Tt_R19 {ρ δ A1 A2 A3 A4 A5 A6 A7 A8 A9 A10 A11 A12 A13 A14 A15 A16 A17 A18 A19 : Type} {x : Option (ρ × A1 × A2 × A3 × A4 × A5 × A6 × A7 × A8 × A9 × A10 × A11 × A12 × A13 × A14 × A15 × A16 × A17 × A18 × A19)} {k : ρ → A1 → A2 → A3 → A4 → A5 → A6 → A7 → A8 → A9 → A10 → A11 → A12 → A13 → A14 → A15 → A16 → A17 → A18 → A19 → Option δ} {Q : δ → Prop} : Tt (mR19 x k) Q ↔ Tt x (fun u => Tt (k u.1 u.2.1 u.2.2.1 u.2.2.2.1 u.2.2.2.2.1 u.2.2.2.2.2.1 u.2.2.2.2.2.2.1 u.2.2.2.2.2.2.2.1 u.2.2.2.2.2.2.2.2.1 u.2.2.2.2.2.2.2.2.2.1 u.2.2.2.2.2.2.2.2.2.2.1 u.2.2.2.2.2.2.2.2.2.2.2.1 u.2.2.2.2.2.2.2.2.2.2.2.2.1 u.2.2.2.2.2.2.2.2.2.2.2.2.2.1 u.2.2.2.2.2.2.2.2.2.2.2.2.2.2.1 u.2.2.2.2.2.2.2.2.2.2.2.2.2.2.2.1 u.2.2.2.2.2.2.2.2.2.2.2.2.2.2.2.2.1 u.2.2.2.2.2.2.2.2.2.2.2.2.2.2.2.2.2.1 u.2.2.2.2.2.2.2.2.2.2.2.2.2.2.2.2.2.2.1 u.2.2.2.2.2.2.2.2.2.2.2.2.2.2.2.2.2.2.2) Q) := by
  cases x with
  | none => exact ⟨fun h => absurd h Tt_0, fun h => absurd h Tt_0⟩
  | some u => rw [Tt_S]; exact Iff.rfl
theorem Tt_R22 {ρ δ A1 A2 A3 A4 A5 A6 A7 A8 A9 A10 A11 A12 A13 A14 A15 A16 A17 A18 A19 A20 A21 A22 : Type} {x : Option (ρ × A1 × A2 × A3 × A4 × A5 × A6 × A7 × A8 × A9 × A10 × A11 × A12 × A13 × A14 × A15 × A16 × A17 × A18 × A19 × A20 × A21 × A22)} {k : ρ → A1 → A2 → A3 → A4 → A5 → A6 → A7 → A8 → A9 → A10 → A11 → A12 → A13 → A14 → A15 → A16 → A17 → A18 → A19 → A20 → A21 → A22 → Option δ} {Q : δ → Prop} : Tt (mR22 x k) Q ↔ Tt x (fun u => Tt (k u.1 u.2.1 u.2.2.1 u.2.2.2.1 u.2.2.2.2.1 u.2.2.2.2.2.1 u.2.2.2.2.2.2.1 u.2.2.2.2.2.2.2.1 u.2.2.2.2.2.2.2.2.1 u.2.2.2.2.2.2.2.2.2.1 u.2.2.2.2.2.2.2.2.2.2.1 u.2.2.2.2.2.2.2.2.2.2.2.1 u.2.2.2.2.2.2.2.2.2.2.2.2.1 u.2.2.2.2.2.2.2.2.2.2.2.2.2.1 u.2.2.2.2.2.2.2.2.2.2.2.2.2.2.1 u.2.2.2.2.2.2.2.2.2.2.2.2.2.2.2.1 u.2.2.2.2.2.2.2.2.2.2.2.2.2.2.2.2.1 u.2.2.2.2.2.2.2.2.2.2.2.2.2.2.2.2.2.1 u.2.2.2.2.2.2.2.2.2.2.2.2.2.2.2.2.2.2.1 u.2.2.2.2.2.2.2.2.2.2.2.2.2.2.2.2.2.2.2.1 u.2.2.2.2.2.2.2.2.2.2.2.2.2.2.2.2.2.2.2.2.1 u.2.2.2.2.2.2.2.2.2.2.2.2.2.2.2.2.2.2.2.2.2.1 u.2.2.2.2.2.2.2.2.2.2.2.2.2.2.2.2.2.2.2.2.2.2) Q) := by
  cases x with
  | none => exact ⟨fun h => absurd h Tt_0, fun h => absurd h Tt_0⟩
  | some u => rw [Tt_S]; exact Iff.rfl
theorem Tt_R23 {ρ δ A1 A2 A3 A4 A5 A6 A7 A8 A9 A10 A11 A12 A13 A14 A15 A16 A17 A18 A19 A20 A21 A22 A23 : Type} {x : Option (ρ × A1 × A2 × A3 × A4 × A5 × A6 × A7 × A8 × A9 × A10 × A11 × A12 × A13 × A14 × A15 × A16 × A17 × A18 × A19 × A20 × A21 × A22 × A23)} {k : ρ → A1 → A2 → A3 → A4 → A5 → A6 → A7 → A8 → A9 → A10 → A11 → A12 → A13 → A14 → A15 → A16 → A17 → A18 → A19 → A20 → A21 → A22 → A23 → Option δ} {Q : δ → Prop} : Tt (mR23 x k) Q ↔ Tt x (fun u => Tt (k u.1 u.2.1 u.2.2.1 u.2.2.2.1 u.2.2.2.2.1 u.2.2.2.2.2.1 u.2.2.2.2.2.2.1 u.2.2.2.2.2.2.2.1 u.2.2.2.2.2.2.2.2.1 u.2.2.2.2.2.2.2.2.2.1 u.2.2.2.2.2.2.2.2.2.2.1 u.2.2.2.2.2.2.2.2.2.2.2.1 u.2.2.2.2.2.2.2.2.2.2.2.2.1 u.2.2.2.2.2.2.2.2.2.2.2.2.2.1 u.2.2.2.2.2.2.2.2.2.2.2.2.2.2.1 u.2.2.2.2.2.2.2.2.2.2.2.2.2.2.2.1 u.2.2.2.2.2.2.2.2.2.2.2.2.2.2.2.2.1 u.2.2.2.2.2.2.2.2.2.2.2.2.2.2.2.2.2.1 u.2.2.2.2.2.2.2.2.2.2.2.2.2.2.2.2.2.2.1 u.2.2.2.2.2.2.2.2.2.2.2.2.2.2.2.2.2.2.2.1 u.2.2.2.2.2.2.2.2.2.2.2.2.2.2.2.2.2.2.2.2.1 u.2.2.2.2.2.2.2.2.2.2.2.2.2.2.2.2.2.2.2.2.2.1 u.2.2.2.2.2.2.2.2.2.2.2.2.2.2.2.2.2.2.2.2.2.2.1 u.2.2.2.2.2.2.2.2.2.2.2.2.2.2.2.2.2.2.2.2.2.2.2) Q) := by
  cases x with
  | none => exact ⟨fun h => absurd h Tt_0, fun h => absurd h Tt_0⟩
  | some u => rw [Tt_S]; exact Iff.rfl
theorem Tt_R25 {ρ δ A1 A2 A3 A4 A5 A6 A7 A8 A9 A10 A11 A12 A13 A14 A15 A16 A17 A18 A19 A20 A21 A22 A23 A24 A25 : Type} {x : Option (ρ × A1 × A2 × A3 × A4 × A5 × A6 × A7 × A8 × A9 × A10 × A11 × A12 × A13 × A14 × A15 × A16 × A17 × A18 × A19 × A20 × A21 × A22 × A23 × A24 × A25)} {k : ρ → A1 → A2 → A3 → A4 → A5 → A6 → A7 → A8 → A9 → A10 → A11 → A12 → A13 → A14 → A15 → A16 → A17 → A18 → A19 → A20 → A21 → A22 → A23 → A24 → A25 → Option δ} {Q : δ → Prop} : Tt (mR25 x k) Q ↔ Tt x (fun u => Tt (k u.1 u.2.1 u.2.2.1 u.2.2.2.1 u.2.2.2.2.1 u.2.2.2.2.2.1 u.2.2.2.2.2.2.1 u.2.2.2.2.2.2.2.1 u.2.2.2.2.2.2.2.2.1 u.2.2.2.2.2.2.2.2.2.1 u.2.2.2.2.2.2.2.2.2.2.1 u.2.2.2.2.2.2.2.2.2.2.2.1 u.2.2.2.2.2.2.2.2.2.2.2.2.1 u.2.2.2.2.2.2.2.2.2.2.2.2.2.1 u.2.2.2.2.2.2.2.2.2.2.2.2.2.2.1 u.2.2.2.2.2.2.2.2.2.2.2.2.2.2.2.1 u.2.2.2.2.2.2.2.2.2.2.2.2.2.2.2.2.1 u.2.2.2.2.2.2.2.2.2.2.2.2.2.2.2.2.2.1 u.2.2.2.2.2.2.2.2.2.2.2.2.2.2.2.2.2.2.1 u.2.2.2.2.2.2.2.2.2.2.2.2.2.2.2.2.2.2.2.1 u.2.2.2.2.2.2.2.2.2.2.2.2.2.2.2.2.2.2.2.2.1 u.2.2.2.2.2.2.2.2.2.2.2.2.2.2.2.2.2.2.2.2.2.1 u.2.2.2.2.2.2.2.2.2.2.2.2.2.2.2.2.2.2.2.2.2.2.1 u.2.2.2.2.2.2.2.2.2.2.2.2.2.2.2.2.2.2.2.2.2.2.2.1 u.2.2.2.2.2.2.2.2.2.2.2.2.2.2.2.2.2.2.2.2.2.2.2.2.1 u.2.2.2.2.2.2.2.2.2.2.2.2.2.2.2.2.2.2.2.2.2.2.2.2.2) Q) := by
  cases x with
  | none => exact ⟨fun h => absurd h Tt_0, fun h => absurd h Tt_0⟩
  | some u => rw [Tt_S]; exact Iff.rfl
theorem Tt_R32 {ρ δ A1 A2 A3 A4 A5 A6 A7 A8 A9 A10 A11 A12 A13 A14 A15 A16 A17 A18 A19 A20 A21 A22 A23 A24 A25 A26 A27 A28 A29 A30 A31 A32 : Type} {x : Option (ρ × A1 × A2 × A3 × A4 × A5 × A6 × A7 × A8 × A9 × A10 × A11 × A12 × A13 × A14 × A15 × A16 × A17 × A18 × A19 × A20 × A21 × A22 × A23 × A24 × A25 × A26 × A27 × A28 × A29 × A30 × A31 × A32)} {k : ρ → A1 → A2 → A3 → A4 → A5 → A6 → A7 → A8 → A9 → A10 → A11 → A12 → A13 → A14 → A15 → A16 → A17 → A18 → A19 → A20 → A21 → A22 → A23 → A24 → A25 → A26 → A27 → A28 → A29 → A30 → A31 → A32 → Option δ} {Q : δ → Prop} : Tt (mR32 x k) Q ↔ Tt x (fun u => Tt (k u.1 u.2.1 u.2.2.1 u.2.2.2.1 u.2.2.2.2.1 u.2.2.2.2.2.1 u.2.2.2.2.2.2.1 u.2.2.2.2.2.2.2.1 u.2.2.2.2.2.2.2.2.1 u.2.2.2.2.2.2.2.2.2.1 u.2.2.2.2.2.2.2.2.2.2.1 u.2.2.2.2.2.2.2.2.2.2.2.1 u.2.2.2.2.2.2.2.2.2.2.2.2.1 u.2.2.2.2.2.2.2.2.2.2.2.2.2.1 u.2.2.2.2.2.2.2.2.2.2.2.2.2.2.1 u.2.2.2.2.2.2.2.2.2.2.2.2.2.2.2.1 u.2.2.2.2.2.2.2.2.2.2.2.2.2.2.2.2.1 u.2.2.2.2.2.2.2.2.2.2.2.2.2.2.2.2.2.1 u.2.2.2.2.2.2.2.2.2.2.2.2.2.2.2.2.2.2.1 u.2.2.2.2.2.2.2.2.2.2.2.2.2.2.2.2.2.2.2.1 u.2.2.2.2.2.2.2.2.2.2.2.2.2.2.2.2.2.2.2.2.1 u.2.2.2.2.2.2.2.2.2.2.2.2.2.2.2.2.2.2.2.2.2.1 u.2.2.2.2.2.2.2.2.2.2.2.2.2.2.2.2.2.2.2.2.2.2.1 u.2.2.2.2.2.2.2.2.2.2.2.2.2.2.2.2.2.2.2.2.2.2.2.1 u.2.2.2.2.2.2.2.2.2.2.2.2.2.2.2.2.2.2.2.2.2.2.2.2.1 u.2.2.2.2.2.2.2.2.2.2.2.2.2.2.2.2.2.2.2.2.2.2.2.2.2.1 u.2.2.2.2.2.2.2.2.2.2.2.2.2.2.2.2.2.2.2.2.2.2.2.2.2.2.1 u.2.2.2.2.2.2.2.2.2.2.2.2.2.2.2.2.2.2.2.2.2.2.2.2.2.2.2.1 u.2.2.2.2.2.2.2.2.2.2.2.2.2.2.2.2.2.2.2.2.2.2.2.2.2.2.2.2.1 u.2.2.2.2.2.2.2.2.2.2.2.2.2.2.2.2.2.2.2.2.2.2.2.2.2.2.2.2.2.1 u.2.2.2.2.2.2.2.2.2.2.2.2.2.2.2.2.2.2.2.2.2.2.2.2.2.2.2.2.2.2.1 u.2.2.2.2.2.2.2.2.2.2.2.2.2.2.2.2.2.2.2.2.2.2.2.2.2.2.2.2.2.2.2.1 u.2.2.2.2.2.2.2.2.2.2.2.2.2.2.2.2.2.2.2.2.2.2.2.2.2.2.2.2.2.2.2.2) Q) := by
  cases x with
  | none => exact ⟨fun h => absurd h Tt_0, fun h => absurd h Tt_0⟩
  | some u => rw [Tt_S]; exact Iff.rfl
theorem Tt_R34 {ρ δ A1 A2 A3 A4 A5 A6 A7 A8 A9 A10 A11 A12 A13 A14 A15 A16 A17 A18 A19 A20 A21 A22 A23 A24 A25 A26 A27 A28 A29 A30 A31 A32 A33 A34 : Type} {x : Option (ρ × A1 × A2 × A3 × A4 × A5 × A6 × A7 × A8 × A9 × A10 × A11 × A12 × A13 × A14 × A15 × A16 × A17 × A18 × A19 × A20 × A21 × A22 × A23 × A24 × A25 × A26 × A27 × A28 × A29 × A30 × A31 × A32 × A33 × A34)} {k : ρ → A1 → A2 → A3 → A4 → A5 → A6 → A7 → A8 → A9 → A10 → A11 → A12 → A13 → A14 → A15 → A16 → A17 → A18 → A19 → A20 → A21 → A22 → A23 → A24 → A25 → A26 → A27 → A28 → A29 → A30 → A31 → A32 → A33 → A34 → Option δ} {Q : δ → Prop} : Tt (mR34 x k) Q ↔ Tt x (fun u => Tt (k u.1 u.2.1 u.2.2.1 u.2.2.2.1 u.2.2.2.2.1 u.2.2.2.2.2.1 u.2.2.2.2.2.2.1 u.2.2.2.2.2.2.2.1 u.2.2.2.2.2.2.2.2.1 u.2.2.2.2.2.2.2.2.2.1 u.2.2.2.2.2.2.2.2.2.2.1 u.2.2.2.2.2.2.2.2.2.2.2.1 u.2.2.2.2.2.2.2.2.2.2.2.2.1 u.2.2.2.2.2.2.2.2.2.2.2.2.2.1 u.2.2.2.2.2.2.2.2.2.2.2.2.2.2.1 u.2.2.2.2.2.2.2.2.2.2.2.2.2.2.2.1 u.2.2.2.2.2.2.2.2.2.2.2.2.2.2.2.2.1 u.2.2.2.2.2.2.2.2.2.2.2.2.2.2.2.2.2.1 u.2.2.2.2.2.2.2.2.2.2.2.2.2.2.2.2.2.2.1 u.2.2.2.2.2.2.2.2.2.2.2.2.2.2.2.2.2.2.2.1 u.2.2.2.2.2.2.2.2.2.2.2.2.2.2.2.2.2.2.2.2.1 u.2.2.2.2.2.2.2.2.2.2.2.2.2.2.2.2.2.2.2.2.2.1 u.2.2.2.2.2.2.2.2.2.2.2.2.2.2.2.2.2.2.2.2.2.2.1 u.2.2.2.2.2.2.2.2.2.2.2.2.2.2.2.2.2.2.2.2.2.2.2.1 u.2.2.2.2.2.2.2.2.2.2.2.2.2.2.2.2.2.2.2.2.2.2.2.2.1 u.2.2.2.2.2.2.2.2.2.2.2.2.2.2.2.2.2.2.2.2.2.2.2.2.2.1 u.2.2.2.2.2.2.2.2.2.2.2.2.2.2.2.2.2.2.2.2.2.2.2.2.2.2.1 u.2.2.2.2.2.2.2.2.2.2.2.2.2.2.2.2.2.2.2.2.2.2.2.2.2.2.2.1 u.2.2.2.2.2.2.2.2.2.2.2.2.2.2.2.2.2.2.2.2.2.2.2.2.2.2.2.2.1 u.2.2.2.2.2.2.2.2.2.2.2.2.2.2.2.2.2.2.2.2.2.2.2.2.2.2.2.2.2.1 u.2.2.2.2.2.2.2.2.2.2.2.2.2.2.2.2.2.2.2.2.2.2.2.2.2.2.2.2.2.2.1 u.2.2.2.2.2.2.2.2.2.2.2.2.2.2.2.2.2.2.2.2.2.2.2.2.2.2.2.2.2.2.2.1 u.2.2.2.2.2.2.2.2.2.2.2.2.2.2.2.2.2.2.2.2.2.2.2.2.2.2.2.2.2.2.2.2.1 u.2.2.2.2.2.2.2.2.2.2.2.2.2.2.2.2.2.2.2.2.2.2.2.2.2.2.2.2.2.2.2.2.2.1 u.2.2.2.2.2.2.2.2.2.2.2.2.2.2.2.2.2.2.2.2.2.2.2.2.2.2.2.2.2.2.2.2.2.2) Q) := by
  cases x with
  | none => exact ⟨fun h => absurd h Tt_0, fun h => absurd h Tt_0⟩
  | some u => rw [Tt_S]; exact Iff.rfl
theorem Tt_R38 {ρ δ A1 A2 A3 A4 A5 A6 A7 A8 A9 A10 A11 A12 A13 A14 A15 A16 A17 A18 A19 A20 A21 A22 A23 A24 A25 A26 A27 A28 A29 A30 A31 A32 A33 A34 A35 A36 A37 A38 : Type} {x : Option (ρ × A1 × A2 × A3 × A4 × A5 × A6 × A7 × A8 × A9 × A10 × A11 × A12 × A13 × A14 × A15 × A16 × A17 × A18 × A19 × A20 × A21 × A22 × A23 × A24 × A25 × A26 × A27 × A28 × A29 × A30 × A31 × A32 × A33 × A34 × A35 × A36 × A37 × A38)} {k : ρ → A1 → A2 → A3 → A4 → A5 → A6 → A7 → A8 → A9 → A10 → A11 → A12 → A13 → A14 → A15 → A16 → A17 → A18 → A19 → A20 → A21 → A22 → A23 → A24 → A25 → A26 → A27 → A28 → A29 → A30 → A31 → A32 → A33 → A34 → A35 → A36 → A37 → A38 → Option δ} {Q : δ → Prop} : Tt (mR38 x k) Q ↔ Tt x (fun u => Tt (k u.1 u.2.1 u.2.2.1 u.2.2.2.1 u.2.2.2.2.1 u.2.2.2.2.2.1 u.2.2.2.2.2.2.1 u.2.2.2.2.2.2.2.1 u.2.2.2.2.2.2.2.2.1 u.2.2.2.2.2.2.2.2.2.1 u.2.2.2.2.2.2.2.2.2.2.1 u.2.2.2.2.2.2.2.2.2.2.2.1 u.2.2.2.2.2.2.2.2.2.2.2.2.1 u.2.2.2.2.2.2.2.2.2.2.2.2.2.1 u.2.2.2.2.2.2.2.2.2.2.2.2.2.2.1 u.2.2.2.2.2.2.2.2.2.2.2.2.2.2.2.1 u.2.2.2.2.2.2.2.2.2.2.2.2.2.2.2.2.1 u.2.2.2.2.2.2.2.2.2.2.2.2.2.2.2.2.2.1 u.2.2.2.2.2.2.2.2.2.2.2.2.2.2.2.2.2.2.1 u.2.2.2.2.2.2.2.2.2.2.2.2.2.2.2.2.2.2.2.1 u.2.2.2.2.2.2.2.2.2.2.2.2.2.2.2.2.2.2.2.2.1 u.2.2.2.2.2.2.2.2.2.2.2.2.2.2.2.2.2.2.2.2.2.1 u.2.2.2.2.2.2.2.2.2.2.2.2.2.2.2.2.2.2.2.2.2.2.1 u.2.2.2.2.2.2.2.2.2.2.2.2.2.2.2.2.2.2.2.2.2.2.2.1 u.2.2.2.2.2.2.2.2.2.2.2.2.2.2.2.2.2.2.2.2.2.2.2.2.1 u.2.2.2.2.2.2.2.2.2.2.2.2.2.2.2.2.2.2.2.2.2.2.2.2.2.1 u.2.2.2.2.2.2.2.2.2.2.2.2.2.2.2.2.2.2.2.2.2.2.2.2.2.2.1 u.2.2.2.2.2.2.2.2.2.2.2.2.2.2.2.2.2.2.2.2.2.2.2.2.2.2.2.1 u.2.2.2.2.2.2.2.2.2.2.2.2.2.2.2.2.2.2.2.2.2.2.2.2.2.2.2.2.1 u.2.2.2.2.2.2.2.2.2.2.2.2.2.2.2.2.2.2.2.2.2.2.2.2.2.2.2.2.2.1 u.2.2.2.2.2.2.2.2.2.2.2.2.2.2.2.2.2.2.2.2.2.2.2.2.2.2.2.2.2.2.1 u.2.2.2.2.2.2.2.2.2.2.2.2.2.2.2.2.2.2.2.2.2.2.2.2.2.2.2.2.2.2.2.1 u.2.2.2.2.2.2.2.2.2.2.2.2.2.2.2.2.2.2.2.2.2.2.2.2.2.2.2.2.2.2.2.2.1 u.2.2.2.2.2.2.2.2.2.2.2.2.2.2.2.2.2.2.2.2.2.2.2.2.2.2.2.2.2.2.2.2.2.1 u.2.2.2.2.2.2.2.2.2.2.2.2.2.2.2.2.2.2.2.2.2.2.2.2.2.2.2.2.2.2.2.2.2.2.1 u.2.2.2.2.2.2.2.2.2.2.2.2.2.2.2.2.2.2.2.2.2.2.2.2.2.2.2.2.2.2.2.2.2.2.2.1 u.2.2.2.2.2.2.2.2.2.2.2.2.2.2.2.2.2.2.2.2.2.2.2.2.2.2.2.2.2.2.2.2.2.2.2.2.1 u.2.2.2.2.2.2.2.2.2.2.2.2.2.2.2.2.2.2.2.2.2.2.2.2.2.2.2.2.2.2.2.2.2.2.2.2.2.1 u.2.2.2.2.2.2.2.2.2.2.2.2.2.2.2.2.2.2.2.2.2.2.2.2.2.2.2.2.2.2.2.2.2.2.2.2.2.2) Q) := by
  cases x with
  | none => exact ⟨fun h => absurd h Tt_0, fun h => absurd h Tt_0⟩
  | some u => rw [Tt_S]; exact Iff.rfl
theorem Tt_W1 {ρ A1 : Type} {st : (A1 → Option ρ) → A1 → Option ρ} {Q : ρ → Prop} (I : Nat → A1 → Prop) (h : ∀ k m a1, I m a1 → (∀ m' b1, m' < m → I m' b1 → Tt (k b1) Q) → Tt (st k a1) Q) : ∀ F m a1, m < F → I m a1 → Tt (mW1 st F a1) Q := by
  intro F
  induction F with
  | zero => intro m a1 hm; omega
  | succ F ih => intro m a1 hm hi; exact h _ m a1 hi (fun m' b1 hm' hi' => ih m' b1 (by omega) hi')
theorem Tt_W2 {ρ A1 A2 : Type} {st : (A1 → A2 → Option ρ) → A1 → A2 → Option ρ} {Q : ρ → Prop} (I : Nat → A1 → A2 → Prop) (h : ∀ k m a1 a2, I m a1 a2 → (∀ m' b1 b2, m' < m → I m' b1 b2 → Tt (k b1 b2) Q) → Tt (st k a1 a2) Q) : ∀ F m a1 a2, m < F → I m a1 a2 → Tt (mW2 st F a1 a2) Q := by
  intro F
  induction F with
  | zero => intro m a1 a2 hm; omega
  | succ F ih => intro m a1 a2 hm hi; exact h _ m a1 a2 hi (fun m' b1 b2 hm' hi' => ih m' b1 b2 (by omega) hi')
theorem Tt_W3 {ρ A1 A2 A3 : Type} {st : (A1 → A2 → A3 → Option ρ) → A1 → A2 → A3 → Option ρ} {Q : ρ → Prop} (I : Nat → A1 → A2 → A3 → Prop) (h : ∀ k m a1 a2 a3, I m a1 a2 a3 → (∀ m' b1 b2 b3, m' < m → I m' b1 b2 b3 → Tt (k b1 b2 b3) Q) → Tt (st k a1 a2 a3) Q) : ∀ F m a1 a2 a3, m < F → I m a1 a2 a3 → Tt (mW3 st F a1 a2 a3) Q := by
  intro F
  induction F with
  | zero => intro m a1 a2 a3 hm; omega
  | succ F ih => intro m a1 a2 a3 hm hi; exact h _ m a1 a2 a3 hi (fun m' b1 b2 b3 hm' hi' => ih m' b1 b2 b3 (by omega) hi')
theorem Tt_W4 {ρ A1 A2 A3 A4 : Type} {st : (A1 → A2 → A3 → A4 → Option ρ) → A1 → A2 → A3 → A4 → Option ρ} {Q : ρ → Prop} (I : Nat → A1 → A2 → A3 → A4 → Prop) (h : ∀ k m a1 a2 a3 a4, I m a1 a2 a3 a4 → (∀ m' b1 b2 b3 b4, m' < m → I m' b1 b2 b3 b4 → Tt (k b1 b2 b3 b4) Q) → Tt (st k a1 a2 a3 a4) Q) : ∀ F m a1 a2 a3 a4, m < F → I m a1 a2 a3 a4 → Tt (mW4 st F a1 a2 a3 a4) Q := by
  intro F
  induction F with
  | zero => intro m a1 a2 a3 a4 hm; omega
  | succ F ih => intro m a1 a2 a3 a4 hm hi; exact h _ m a1 a2 a3 a4 hi (fun m' b1 b2 b3 b4 hm' hi' => ih m' b1 b2 b3 b4 (by omega) hi')
theorem Tt_W5 {ρ A1 A2 A3 A4 A5 : Type} {st : (A1 → A2 → A3 → A4 → A5 → Option ρ) → A1 → A2 → A3 → A4 → A5 → Option ρ} {Q : ρ → Prop} (I : Nat → A1 → A2 → A3 → A4 → A5 → Prop) (h : ∀ k m a1 a2 a3 a4 a5, I m a1 a2 a3 a4 a5 → (∀ m' b1 b2 b3 b4 b5, m' < m → I m' b1 b2 b3 b4 b5 → Tt (k b1 b2 b3 b4 b5) Q) → Tt (st k a1 a2 a3 a4 a5) Q) : ∀ F m a1 a2 a3 a4 a5, m < F → I m a1 a2 a3 a4 a5 → Tt (mW5 st F a1 a2 a3 a4 a5) Q := by
  intro F
  induction F with
  | zero => intro m a1 a2 a3 a4 a5 hm; omega
  | succ F ih => intro m a1 a2 a3 a4 a5 hm hi; exact h _ m a1 a2 a3 a4 a5 hi (fun m' b1 b2 b3 b4 b5 hm' hi' => ih m' b1 b2 b3 b4 b5 (by omega) hi')
theorem Tt_W6 {ρ A1 A2 A3 A4 A5 A6 : Type} {st : (A1 → A2 → A3 → A4 → A5 → A6 → Option ρ) → A1 → A2 → A3 → A4 → A5 → A6 → Option ρ} {Q : ρ → Prop} (I : Nat → A1 → A2 → A3 → A4 → A5 → A6 → Prop) (h : ∀ k m a1 a2 a3 a4 a5 a6, I m a1 a2 a3 a4 a5 a6 → (∀ m' b1 b2 b3 b4 b5 b6, m' < m → I m' b1 b2 b3 b4 b5 b6 → Tt (k b1 b2 b3 b4 b5 b6) Q) → Tt (st k a1 a2 a3 a4 a5 a6) Q) : ∀ F m a1 a2 a3 a4 a5 a6, m < F → I m a1 a2 a3 a4 a5 a6 → Tt (mW6 st F a1 a2 a3 a4 a5 a6) Q := by
  intro F
  induction F with
  | zero => intro m a1 a2 a3 a4 a5 a6 hm; omega
  | succ F ih => intro m a1 a2 a3 a4 a5 a6 hm hi; exact h _ m a1 a2 a3 a4 a5 a6 hi (fun m' b1 b2 b3 b4 b5 b6 hm' hi' => ih m' b1 b2 b3 b4 b5 b6 (by omega) hi')
theorem Tt_W7 {ρ A1 A2 A3 A4 A5 A6 A7 : Type} {st : (A1 → A2 → A3 → A4 → A5 → A6 → A7 → Option ρ) → A1 → A2 → A3 → A4 → A5 → A6 → A7 → Option ρ} {Q : ρ → Prop} (I : Nat → A1 → A2 → A3 → A4 → A5 → A6 → A7 → Prop) (h : ∀ k m a1 a2 a3 a4 a5 a6 a7, I m a1 a2 a3 a4 a5 a6 a7 → (∀ m' b1 b2 b3 b4 b5 b6 b7, m' < m → I m' b1 b2 b3 b4 b5 b6 b7 → Tt (k b1 b2 b3 b4 b5 b6 b7) Q) → Tt (st k a1 a2 a3 a4 a5 a6 a7) Q) : ∀ F m a1 a2 a3 a4 a5 a6 a7, m < F → I m a1 a2 a3 a4 a5 a6 a7 → Tt (mW7 st F a1 a2 a3 a4 a5 a6 a7) Q := by
  intro F
  induction F with
  | zero => intro m a1 a2 a3 a4 a5 a6 a7 hm; omega
  | succ F ih => intro m a1 a2 a3 a4 a5 a6 a7 hm hi; exact h _ m a1 a2 a3 a4 a5 a6 a7 hi (fun m' b1 b2 b3 b4 b5 b6 b7 hm' hi' => ih m' b1 b2 b3 b4 b5 b6 b7 (by omega) hi')
theorem Tt_W8 {ρ A1 A2 A3 A4 A5 A6 A7 A8 : Type} {st : (A1 → A2 → A3 → A4 → A5 → A6 → A7 → A8 → Option ρ) → A1 → A2 → A3 → A4 → A5 → A6 → A7 → A8 → Option ρ} {Q : ρ → Prop} (I : Nat → A1 → A2 → A3 → A4 → A5 → A6 → A7 → A8 → Prop) (h : ∀ k m a1 a2 a3 a4 a5 a6 a7 a8, I m a1 a2 a3 a4 a5 a6 a7 a8 → (∀ m' b1 b2 b3 b4 b5 b6 b7 b8, m' < m → I m' b1 b2 b3 b4 b5 b6 b7 b8 → Tt (k b1 b2 b3 b4 b5 b6 b7 b8) Q) → Tt (st k a1 a2 a3 a4 a5 a6 a7 a8) Q) : ∀ F m a1 a2 a3 a4 a5 a6 a7 a8, m < F → I m a1 a2 a3 a4 a5 a6 a7 a8 → Tt (mW8 st F a1 a2 a3 a4 a5 a6 a7 a8) Q := by
  intro F
  induction F with
  | zero => intro m a1 a2 a3 a4 a5 a6 a7 a8 hm; omega
  | succ F ih => intro m a1 a2 a3 a4 a5 a6 a7 a8 hm hi; exact h _ m a1 a2 a3 a4 a5 a6 a7 a8 hi (fun m' b1 b2 b3 b4 b5 b6 b7 b8 hm' hi' => ih m' b1 b2 b3 b4 b5 b6 b7 b8 (by omega) hi')
theorem Tt_W9 {ρ A1 A2 A3 A4 A5 A6 A7 A8 A9 : Type} {st : (A1 → A2 → A3 → A4 → A5 → A6 → A7 → A8 → A9 → Option ρ) → A1 → A2 → A3 → A4 → A5 → A6 → A7 → A8 → A9 → Option ρ} {Q : ρ → Prop} (I : Nat → A1 → A2 → A3 → A4 → A5 → A6 → A7 → A8 → A9 → Prop) (h : ∀ k m a1 a2 a3 a4 a5 a6 a7 a8 a9, I m a1 a2 a3 a4 a5 a6 a7 a8 a9 → (∀ m' b1 b2 b3 b4 b5 b6 b7 b8 b9, m' < m → I m' b1 b2 b3 b4 b5 b6 b7 b8 b9 → Tt (k b1 b2 b3 b4 b5 b6 b7 b8 b9) Q) → Tt (st k a1 a2 a3 a4 a5 a6 a7 a8 a9) Q) : ∀ F m a1 a2 a3 a4 a5 a6 a7 a8 a9, m < F → I m a1 a2 a3 a4 a5 a6 a7 a8 a9 → Tt (mW9 st F a1 a2 a3 a4 a5 a6 a7 a8 a9) Q := by
  intro F
  induction F with
  | zero => intro m a1 a2 a3 a4 a5 a6 a7 a8 a9 hm; omega
  | succ F ih => intro m a1 a2 a3 a4 a5 a6 a7 a8 a9 hm hi; exact h _ m a1 a2 a3 a4 a5 a6 a7 a8 a9 hi (fun m' b1 b2 b3 b4 b5 b6 b7 b8 b9 hm' hi' => ih m' b1 b2 b3 b4 b5 b6 b7 b8 b9 (by omega) hi')
theorem Tt_W11 {ρ A1 A2 A3 A4 A5 A6 A7 A8 A9 A10 A11 : Type} {st : (A1 → A2 → A3 → A4 → A5 → A6 → A7 → A8 → A9 → A10 → A11 → Option ρ) → A1 → A2 → A3 → A4 → A5 → A6 → A7 → A8 → A9 → A10 → A11 → Option ρ} {Q : ρ → Prop} (I : Nat → A1 → A2 → A3 → A4 → A5 → A6 → A7 → A8 → A9 → A10 → A11 → Prop) (h : ∀ k m a1 a2 a3 a4 a5 a6 a7 a8 a9 a10 a11, I m a1 a2 a3 a4 a5 a6 a7 a8 a9 a10 a11 → (∀ m' b1 b2 b3 b4 b5 b6 b7 b8 b9 b10 b11, m' < m → I m' b1 b2 b3 b4 b5 b6 b7 b8 b9 b10 b11 → Tt (k b1 b2 b3 b4 b5 b6 b7 b8 b9 b10 b11) Q) → Tt (st k a1 a2 a3 a4 a5 a6 a7 a8 a9 a10 a11) Q) : ∀ F m a1 a2 a3 a4 a5 a6 a7 a8 a9 a10 a11, m < F → I m a1 a2 a3 a4 a5 a6 a7 a8 a9 a10 a11 → Tt (mW11 st F a1 a2 a3 a4 a5 a6 a7 a8 a9 a10 a11) Q := by
  intro F
  induction F with
  | zero => intro m a1 a2 a3 a4 a5 a6 a7 a8 a9 a10 a11 hm; omega
  | succ F ih => intro m a1 a2 a3 a4 a5 a6 a7 a8 a9 a10 a11 hm hi; exact h _ m a1 a2 a3 a4 a5 a6 a7 a8 a9 a10 a11 hi (fun m' b1 b2 b3 b4 b5 b6 b7 b8 b9 b10 b11 hm' hi' => ih m' b1 b2 b3 b4 b5 b6 b7 b8 b9 b10 b11 (by omega) hi')
theorem Tt_W13 {ρ A1 A2 A3 A4 A5 A6 A7 A8 A9 A10 A11 A12 A13 : Type} {st : (A1 → A2 → A3 → A4 → A5 → A6 → A7 → A8 → A9 → A10 → A11 → A12 → A13 → Option ρ) → A1 → A2 → A3 → A4 → A5 → A6 → A7 → A8 → A9 → A10 → A11 → A12 → A13 → Option ρ} {Q : ρ → Prop} (I : Nat → A1 → A2 → A3 → A4 → A5 → A6 → A7 → A8 → A9 → A10 → A11 → A12 → A13 → Prop) (h : ∀ k m a1 a2 a3 a4 a5 a6 a7 a8 a9 a10 a11 a12 a13, I m a1 a2 a3 a4 a5 a6 a7 a8 a9 a10 a11 a12 a13 → (∀ m' b1 b2 b3 b4 b5 b6 b7 b8 b9 b10 b11 b12 b13, m' < m → I m' b1 b2 b3 b4 b5 b6 b7 b8 b9 b10 b11 b12 b13 → Tt (k b1 b2 b3 b4 b5 b6 b7 b8 b9 b10 b11 b12 b13) Q) → Tt (st k a1 a2 a3 a4 a5 a6 a7 a8 a9 a10 a11 a12 a13) Q) : ∀ F m a1 a2 a3 a4 a5 a6 a7 a8 a9 a10 a11 a12 a13, m < F → I m a1 a2 a3 a4 a5 a6 a7 a8 a9 a10 a11 a12 a13 → Tt (mW13 st F a1 a2 a3 a4 a5 a6 a7 a8 a9 a10 a11 a12 a13) Q := by
  intro F
  induction F with
  | zero => intro m a1 a2 a3 a4 a5 a6 a7 a8 a9 a10 a11 a12 a13 hm; omega
  | succ F ih => intro m a1 a2 a3 a4 a5 a6 a7 a8 a9 a10 a11 a12 a13 hm hi; exact h _ m a1 a2 a3 a4 a5 a6 a7 a8 a9 a10 a11 a12 a13 hi (fun m' b1 b2 b3 b4 b5 b6 b7 b8 b9 b10 b11 b12 b13 hm' hi' => ih m' b1 b2 b3 b4 b5 b6 b7 b8 b9 b10 b11 b12 b13 (by omega) hi')
theorem Tt_W14 {ρ A1 A2 A3 A4 A5 A6 A7 A8 A9 A10 A11 A12 A13 A14 : Type} {st : (A1 → A2 → A3 → A4 → A5 → A6 → A7 → A8 → A9 → A10 → A11 → A12 → A13 → A14 → Option ρ) → A1 → A2 → A3 → A4 → A5 → A6 → A7 → A8 → A9 → A10 → A11 → A12 → A13 → A14 → Option ρ} {Q : ρ → Prop} (I : Nat → A1 → A2 → A3 → A4 → A5 → A6 → A7 → A8 → A9 → A10 → A11 → A12 → A13 → A14 → Prop) (h : ∀ k m a1 a2 a3 a4 a5 a6 a7 a8 a9 a10 a11 a12 a13 a14, I m a1 a2 a3 a4 a5 a6 a7 a8 a9 a10 a11 a12 a13 a14 → (∀ m' b1 b2 b3 b4 b5 b6 b7 b8 b9 b10 b11 b12 b13 b14, m' < m → I m' b1 b2 b3 b4 b5 b6 b7 b8 b9 b10 b11 b12 b13 b14 → Tt (k b1 b2 b3 b4 b5 b6 b7 b8 b9 b10 b11 b12 b13 b14) Q) → Tt (st k a1 a2 a3 a4 a5 a6 a7 a8 a9 a10 a11 a12 a13 a14) Q) : ∀ F m a1 a2 a3 a4 a5 a6 a7 a8 a9 a10 a11 a12 a13 a14, m < F → I m a1 a2 a3 a4 a5 a6 a7 a8 a9 a10 a11 a12 a13 a14 → Tt (mW14 st F a1 a2 a3 a4 a5 a6 a7 a8 a9 a10 a11 a12 a13 a14) Q := by
  intro F
  induction F with
  | zero => intro m a1 a2 a3 a4 a5 a6 a7 a8 a9 a10 a11 a12 a13 a14 hm; omega
  | succ F ih => intro m a1 a2 a3 a4 a5 a6 a7 a8 a9 a10 a11 a12 a13 a14 hm hi; exact h _ m a1 a2 a3 a4 a5 a6 a7 a8 a9 a10 a11 a12 a13 a14 hi (fun m' b1 b2 b3 b4 b5 b6 b7 b8 b9 b10 b11 b12 b13 b14 hm' hi' => ih m' b1 b2 b3 b4 b5 b6 b7 b8 b9 b10 b11 b12 b13 b14 (by omega) hi')
theorem Tt_W15 {ρ A1 A2 A3 A4 A5 A6 A7 A8 A9 A10 A11 A12 A13 A14 A15 : Type} {st : (A1 → A2 → A3 → A4 → A5 → A6 → A7 → A8 → A9 → A10 → A11 → A12 → A13 → A14 → A15 → Option ρ) → A1 → A2 → A3 → A4 → A5 → A6 → A7 → A8 → A9 → A10 → A11 → A12 → A13 → A14 → A15 → Option ρ} {Q : ρ → Prop} (I : Nat → A1 → A2 → A3 → A4 → A5 → A6 → A7 → A8 → A9 → A10 → A11 → A12 → A13 → A14 → A15 → Prop) (h : ∀ k m a1 a2 a3 a4 a5 a6 a7 a8 a9 a10 a11 a12 a13 a14 a15, I m a1 a2 a3 a4 a5 a6 a7 a8 a9 a10 a11 a12 a13 a14 a15 → (∀ m' b1 b2 b3 b4 b5 b6 b7 b8 b9 b10 b11 b12 b13 b14 b15, m' < m → I m' b1 b2 b3 b4 b5 b6 b7 b8 b9 b10 b11 b12 b13 b14 b15 → Tt (k b1 b2 b3 b4 b5 b6 b7 b8 b9 b10 b11 b12 b13 b14 b15) Q) → Tt (st k a1 a2 a3 a4 a5 a6 a7 a8 a9 a10 a11 a12 a13 a14 a15) Q) : ∀ F m a1 a2 a3 a4 a5 a6 a7 a8 a9 a10 a11 a12 a13 a14 a15, m < F → I m a1 a2 a3 a4 a5 a6 a7 a8 a9 a10 a11 a12 a13 a14 a15 → Tt (mW15 st F a1 a2 a3 a4 a5 a6 a7 a8 a9 a10 a11 a12 a13 a14 a15) Q := by
  intro F
  induction F with
  | zero => intro m a1 a2 a3 a4 a5 a6 a7 a8 a9 a10 a11 a12 a13 a14 a15 hm; omega
  | succ F ih => intro m a1 a2 a3 a4 a5 a6 a7 a8 a9 a10 a11 a12 a13 a14 a15 hm hi; exact h _ m a1 a2 a3 a4 a5 a6 a7 a8 a9 a10 a11 a12 a13 a14 a15 hi (fun m' b1 b2 b3 b4 b5 b6 b7 b8 b9 b10 b11 b12 b13 b14 b15 hm' hi' => ih m' b1 b2 b3 b4 b5 b6 b7 b8 b9 b10 b11 b12 b13 b14 b15 (by omega) hi')
theorem Tt_W16 {ρ A1 A2 A3 A4 A5 A6 A7 A8 A9 A10 A11 A12 A13 A14 A15 A16 : Type} {st : (A1 → A2 → A3 → A4 → A5 → A6 → A7 → A8 → A9 → A10 → A11 → A12 → A13 → A14 → A15 → A16 → Option ρ) → A1 → A2 → A3 → A4 → A5 → A6 → A7 → A8 → A9 → A10 → A11 → A12 → A13 → A14 → A15 → A16 → Option ρ} {Q : ρ → Prop} (I : Nat → A1 → A2 → A3 → A4 → A5 → A6 → A7 → A8 → A9 → A10 → A11 → A12 → A13 → A14 → A15 → A16 → Prop) (h : ∀ k m a1 a2 a3 a4 a5 a6 a7 a8 a9 a10 a11 a12 a13 a14 a15 a16, I m a1 a2 a3 a4 a5 a6 a7 a8 a9 a10 a11 a12 a13 a14 a15 a16 → (∀ m' b1 b2 b3 b4 b5 b6 b7 b8 b9 b10 b11 b12 b13 b14 b15 b16, m' < m → I m' b1 b2 b3 b4 b5 b6 b7 b8 b9 b10 b11 b12 b13 b14 b15 b16 → Tt (k b1 b2 b3 b4 b5 b6 b7 b8 b9 b10 b11 b12 b13 b14 b15 b16) Q) → Tt (st k a1 a2 a3 a4 a5 a6 a7 a8 a9 a10 a11 a12 a13 a14 a15 a16) Q) : ∀ F m a1 a2 a3 a4 a5 a6 a7 a8 a9 a10 a11 a12 a13 a14 a15 a16, m < F → I m a1 a2 a3 a4 a5 a6 a7 a8 a9 a10 a11 a12 a13 a14 a15 a16 → Tt (mW16 st F a1 a2 a3 a4 a5 a6 a7 a8 a9 a10 a11 a12 a13 a14 a15 a16) Q := by
  intro F
  induction F with
  | zero => intro m a1 a2 a3 a4 a5 a6 a7 a8 a9 a10 a11 a12 a13 a14 a15 a16 hm; omega
  | succ F ih => intro m a1 a2 a3 a4 a5 a6 a7 a8 a9 a10 a11 a12 a13 a14 a15 a16 hm hi; exact h _ m a1 a2 a3 a4 a5 a6 a7 a8 a9 a10 a11 a12 a13 a14 a15 a16 hi (fun m' b1 b2 b3 b4 b5 b6 b7 b8 b9 b10 b11 b12 b13 b14 b15 b16 hm' hi' => ih m' b1 b2 b3 b4 b5 b6 b7 b8 b9 b10 b11 b12 b13 b14 b15 b16 (by omega) hi')
theorem Tt_W17 {ρ A1 A2 A3 A4 A5 A6 A7 A8 A9 A10 A11 A12 A13 A14 A15 A16 A17 : Type} {st : (A1 → A2 → A3 → A4 → A5 → A6 → A7 → A8 → A9 → A10 → A11 → A12 → A13 → A14 → A15 → A16 → A17 → Option ρ) → A1 → A2 → A3 → A4 → A5 → A6 → A7 → A8 → A9 → A10 → A11 → A12 → A13 → A14 → A15 → A16 → A17 → Option ρ} {Q : ρ → Prop} (I : Nat → A1 → A2 → A3 → A4 → A5 → A6 → A7 → A8 → A9 → A10 → A11 → A12 → A13 → A14 → A15 → A16 → A17 → Prop) (h : ∀ k m a1 a2 a3 a4 a5 a6 a7 a8 a9 a10 a11 a12 a13 a14 a15 a16 a17, I m a1 a2 a3 a4 a5 a6 a7 a8 a9 a10 a11 a12 a13 a14 a15 a16 a17 → (∀ m' b1 b2 b3 b4 b5 b6 b7 b8 b9 b10 b11 b12 b13 b14 b15 b16 b17, m' < m → I m' b1 b2 b3 b4 b5 b6 b7 b8 b9 b10 b11 b12 b13 b14 b15 b16 b17 → Tt (k b1 b2 b3 b4 b5 b6 b7 b8 b9 b10 b11 b12 b13 b14 b15 b16 b17) Q) → Tt (st k a1 a2 a3 a4 a5 a6 a7 a8 a9 a10 a11 a12 a13 a14 a15 a16 a17) Q) : ∀ F m a1 a2 a3 a4 a5 a6 a7 a8 a9 a10 a11 a12 a13 a14 a15 a16 a17, m < F → I m a1 a2 a3 a4 a5 a6 a7 a8 a9 a10 a11 a12 a13 a14 a15 a16 a17 → Tt (mW17 st F a1 a2 a3 a4 a5 a6 a7 a8 a9 a10 a11 a12 a13 a14 a15 a16 a17) Q := by
  intro F
  induction F with
  | zero => intro m a1 a2 a3 a4 a5 a6 a7 a8 a9 a10 a11 a12 a13 a14 a15 a16 a17 hm; omega
  | succ F ih => intro m a1 a2 a3 a4 a5 a6 a7 a8 a9 a10 a11 a12 a13 a14 a15 a16 a17 hm hi; exact h _ m a1 a2 a3 a4 a5 a6 a7 a8 a9 a10 a11 a12 a13 a14 a15 a16 a17 hi (fun m' b1 b2 b3 b4 b5 b6 b7 b8 b9 b10 b11 b12 b13 b14 b15 b16 b17 hm' hi' => ih m' b1 b2 b3 b4 b5 b6 b7 b8 b9 b10 b11 b12 b13 b14 b15 b16 b17 (by omega) hi')
theorem Tt_W18 {ρ A1 A2 A3 A4 A5 A6 A7 A8 A9 A10 A11 A12 A13 A14 A15 A16 A17 A18 : Type} {st : (A1 → A2 → A3 → A4 → A5 → A6 → A7 → A8 → A9 → A10 → A11 → A12 → A13 → A14 → A15 → A16 → A17 → A18 → Option ρ) → A1 → A2 → A3 → A4 → A5 → A6 → A7 → A8 → A9 → A10 → A11 → A12 → A13 → A14 → A15 → A16 → A17 → A18 → Option ρ} {Q : ρ → Prop} (I : Nat → A1 → A2 → A3 → A4 → A5 → A6 → A7 → A8 → A9 → A10 → A11 → A12 → A13 → A14 → A15 → A16 → A17 → A18 → Prop) (h : ∀ k m a1 a2 a3 a4 a5 a6 a7 a8 a9 a10 a11 a12 a13 a14 a15 a16 a17 a18, I m a1 a2 a3 a4 a5 a6 a7 a8 a9 a10 a11 a12 a13 a14 a15 a16 a17 a18 → (∀ m' b1 b2 b3 b4 b5 b6 b7 b8 b9 b10 b11 b12 b13 b14 b15 b16 b17 b18, m' < m → I m' b1 b2 b3 b4 b5 b6 b7 b8 b9 b10 b11 b12 b13 b14 b15 b16 b17 b18 → Tt (k b1 b2 b3 b4 b5 b6 b7 b8 b9 b10 b11 b12 b13 b14 b15 b16 b17 b18) Q) → Tt (st k a1 a2 a3 a4 a5 a6 a7 a8 a9 a10 a11 a12 a13 a14 a15 a16 a17 a18) Q) : ∀ F m a1 a2 a3 a4 a5 a6 a7 a8 a9 a10 a11 a12 a13 a14 a15 a16 a17 a18, m < F → I m a1 a2 a3 a4 a5 a6 a7 a8 a9 a10 a11 a12 a13 a14 a15 a16 a17 a18 → Tt (mW18 st F a1 a2 a3 a4 a5 a6 a7 a8 a9 a10 a11 a12 a13 a14 a15 a16 a17 a18) Q := by
  intro F
  induction F with
  | zero => intro m a1 a2 a3 a4 a5 a6 a7 a8 a9 a10 a11 a12 a13 a14 a15 a16 a17 a18 hm; omega
  | succ F ih => intro m a1 a2 a3 a4 a5 a6 a7 a8 a9 a10 a11 a12 a13 a14 a15 a16 a17 a18 hm hi; exact h _ m a1 a2 a3 a4 a5 a6 a7 a8 a9 a10 a11 a12 a13 a14 a15 a16 a17 a18 hi (fun m' b1 b2 b3 b4 b5 b6 b7 b8 b9 b10 b11 b12 b13 b14 b15 b16 b17 b18 hm' hi' => ih m' b1 b2 b3 b4 b5 b6 b7 b8 b9 b10 b11 b12 b13 b14 b15 b16 b17 b18 (by omega) hi')
theorem Tt_W19 {ρ A1 A2 A3 A4 A5 A6 A7 A8 A9 A10 A11 A12 A13 A14 A15 A16 A17 A18 A19 : Type} {st : (A1 → A2 → A3 → A4 → A5 → A6 → A7 → A8 → A9 → A10 → A11 → A12 → A13 → A14 → A15 → A16 → A17 → A18 → A19 → Option ρ) → A1 → A2 → A3 → A4 → A5 → A6 → A7 → A8 → A9 → A10 → A11 → A12 → A13 → A14 → A15 → A16 → A17 → A18 → A19 → Option ρ} {Q : ρ → Prop} (I : Nat → A1 → A2 → A3 → A4 → A5 → A6 → A7 → A8 → A9 → A10 → A11 → A12 → A13 → A14 → A15 → A16 → A17 → A18 → A19 → Prop) (h : ∀ k m a1 a2 a3 a4 a5 a6 a7 a8 a9 a10 a11 a12 a13 a14 a15 a16 a17 a18 a19, I m a1 a2 a3 a4 a5 a6 a7 a8 a9 a10 a11 a12 a13 a14 a15 a16 a17 a18 a19 → (∀ m' b1 b2 b3 b4 b5 b6 b7 b8 b9 b10 b11 b12 b13 b14 b15 b16 b17 b18 b19, m' < m → I m' b1 b2 b3 b4 b5 b6 b7 b8 b9 b10 b11 b12 b13 b14 b15 b16 b17 b18 b19 → Tt (k b1 b2 b3 b4 b5 b6 b7 b8 b9 b10 b11 b12 b13 b14 b15 b16 b17 b18 b19) Q) → Tt (st k a1 a2 a3 a4 a5 a6 a7 a8 a9 a10 a11 a12 a13 a14 a15 a16 a17 a18 a19) Q) : ∀ F m a1 a2 a3 a4 a5 a6 a7 a8 a9 a10 a11 a12 a13 a14 a15 a16 a17 a18 a19, m < F → I m a1 a2 a3 a4 a5 a6 a7 a8 a9 a10 a11 a12 a13 a14 a15 a16 a17 a18 a19 → Tt (mW19 st F a1 a2 a3 a4 a5 a6 a7 a8 a9 a10 a11 a12 a13 a14 a15 a16 a17 a18 a19) Q := by
  intro F
  induction F with
  | zero => intro m a1 a2 a3 a4 a5 a6 a7 a8 a9 a10 a11 a12 a13 a14 a15 a16 a17 a18 a19 hm; omega
  | succ F ih => intro m a1 a2 a3 a4 a5 a6 a7 a8 a9 a10 a11 a12 a13 a14 a15 a16 a17 a18 a19 hm hi; exact h _ m a1 a2 a3 a4 a5 a6 a7 a8 a9 a10 a11 a12 a13 a14 a15 a16 a17 a18 a19 hi (fun m' b1 b2 b3 b4 b5 b6 b7 b8 b9 b10 b11 b12 b13 b14 b15 b16 b17 b18 b19 hm' hi' => ih m' b1 b2 b3 b4 b5 b6 b7 b8 b9 b10 b11 b12 b13 b14 b15 b16 b17 b18 b19 (by omega) hi')
theorem Tt_W20 {ρ A1 A2 A3 A4 A5 A6 A7 A8 A9 A10 A11 A12 A13 A14 A15 A16 A17 A18 A19 A20 : Type} {st : (A1 → A2 → A3 → A4 → A5 → A6 → A7 → A8 → A9 → A10 → A11 → A12 → A13 → A14 → A15 → A16 → A17 → A18 → A19 → A20 → Option ρ) → A1 → A2 → A3 → A4 → A5 → A6 → A7 → A8 → A9 → A10 → A11 → A12 → A13 → A14 → A15 → A16 → A17 → A18 → A19 → A20 → Option ρ} {Q : ρ → Prop} (I : Nat → A1 → A2 → A3 → A4 → A5 → A6 → A7 → A8 → A9 → A10 → A11 → A12 → A13 → A14 → A15 → A16 → A17 → A18 → A19 → A20 → Prop) (h : ∀ k m a1 a2 a3 a4 a5 a6 a7 a8 a9 a10 a11 a12 a13 a14 a15 a16 a17 a18 a19 a20, I m a1 a2 a3 a4 a5 a6 a7 a8 a9 a10 a11 a12 a13 a14 a15 a16 a17 a18 a19 a20 → (∀ m' b1 b2 b3 b4 b5 b6 b7 b8 b9 b10 b11 b12 b13 b14 b15 b16 b17 b18 b19 b20, m' < m → I m' b1 b2 b3 b4 b5 b6 b7 b8 b9 b10 b11 b12 b13 b14 b15 b16 b17 b18 b19 b20 → Tt (k b1 b2 b3 b4 b5 b6 b7 b8 b9 b10 b11 b12 b13 b14 b15 b16 b17 b18 b19 b20) Q) → Tt (st k a1 a2 a3 a4 a5 a6 a7 a8 a9 a10 a11 a12 a13 a14 a15 a16 a17 a18 a19 a20) Q) : ∀ F m a1 a2 a3 a4 a5 a6 a7 a8 a9 a10 a11 a12 a13 a14 a15 a16 a17 a18 a19 a20, m < F → I m a1 a2 a3 a4 a5 a6 a7 a8 a9 a10 a11 a12 a13 a14 a15 a16 a17 a18 a19 a20 → Tt (mW20 st F a1 a2 a3 a4 a5 a6 a7 a8 a9 a10 a11 a12 a13 a14 a15 a16 a17 a18 a19 a20) Q := by
  intro F
  induction F with
  | zero => intro m a1 a2 a3 a4 a5 a6 a7 a8 a9 a10 a11 a12 a13 a14 a15 a16 a17 a18 a19 a20 hm; omega
  | succ F ih => intro m a1 a2 a3 a4 a5 a6 a7 a8 a9 a10 a11 a12 a13 a14 a15 a16 a17 a18 a19 a20 hm hi; exact h _ m a1 a2 a3 a4 a5 a6 a7 a8 a9 a10 a11 a12 a13 a14 a15 a16 a17 a18 a19 a20 hi (fun m' b1 b2 b3 b4 b5 b6 b7 b8 b9 b10 b11 b12 b13 b14 b15 b16 b17 b18 b19 b20 hm' hi' => ih m' b1 b2 b3 b4 b5 b6 b7 b8 b9 b10 b11 b12 b13 b14 b15 b16 b17 b18 b19 b20 (by omega) hi')
theorem Tt_W21 {ρ A1 A2 A3 A4 A5 A6 A7 A8 A9 A10 A11 A12 A13 A14 A15 A16 A17 A18 A19 A20 A21 : Type} {st : (A1 → A2 → A3 → A4 → A5 → A6 → A7 → A8 → A9 → A10 → A11 → A12 → A13 → A14 → A15 → A16 → A17 → A18 → A19 → A20 → A21 → Option ρ) → A1 → A2 → A3 → A4 → A5 → A6 → A7 → A8 → A9 → A10 → A11 → A12 → A13 → A14 → A15 → A16 → A17 → A18 → A19 → A20 → A21 → Option ρ} {Q : ρ → Prop} (I : Nat → A1 → A2 → A3 → A4 → A5 → A6 → A7 → A8 → A9 → A10 → A11 → A12 → A13 → A14 → A15 → A16 → A17 → A18 → A19 → A20 → A21 → Prop) (h : ∀ k m a1 a2 a3 a4 a5 a6 a7 a8 a9 a10 a11 a12 a13 a14 a15 a16 a17 a18 a19 a20 a21, I m a1 a2 a3 a4 a5 a6 a7 a8 a9 a10 a11 a12 a13 a14 a15 a16 a17 a18 a19 a20 a21 → (∀ m' b1 b2 b3 b4 b5 b6 b7 b8 b9 b10 b11 b12 b13 b14 b15 b16 b17 b18 b19 b20 b21, m' < m → I m' b1 b2 b3 b4 b5 b6 b7 b8 b9 b10 b11 b12 b13 b14 b15 b16 b17 b18 b19 b20 b21 → Tt (k b1 b2 b3 b4 b5 b6 b7 b8 b9 b10 b11 b12 b13 b14 b15 b16 b17 b18 b19 b20 b21) Q) → Tt (st k a1 a2 a3 a4 a5 a6 a7 a8 a9 a10 a11 a12 a13 a14 a15 a16 a17 a18 a19 a20 a21) Q) : ∀ F m a1 a2 a3 a4 a5 a6 a7 a8 a9 a10 a11 a12 a13 a14 a15 a16 a17 a18 a19 a20 a21, m < F → I m a1 a2 a3 a4 a5 a6 a7 a8 a9 a10 a11 a12 a13 a14 a15 a16 a17 a18 a19 a20 a21 → Tt (mW21 st F a1 a2 a3 a4 a5 a6 a7 a8 a9 a10 a11 a12 a13 a14 a15 a16 a17 a18 a19 a20 a21) Q := by
  intro F
  induction F with
  | zero => intro m a1 a2 a3 a4 a5 a6 a7 a8 a9 a10 a11 a12 a13 a14 a15 a16 a17 a18 a19 a20 a21 hm; omega
  | succ F ih => intro m a1 a2 a3 a4 a5 a6 a7 a8 a9 a10 a11 a12 a13 a14 a15 a16 a17 a18 a19 a20 a21 hm hi; exact h _ m a1 a2 a3 a4 a5 a6 a7 a8 a9 a10 a11 a12 a13 a14 a15 a16 a17 a18 a19 a20 a21 hi (fun m' b1 b2 b3 b4 b5 b6 b7 b8 b9 b10 b11 b12 b13 b14 b15 b16 b17 b18 b19 b20 b21 hm' hi' => ih m' b1 b2 b3 b4 b5 b6 b7 b8 b9 b10 b11 b12 b13 b14 b15 b16 b17 b18 b19 b20 b21 (by omega) hi')
theorem Tt_W22 {ρ A1 A2 A3 A4 A5 A6 A7 A8 A9 A10 A11 A12 A13 A14 A15 A16 A17 A18 A19 A20 A21 A22 : Type} {st : (A1 → A2 → A3 → A4 → A5 → A6 → A7 → A8 → A9 → A10 → A11 → A12 → A13 → A14 → A15 → A16 → A17 → A18 → A19 → A20 → A21 → A22 → Option ρ) → A1 → A2 → A3 → A4 → A5 → A6 → A7 → A8 → A9 → A10 → A11 → A12 → A13 → A14 → A15 → A16 → A17 → A18 → A19 → A20 → A21 → A22 → Option ρ} {Q : ρ → Prop} (I : Nat → A1 → A2 → A3 → A4 → A5 → A6 → A7 → A8 → A9 → A10 → A11 → A12 → A13 → A14 → A15 → A16 → A17 → A18 → A19 → A20 → A21 → A22 → Prop) (h : ∀ k m a1 a2 a3 a4 a5 a6 a7 a8 a9 a10 a11 a12 a13 a14 a15 a16 a17 a18 a19 a20 a21 a22, I m a1 a2 a3 a4 a5 a6 a7 a8 a9 a10 a11 a12 a13 a14 a15 a16 a17 a18 a19 a20 a21 a22 → (∀ m' b1 b2 b3 b4 b5 b6 b7 b8 b9 b10 b11 b12 b13 b14 b15 b16 b17 b18 b19 b20 b21 b22, m' < m → I m' b1 b2 b3 b4 b5 b6 b7 b8 b9 b10 b11 b12 b13 b14 b15 b16 b17 b18 b19 b20 b21 b22 → Tt (k b1 b2 b3 b4 b5 b6 b7 b8 b9 b10 b11 b12 b13 b14 b15 b16 b17 b18 b19 b20 b21 b22) Q) → Tt (st k a1 a2 a3 a4 a5 a6 a7 a8 a9 a10 a11 a12 a13 a14 a15 a16 a17 a18 a19 a20 a21 a22) Q) : ∀ F m a1 a2 a3 a4 a5 a6 a7 a8 a9 a10 a11 a12 a13 a14 a15 a16 a17 a18 a19 a20 a21 a22, m < F → I m a1 a2 a3 a4 a5 a6 a7 a8 a9 a10 a11 a12 a13 a14 a15 a16 a17 a18 a19 a20 a21 a22 → Tt (mW22 st F a1 a2 a3 a4 a5 a6 a7 a8 a9 a10 a11 a12 a13 a14 a15 a16 a17 a18 a19 a20 a21 a22) Q := by
  intro F
  induction F with
  | zero => intro m a1 a2 a3 a4 a5 a6 a7 a8 a9 a10 a11 a12 a13 a14 a15 a16 a17 a18 a19 a20 a21 a22 hm; omega
  | succ F ih => intro m a1 a2 a3 a4 a5 a6 a7 a8 a9 a10 a11 a12 a13 a14 a15 a16 a17 a18 a19 a20 a21 a22 hm hi; exact h _ m a1 a2 a3 a4 a5 a6 a7 a8 a9 a10 a11 a12 a13 a14 a15 a16 a17 a18 a19 a20 a21 a22 hi (fun m' b1 b2 b3 b4 b5 b6 b7 b8 b9 b10 b11 b12 b13 b14 b15 b16 b17 b18 b19 b20 b21 b22 hm' hi' => ih m' b1 b2 b3 b4 b5 b6 b7 b8 b9 b10 b11 b12 b13 b14 b15 b16 b17 b18 b19 b20 b21 b22 (by omega) hi')
theorem Tt_W23 {ρ A1 A2 A3 A4 A5 A6 A7 A8 A9 A10 A11 A12 A13 A14 A15 A16 A17 A18 A19 A20 A21 A22 A23 : Type} {st : (A1 → A2 → A3 → A4 → A5 → A6 → A7 → A8 → A9 → A10 → A11 → A12 → A13 → A14 → A15 → A16 → A17 → A18 → A19 → A20 → A21 → A22 → A23 → Option ρ) → A1 → A2 → A3 → A4 → A5 → A6 → A7 → A8 → A9 → A10 → A11 → A12 → A13 → A14 → A15 → A16 → A17 → A18 → A19 → A20 → A21 → A22 → A23 → Option ρ} {Q : ρ → Prop} (I : Nat → A1 → A2 → A3 → A4 → A5 → A6 → A7 → A8 → A9 → A10 → A11 → A12 → A13 → A14 → A15 → A16 → A17 → A18 → A19 → A20 → A21 → A22 → A23 → Prop) (h : ∀ k m a1 a2 a3 a4 a5 a6 a7 a8 a9 a10 a11 a12 a13 a14 a15 a16 a17 a18 a19 a20 a21 a22 a23, I m a1 a2 a3 a4 a5 a6 a7 a8 a9 a10 a11 a12 a13 a14 a15 a16 a17 a18 a19 a20 a21 a22 a23 → (∀ m' b1 b2 b3 b4 b5 b6 b7 b8 b9 b10 b11 b12 b13 b14 b15 b16 b17 b18 b19 b20 b21 b22 b23, m' < m → I m' b1 b2 b3 b4 b5 b6 b7 b8 b9 b10 b11 b12 b13 b14 b15 b16 b17 b18 b19 b20 b21 b22 b23 → Tt (k b1 b2 b3 b4 b5 b6 b7 b8 b9 b10 b11 b12 b13 b14 b15 b16 b17 b18 b19 b20 b21 b22 b23) Q) → Tt (st k a1 a2 a3 a4 a5 a6 a7 a8 a9 a10 a11 a12 a13 a14 a15 a16 a17 a18 a19 a20 a21 a22 a23) Q) : ∀ F m a1 a2 a3 a4 a5 a6 a7 a8 a9 a10 a11 a12 a13 a14 a15 a16 a17 a18 a19 a20 a21 a22 a23, m < F → I m a1 a2 a3 a4 a5 a6 a7 a8 a9 a10 a11 a12 a13 a14 a15 a16 a17 a18 a19 a20 a21 a22 a23 → Tt (mW23 st F a1 a2 a3 a4 a5 a6 a7 a8 a9 a10 a11 a12 a13 a14 a15 a16 a17 a18 a19 a20 a21 a22 a23) Q := by
  intro F
  induction F with
  | zero => intro m a1 a2 a3 a4 a5 a6 a7 a8 a9 a10 a11 a12 a13 a14 a15 a16 a17 a18 a19 a20 a21 a22 a23 hm; omega
  | succ F ih => intro m a1 a2 a3 a4 a5 a6 a7 a8 a9 a10 a11 a12 a13 a14 a15 a16 a17 a18 a19 a20 a21 a22 a23 hm hi; exact h _ m a1 a2 a3 a4 a5 a6 a7 a8 a9 a10 a11 a12 a13 a14 a15 a16 a17 a18 a19 a20 a21 a22 a23 hi (fun m' b1 b2 b3 b4 b5 b6 b7 b8 b9 b10 b11 b12 b13 b14 b15 b16 b17 b18 b19 b20 b21 b22 b23 hm' hi' => ih m' b1 b2 b3 b4 b5 b6 b7 b8 b9 b10 b11 b12 b13 b14 b15 b16 b17 b18 b19 b20 b21 b22 b23 (by omega) hi')
theorem Tt_W26 {ρ A1 A2 A3 A4 A5 A6 A7 A8 A9 A10 A11 A12 A13 A14 A15 A16 A17 A18 A19 A20 A21 A22 A23 A24 A25 A26 : Type} {st : (A1 → A2 → A3 → A4 → A5 → A6 → A7 → A8 → A9 → A10 → A11 → A12 → A13 → A14 → A15 → A16 → A17 → A18 → A19 → A20 → A21 → A22 → A23 → A24 → A25 → A26 → Option ρ) → A1 → A2 → A3 → A4 → A5 → A6 → A7 → A8 → A9 → A10 → A11 → A12 → A13 → A14 → A15 → A16 → A17 → A18 → A19 → A20 → A21 → A22 → A23 → A24 → A25 → A26 → Option ρ} {Q : ρ → Prop} (I : Nat → A1 → A2 → A3 → A4 → A5 → A6 → A7 → A8 → A9 → A10 → A11 → A12 → A13 → A14 → A15 → A16 → A17 → A18 → A19 → A20 → A21 → A22 → A23 → A24 → A25 → A26 → Prop) (h : ∀ k m a1 a2 a3 a4 a5 a6 a7 a8 a9 a10 a11 a12 a13 a14 a15 a16 a17 a18 a19 a20 a21 a22 a23 a24 a25 a26, I m a1 a2 a3 a4 a5 a6 a7 a8 a9 a10 a11 a12 a13 a14 a15 a16 a17 a18 a19 a20 a21 a22 a23 a24 a25 a26 → (∀ m' b1 b2 b3 b4 b5 b6 b7 b8 b9 b10 b11 b12 b13 b14 b15 b16 b17 b18 b19 b20 b21 b22 b23 b24 b25 b26, m' < m → I m' b1 b2 b3 b4 b5 b6 b7 b8 b9 b10 b11 b12 b13 b14 b15 b16 b17 b18 b19 b20 b21 b22 b23 b24 b25 b26 → Tt (k b1 b2 b3 b4 b5 b6 b7 b8 b9 b10 b11 b12 b13 b14 b15 b16 b17 b18 b19 b20 b21 b22 b23 b24 b25 b26) Q) → Tt (st k a1 a2 a3 a4 a5 a6 a7 a8 a9 a10 a11 a12 a13 a14 a15 a16 a17 a18 a19 a20 a21 a22 a23 a24 a25 a26) Q) : ∀ F m a1 a2 a3 a4 a5 a6 a7 a8 a9 a10 a11 a12 a13 a14 a15 a16 a17 a18 a19 a20 a21 a22 a23 a24 a25 a26, m < F → I m a1 a2 a3 a4 a5 a6 a7 a8 a9 a10 a11 a12 a13 a14 a15 a16 a17 a18 a19 a20 a21 a22 a23 a24 a25 a26 → Tt (mW26 st F a1 a2 a3 a4 a5 a6 a7 a8 a9 a10 a11 a12 a13 a14 a15 a16 a17 a18 a19 a20 a21 a22 a23 a24 a25 a26) Q := by
  intro F
  induction F with
  | zero => intro m a1 a2 a3 a4 a5 a6 a7 a8 a9 a10 a11 a12 a13 a14 a15 a16 a17 a18 a19 a20 a21 a22 a23 a24 a25 a26 hm; omega
  | succ F ih => intro m a1 a2 a3 a4 a5 a6 a7 a8 a9 a10 a11 a12 a13 a14 a15 a16 a17 a18 a19 a20 a21 a22 a23 a24 a25 a26 hm hi; exact h _ m a1 a2 a3 a4 a5 a6 a7 a8 a9 a10 a11 a12 a13 a14 a15 a16 a17 a18 a19 a20 a21 a22 a23 a24 a25 a26 hi (fun m' b1 b2 b3 b4 b5 b6 b7 b8 b9 b10 b11 b12 b13 b14 b15 b16 b17 b18 b19 b20 b21 b22 b23 b24 b25 b26 hm' hi' => ih m' b1 b2 b3 b4 b5 b6 b7 b8 b9 b10 b11 b12 b13 b14 b15 b16 b17 b18 b19 b20 b21 b22 b23 b24 b25 b26 (by omega) hi')
theorem Tt_W27 {ρ A1 A2 A3 A4 A5 A6 A7 A8 A9 A10 A11 A12 A13 A14 A15 A16 A17 A18 A19 A20 A21 A22 A23 A24 A25 A26 A27 : Type} {st : (A1 → A2 → A3 → A4 → A5 → A6 → A7 → A8 → A9 → A10 → A11 → A12 → A13 → A14 → A15 → A16 → A17 → A18 → A19 → A20 → A21 → A22 → A23 → A24 → A25 → A26 → A27 → Option ρ) → A1 → A2 → A3 → A4 → A5 → A6 → A7 → A8 → A9 → A10 → A11 → A12 → A13 → A14 → A15 → A16 → A17 → A18 → A19 → A20 → A21 → A22 → A23 → A24 → A25 → A26 → A27 → Option ρ} {Q : ρ → Prop} (I : Nat → A1 → A2 → A3 → A4 → A5 → A6 → A7 → A8 → A9 → A10 → A11 → A12 → A13 → A14 → A15 → A16 → A17 → A18 → A19 → A20 → A21 → A22 → A23 → A24 → A25 → A26 → A27 → Prop) (h : ∀ k m a1 a2 a3 a4 a5 a6 a7 a8 a9 a10 a11 a12 a13 a14 a15 a16 a17 a18 a19 a20 a21 a22 a23 a24 a25 a26 a27, I m a1 a2 a3 a4 a5 a6 a7 a8 a9 a10 a11 a12 a13 a14 a15 a16 a17 a18 a19 a20 a21 a22 a23 a24 a25 a26 a27 → (∀ m' b1 b2 b3 b4 b5 b6 b7 b8 b9 b10 b11 b12 b13 b14 b15 b16 b17 b18 b19 b20 b21 b22 b23 b24 b25 b26 b27, m' < m → I m' b1 b2 b3 b4 b5 b6 b7 b8 b9 b10 b11 b12 b13 b14 b15 b16 b17 b18 b19 b20 b21 b22 b23 b24 b25 b26 b27 → Tt (k b1 b2 b3 b4 b5 b6 b7 b8 b9 b10 b11 b12 b13 b14 b15 b16 b17 b18 b19 b20 b21 b22 b23 b24 b25 b26 b27) Q) → Tt (st k a1 a2 a3 a4 a5 a6 a7 a8 a9 a10 a11 a12 a13 a14 a15 a16 a17 a18 a19 a20 a21 a22 a23 a24 a25 a26 a27) Q) : ∀ F m a1 a2 a3 a4 a5 a6 a7 a8 a9 a10 a11 a12 a13 a14 a15 a16 a17 a18 a19 a20 a21 a22 a23 a24 a25 a26 a27, m < F → I m a1 a2 a3 a4 a5 a6 a7 a8 a9 a10 a11 a12 a13 a14 a15 a16 a17 a18 a19 a20 a21 a22 a23 a24 a25 a26 a27 → Tt (mW27 st F a1 a2 a3 a4 a5 a6 a7 a8 a9 a10 a11 a12 a13 a14 a15 a16 a17 a18 a19 a20 a21 a22 a23 a24 a25 a26 a27) Q := by
  intro F
  induction F with
  | zero => intro m a1 a2 a3 a4 a5 a6 a7 a8 a9 a10 a11 a12 a13 a14 a15 a16 a17 a18 a19 a20 a21 a22 a23 a24 a25 a26 a27 hm; omega
  | succ F ih => intro m a1 a2 a3 a4 a5 a6 a7 a8 a9 a10 a11 a12 a13 a14 a15 a16 a17 a18 a19 a20 a21 a22 a23 a24 a25 a26 a27 hm hi; exact h _ m a1 a2 a3 a4 a5 a6 a7 a8 a9 a10 a11 a12 a13 a14 a15 a16 a17 a18 a19 a20 a21 a22 a23 a24 a25 a26 a27 hi (fun m' b1 b2 b3 b4 b5 b6 b7 b8 b9 b10 b11 b12 b13 b14 b15 b16 b17 b18 b19 b20 b21 b22 b23 b24 b25 b26 b27 hm' hi' => ih m' b1 b2 b3 b4 b5 b6 b7 b8 b9 b10 b11 b12 b13 b14 b15 b16 b17 b18 b19 b20 b21 b22 b23 b24 b25 b26 b27 (by omega) hi')
theorem Tt_W35 {ρ A1 A2 A3 A4 A5 A6 A7 A8 A9 A10 A11 A12 A13 A14 A15 A16 A17 A18 A19 A20 A21 A22 A23 A24 A25 A26 A27 A28 A29 A30 A31 A32 A33 A34 A35 : Type} {st : (A1 → A2 → A3 → A4 → A5 → A6 → A7 → A8 → A9 → A10 → A11 → A12 → A13 → A14 → A15 → A16 → A17 → A18 → A19 → A20 → A21 → A22 → A23 → A24 → A25 → A26 → A27 → A28 → A29 → A30 → A31 → A32 → A33 → A34 → A35 → Option ρ) → A1 → A2 → A3 → A4 → A5 → A6 → A7 → A8 → A9 → A10 → A11 → A12 → A13 → A14 → A15 → A16 → A17 → A18 → A19 → A20 → A21 → A22 → A23 → A24 → A25 → A26 → A27 → A28 → A29 → A30 → A31 → A32 → A33 → A34 → A35 → Option ρ} {Q : ρ → Prop} (I : Nat → A1 → A2 → A3 → A4 → A5 → A6 → A7 → A8 → A9 → A10 → A11 → A12 → A13 → A14 → A15 → A16 → A17 → A18 → A19 → A20 → A21 → A22 → A23 → A24 → A25 → A26 → A27 → A28 → A29 → A30 → A31 → A32 → A33 → A34 → A35 → Prop) (h : ∀ k m a1 a2 a3 a4 a5 a6 a7 a8 a9 a10 a11 a12 a13 a14 a15 a16 a17 a18 a19 a20 a21 a22 a23 a24 a25 a26 a27 a28 a29 a30 a31 a32 a33 a34 a35, I m a1 a2 a3 a4 a5 a6 a7 a8 a9 a10 a11 a12 a13 a14 a15 a16 a17 a18 a19 a20 a21 a22 a23 a24 a25 a26 a27 a28 a29 a30 a31 a32 a33 a34 a35 → (∀ m' b1 b2 b3 b4 b5 b6 b7 b8 b9 b10 b11 b12 b13 b14 b15 b16 b17 b18 b19 b20 b21 b22 b23 b24 b25 b26 b27 b28 b29 b30 b31 b32 b33 b34 b35, m' < m → I m' b1 b2 b3 b4 b5 b6 b7 b8 b9 b10 b11 b12 b13 b14 b15 b16 b17 b18 b19 b20 b21 b22 b23 b24 b25 b26 b27 b28 b29 b30 b31 b32 b33 b34 b35 → Tt (k b1 b2 b3 b4 b5 b6 b7 b8 b9 b10 b11 b12 b13 b14 b15 b16 b17 b18 b19 b20 b21 b22 b23 b24 b25 b26 b27 b28 b29 b30 b31 b32 b33 b34 b35) Q) → Tt (st k a1 a2 a3 a4 a5 a6 a7 a8 a9 a10 a11 a12 a13 a14 a15 a16 a17 a18 a19 a20 a21 a22 a23 a24 a25 a26 a27 a28 a29 a30 a31 a32 a33 a34 a35) Q) : ∀ F m a1 a2 a3 a4 a5 a6 a7 a8 a9 a10 a11 a12 a13 a14 a15 a16 a17 a18 a19 a20 a21 a22 a23 a24 a25 a26 a27 a28 a29 a30 a31 a32 a33 a34 a35, m < F → I m a1 a2 a3 a4 a5 a6 a7 a8 a9 a10 a11 a12 a13 a14 a15 a16 a17 a18 a19 a20 a21 a22 a23 a24 a25 a26 a27 a28 a29 a30 a31 a32 a33 a34 a35 → Tt (mW35 st F a1 a2 a3 a4 a5 a6 a7 a8 a9 a10 a11 a12 a13 a14 a15 a16 a17 a18 a19 a20 a21 a22 a23 a24 a25 a26 a27 a28 a29 a30 a31 a32 a33 a34 a35) Q := by
  intro F
  induction F with
  | zero => intro m a1 a2 a3 a4 a5 a6 a7 a8 a9 a10 a11 a12 a13 a14 a15 a16 a17 a18 a19 a20 a21 a22 a23 a24 a25 a26 a27 a28 a29 a30 a31 a32 a33 a34 a35 hm; omega
  | succ F ih => intro m a1 a2 a3 a4 a5 a6 a7 a8 a9 a10 a11 a12 a13 a14 a15 a16 a17 a18 a19 a20 a21 a22 a23 a24 a25 a26 a27 a28 a29 a30 a31 a32 a33 a34 a35 hm hi; exact h _ m a1 a2 a3 a4 a5 a6 a7 a8 a9 a10 a11 a12 a13 a14 a15 a16 a17 a18 a19 a20 a21 a22 a23 a24 a25 a26 a27 a28 a29 a30 a31 a32 a33 a34 a35 hi (fun m' b1 b2 b3 b4 b5 b6 b7 b8 b9 b10 b11 b12 b13 b14 b15 b16 b17 b18 b19 b20 b21 b22 b23 b24 b25 b26 b27 b28 b29 b30 b31 b32 b33 b34 b35 hm' hi' => ih m' b1 b2 b3 b4 b5 b6 b7 b8 b9 b10 b11 b12 b13 b14 b15 b16 b17 b18 b19 b20 b21 b22 b23 b24 b25 b26 b27 b28 b29 b30 b31 b32 b33 b34 b35 (by omega) hi')
theorem Tt_W36 {ρ A1 A2 A3 A4 A5 A6 A7 A8 A9 A10 A11 A12 A13 A14 A15 A16 A17 A18 A19 A20 A21 A22 A23 A24 A25 A26 A27 A28 A29 A30 A31 A32 A33 A34 A35 A36 : Type} {st : (A1 → A2 → A3 → A4 → A5 → A6 → A7 → A8 → A9 → A10 → A11 → A12 → A13 → A14 → A15 → A16 → A17 → A18 → A19 → A20 → A21 → A22 → A23 → A24 → A25 → A26 → A27 → A28 → A29 → A30 → A31 → A32 → A33 → A34 → A35 → A36 → Option ρ) → A1 → A2 → A3 → A4 → A5 → A6 → A7 → A8 → A9 → A10 → A11 → A12 → A13 → A14 → A15 → A16 → A17 → A18 → A19 → A20 → A21 → A22 → A23 → A24 → A25 → A26 → A27 → A28 → A29 → A30 → A31 → A32 → A33 → A34 → A35 → A36 → Option ρ} {Q : ρ → Prop} (I : Nat → A1 → A2 → A3 → A4 → A5 → A6 → A7 → A8 → A9 → A10 → A11 → A12 → A13 → A14 → A15 → A16 → A17 → A18 → A19 → A20 → A21 → A22 → A23 → A24 → A25 → A26 → A27 → A28 → A29 → A30 → A31 → A32 → A33 → A34 → A35 → A36 → Prop) (h : ∀ k m a1 a2 a3 a4 a5 a6 a7 a8 a9 a10 a11 a12 a13 a14 a15 a16 a17 a18 a19 a20 a21 a22 a23 a24 a25 a26 a27 a28 a29 a30 a31 a32 a33 a34 a35 a36, I m a1 a2 a3 a4 a5 a6 a7 a8 a9 a10 a11 a12 a13 a14 a15 a16 a17 a18 a19 a20 a21 a22 a23 a24 a25 a26 a27 a28 a29 a30 a31 a32 a33 a34 a35 a36 → (∀ m' b1 b2 b3 b4 b5 b6 b7 b8 b9 b10 b11 b12 b13 b14 b15 b16 b17 b18 b19 b20 b21 b22 b23 b24 b25 b26 b27 b28 b29 b30 b31 b32 b33 b34 b35 b36, m' < m → I m' b1 b2 b3 b4 b5 b6 b7 b8 b9 b10 b11 b12 b13 b14 b15 b16 b17 b18 b19 b20 b21 b22 b23 b24 b25 b26 b27 b28 b29 b30 b31 b32 b33 b34 b35 b36 → Tt (k b1 b2 b3 b4 b5 b6 b7 b8 b9 b10 b11 b12 b13 b14 b15 b16 b17 b18 b19 b20 b21 b22 b23 b24 b25 b26 b27 b28 b29 b30 b31 b32 b33 b34 b35 b36) Q) → Tt (st k a1 a2 a3 a4 a5 a6 a7 a8 a9 a10 a11 a12 a13 a14 a15 a16 a17 a18 a19 a20 a21 a22 a23 a24 a25 a26 a27 a28 a29 a30 a31 a32 a33 a34 a35 a36) Q) : ∀ F m a1 a2 a3 a4 a5 a6 a7 a8 a9 a10 a11 a12 a13 a14 a15 a16 a17 a18 a19 a20 a21 a22 a23 a24 a25 a26 a27 a28 a29 a30 a31 a32 a33 a34 a35 a36, m < F → I m a1 a2 a3 a4 a5 a6 a7 a8 a9 a10 a11 a12 a13 a14 a15 a16 a17 a18 a19 a20 a21 a22 a23 a24 a25 a26 a27 a28 a29 a30 a31 a32 a33 a34 a35 a36 → Tt (mW36 st F a1 a2 a3 a4 a5 a6 a7 a8 a9 a10 a11 a12 a13 a14 a15 a16 a17 a18 a19 a20 a21 a22 a23 a24 a25 a26 a27 a28 a29 a30 a31 a32 a33 a34 a35 a36) Q := by
  intro F
  induction F with
  | zero => intro m a1 a2 a3 a4 a5 a6 a7 a8 a9 a10 a11 a12 a13 a14 a15 a16 a17 a18 a19 a20 a21 a22 a23 a24 a25 a26 a27 a28 a29 a30 a31 a32 a33 a34 a35 a36 hm; omega
  | succ F ih => intro m a1 a2 a3 a4 a5 a6 a7 a8 a9 a10 a11 a12 a13 a14 a15 a16 a17 a18 a19 a20 a21 a22 a23 a24 a25 a26 a27 a28 a29 a30 a31 a32 a33 a34 a35 a36 hm hi; exact h _ m a1 a2 a3 a4 a5 a6 a7 a8 a9 a10 a11 a12 a13 a14 a15 a16 a17 a18 a19 a20 a21 a22 a23 a24 a25 a26 a27 a28 a29 a30 a31 a32 a33 a34 a35 a36 hi (fun m' b1 b2 b3 b4 b5 b6 b7 b8 b9 b10 b11 b12 b13 b14 b15 b16 b17 b18 b19 b20 b21 b22 b23 b24 b25 b26 b27 b28 b29 b30 b31 b32 b33 b34 b35 b36 hm' hi' => ih m' b1 b2 b3 b4 b5 b6 b7 b8 b9 b10 b11 b12 b13 b14 b15 b16 b17 b18 b19 b20 b21 b22 b23 b24 b25 b26 b27 b28 b29 b30 b31 b32 b33 b34 b35 b36 (by omega) hi')
theorem Tt_W40 {ρ A1 A2 A3 A4 A5 A6 A7 A8 A9 A10 A11 A12 A13 A14 A15 A16 A17 A18 A19 A20 A21 A22 A23 A24 A25 A26 A27 A28 A29 A30 A31 A32 A33 A34 A35 A36 A37 A38 A39 A40 : Type} {st : (A1 → A2 → A3 → A4 → A5 → A6 → A7 → A8 → A9 → A10 → A11 → A12 → A13 → A14 → A15 → A16 → A17 → A18 → A19 → A20 → A21 → A22 → A23 → A24 → A25 → A26 → A27 → A28 → A29 → A30 → A31 → A32 → A33 → A34 → A35 → A36 → A37 → A38 → A39 → A40 → Option ρ) → A1 → A2 → A3 → A4 → A5 → A6 → A7 → A8 → A9 → A10 → A11 → A12 → A13 → A14 → A15 → A16 → A17 → A18 → A19 → A20 → A21 → A22 → A23 → A24 → A25 → A26 → A27 → A28 → A29 → A30 → A31 → A32 → A33 → A34 → A35 → A36 → A37 → A38 → A39 → A40 → Option ρ} {Q : ρ → Prop} (I : Nat → A1 → A2 → A3 → A4 → A5 → A6 → A7 → A8 → A9 → A10 → A11 → A12 → A13 → A14 → A15 → A16 → A17 → A18 → A19 → A20 → A21 → A22 → A23 → A24 → A25 → A26 → A27 → A28 → A29 → A30 → A31 → A32 → A33 → A34 → A35 → A36 → A37 → A38 → A39 → A40 → Prop) (h : ∀ k m a1 a2 a3 a4 a5 a6 a7 a8 a9 a10 a11 a12 a13 a14 a15 a16 a17 a18 a19 a20 a21 a22 a23 a24 a25 a26 a27 a28 a29 a30 a31 a32 a33 a34 a35 a36 a37 a38 a39 a40, I m a1 a2 a3 a4 a5 a6 a7 a8 a9 a10 a11 a12 a13 a14 a15 a16 a17 a18 a19 a20 a21 a22 a23 a24 a25 a26 a27 a28 a29 a30 a31 a32 a33 a34 a35 a36 a37 a38 a39 a40 → (∀ m' b1 b2 b3 b4 b5 b6 b7 b8 b9 b10 b11 b12 b13 b14 b15 b16 b17 b18 b19 b20 b21 b22 b23 b24 b25 b26 b27 b28 b29 b30 b31 b32 b33 b34 b35 b36 b37 b38 b39 b40, m' < m → I m' b1 b2 b3 b4 b5 b6 b7 b8 b9 b10 b11 b12 b13 b14 b15 b16 b17 b18 b19 b20 b21 b22 b23 b24 b25 b26 b27 b28 b29 b30 b31 b32 b33 b34 b35 b36 b37 b38 b39 b40 → Tt (k b1 b2 b3 b4 b5 b6 b7 b8 b9 b10 b11 b12 b13 b14 b15 b16 b17 b18 b19 b20 b21 b22 b23 b24 b25 b26 b27 b28 b29 b30 b31 b32 b33 b34 b35 b36 b37 b38 b39 b40) Q) → Tt (st k a1 a2 a3 a4 a5 a6 a7 a8 a9 a10 a11 a12 a13 a14 a15 a16 a17 a18 a19 a20 a21 a22 a23 a24 a25 a26 a27 a28 a29 a30 a31 a32 a33 a34 a35 a36 a37 a38 a39 a40) Q) : ∀ F m a1 a2 a3 a4 a5 a6 a7 a8 a9 a10 a11 a12 a13 a14 a15 a16 a17 a18 a19 a20 a21 a22 a23 a24 a25 a26 a27 a28 a29 a30 a31 a32 a33 a34 a35 a36 a37 a38 a39 a40, m < F → I m a1 a2 a3 a4 a5 a6 a7 a8 a9 a10 a11 a12 a13 a14 a15 a16 a17 a18 a19 a20 a21 a22 a23 a24 a25 a26 a27 a28 a29 a30 a31 a32 a33 a34 a35 a36 a37 a38 a39 a40 → Tt (mW40 st F a1 a2 a3 a4 a5 a6 a7 a8 a9 a10 a11 a12 a13 a14 a15 a16 a17 a18 a19 a20 a21 a22 a23 a24 a25 a26 a27 a28 a29 a30 a31 a32 a33 a34 a35 a36 a37 a38 a39 a40) Q := by
  intro F
  induction F with
  | zero => intro m a1 a2 a3 a4 a5 a6 a7 a8 a9 a10 a11 a12 a13 a14 a15 a16 a17 a18 a19 a20 a21 a22 a23 a24 a25 a26 a27 a28 a29 a30 a31 a32 a33 a34 a35 a36 a37 a38 a39 a40 hm; omega
  | succ F ih => intro m a1 a2 a3 a4 a5 a6 a7 a8 a9 a10 a11 a12 a13 a14 a15 a16 a17 a18 a19 a20 a21 a22 a23 a24 a25 a26 a27 a28 a29 a30 a31 a32 a33 a34 a35 a36 a37 a38 a39 a40 hm hi; exact h _ m a1 a2 a3 a4 a5 a6 a7 a8 a9 a10 a11 a12 a13 a14 a15 a16 a17 a18 a19 a20 a21 a22 a23 a24 a25 a26 a27 a28 a29 a30 a31 a32 a33 a34 a35 a36 a37 a38 a39 a40 hi (fun m' b1 b2 b3 b4 b5 b6 b7 b8 b9 b10 b11 b12 b13 b14 b15 b16 b17 b18 b19 b20 b21 b22 b23 b24 b25 b26 b27 b28 b29 b30 b31 b32 b33 b34 b35 b36 b37 b38 b39 b40 hm' hi' => ih m' b1 b2 b3 b4 b5 b6 b7 b8 b9 b10 b11 b12 b13 b14 b15 b16 b17 b18 b19 b20 b21 b22 b23 b24 b25 b26 b27 b28 b29 b30 b31 b32 b33 b34 b35 b36 b37 b38 b39 b40 (by omega) hi')
theorem Tt_W41 {ρ A1 A2 A3 A4 A5 A6 A7 A8 A9 A10 A11 A12 A13 A14 A15 A16 A17 A18 A19 A20 A21 A22 A23 A24 A25 A26 A27 A28 A29 A30 A31 A32 A33 A34 A35 A36 A37 A38 A39 A40 A41 : Type} {st : (A1 → A2 → A3 → A4 → A5 → A6 → A7 → A8 → A9 → A10 → A11 → A12 → A13 → A14 → A15 → A16 → A17 → A18 → A19 → A20 → A21 → A22 → A23 → A24 → A25 → A26 → A27 → A28 → A29 → A30 → A31 → A32 → A33 → A34 → A35 → A36 → A37 → A38 → A39 → A40 → A41 → Option ρ) → A1 → A2 → A3 → A4 → A5 → A6 → A7 → A8 → A9 → A10 → A11 → A12 → A13 → A14 → A15 → A16 → A17 → A18 → A19 → A20 → A21 → A22 → A23 → A24 → A25 → A26 → A27 → A28 → A29 → A30 → A31 → A32 → A33 → A34 → A35 → A36 → A37 → A38 → A39 → A40 → A41 → Option ρ} {Q : ρ → Prop} (I : Nat → A1 → A2 → A3 → A4 → A5 → A6 → A7 → A8 → A9 → A10 → A11 → A12 → A13 → A14 → A15 → A16 → A17 → A18 → A19 → A20 → A21 → A22 → A23 → A24 → A25 → A26 → A27 → A28 → A29 → A30 → A31 → A32 → A33 → A34 → A35 → A36 → A37 → A38 → A39 → A40 → A41 → Prop) (h : ∀ k m a1 a2 a3 a4 a5 a6 a7 a8 a9 a10 a11 a12 a13 a14 a15 a16 a17 a18 a19 a20 a21 a22 a23 a24 a25 a26 a27 a28 a29 a30 a31 a32 a33 a34 a35 a36 a37 a38 a39 a40 a41, I m a1 a2 a3 a4 a5 a6 a7 a8 a9 a10 a11 a12 a13 a14 a15 a16 a17 a18 a19 a20 a21 a22 a23 a24 a25 a26 a27 a28 a29 a30 a31 a32 a33 a34 a35 a36 a37 a38 a39 a40 a41 → (∀ m' b1 b2 b3 b4 b5 b6 b7 b8 b9 b10 b11 b12 b13 b14 b15 b16 b17 b18 b19 b20 b21 b22 b23 b24 b25 b26 b27 b28 b29 b30 b31 b32 b33 b34 b35 b36 b37 b38 b39 b40 b41, m' < m → I m' b1 b2 b3 b4 b5 b6 b7 b8 b9 b10 b11 b12 b13 b14 b15 b16 b17 b18 b19 b20 b21 b22 b23 b24 b25 b26 b27 b28 b29 b30 b31 b32 b33 b34 b35 b36 b37 b38 b39 b40 b41 → Tt (k b1 b2 b3 b4 b5 b6 b7 b8 b9 b10 b11 b12 b13 b14 b15 b16 b17 b18 b19 b20 b21 b22 b23 b24 b25 b26 b27 b28 b29 b30 b31 b32 b33 b34 b35 b36 b37 b38 b39 b40 b41) Q) → Tt (st k a1 a2 a3 a4 a5 a6 a7 a8 a9 a10 a11 a12 a13 a14 a15 a16 a17 a18 a19 a20 a21 a22 a23 a24 a25 a26 a27 a28 a29 a30 a31 a32 a33 a34 a35 a36 a37 a38 a39 a40 a41) Q) : ∀ F m a1 a2 a3 a4 a5 a6 a7 a8 a9 a10 a11 a12 a13 a14 a15 a16 a17 a18 a19 a20 a21 a22 a23 a24 a25 a26 a27 a28 a29 a30 a31 a32 a33 a34 a35 a36 a37 a38 a39 a40 a41, m < F → I m a1 a2 a3 a4 a5 a6 a7 a8 a9 a10 a11 a12 a13 a14 a15 a16 a17 a18 a19 a20 a21 a22 a23 a24 a25 a26 a27 a28 a29 a30 a31 a32 a33 a34 a35 a36 a37 a38 a39 a40 a41 → Tt (mW41 st F a1 a2 a3 a4 a5 a6 a7 a8 a9 a10 a11 a12 a13 a14 a15 a16 a17 a18 a19 a20 a21 a22 a23 a24 a25 a26 a27 a28 a29 a30 a31 a32 a33 a34 a35 a36 a37 a38 a39 a40 a41) Q := by
  intro F
  induction F with
  | zero => intro m a1 a2 a3 a4 a5 a6 a7 a8 a9 a10 a11 a12 a13 a14 a15 a16 a17 a18 a19 a20 a21 a22 a23 a24 a25 a26 a27 a28 a29 a30 a31 a32 a33 a34 a35 a36 a37 a38 a39 a40 a41 hm; omega
  | succ F ih => intro m a1 a2 a3 a4 a5 a6 a7 a8 a9 a10 a11 a12 a13 a14 a15 a16 a17 a18 a19 a20 a21 a22 a23 a24 a25 a26 a27 a28 a29 a30 a31 a32 a33 a34 a35 a36 a37 a38 a39 a40 a41 hm hi; exact h _ m a1 a2 a3 a4 a5 a6 a7 a8 a9 a10 a11 a12 a13 a14 a15 a16 a17 a18 a19 a20 a21 a22 a23 a24 a25 a26 a27 a28 a29 a30 a31 a32 a33 a34 a35 a36 a37 a38 a39 a40 a41 hi (fun m' b1 b2 b3 b4 b5 b6 b7 b8 b9 b10 b11 b12 b13 b14 b15 b16 b17 b18 b19 b20 b21 b22 b23 b24 b25 b26 b27 b28 b29 b30 b31 b32 b33 b34 b35 b36 b37 b38 b39 b40 b41 hm' hi' => ih m' b1 b2 b3 b4 b5 b6 b7 b8 b9 b10 b11 b12 b13 b14 b15 b16 b17 b18 b19 b20 b21 b22 b23 b24 b25 b26 b27 b28 b29 b30 b31 b32 b33 b34 b35 b36 b37 b38 b39 b40 b41 (by omega) hi')
theorem i_0 : (0 : Int32) = nI 0 := by decide +kernel
theorem i_1 : (1 : Int32) = nI 1 := by decide +kernel
theorem i_2 : (2 : Int32) = nI 2 := by decide +kernel
theorem i_3 : (3 : Int32) = nI 3 := by decide +kernel
theorem i_4 : (4 : Int32) = nI 4 := by decide +kernel
theorem i_5 : (5 : Int32) = nI 5 := by decide +kernel
theorem i_6 : (6 : Int32) = nI 6 := by decide +kernel
theorem i_7 : (7 : Int32) = nI 7 := by decide +kernel
theorem i_8 : (8 : Int32) = nI 8 := by decide +kernel
theorem i_9 : (9 : Int32) = nI 9 := by decide +kernel
theorem i_10 : (10 : Int32) = nI 10 := by decide +kernel
theorem i_11 : (11 : Int32) = nI 11 := by decide +kernel
theorem i_13 : (13 : Int32) = nI 13 := by decide +kernel
theorem i_14 : (14 : Int32) = nI 14 := by decide +kernel
theorem i_15 : (15 : Int32) = nI 15 := by decide +kernel
theorem i_16 : (16 : Int32) = nI 16 := by decide +kernel
theorem i_17 : (17 : Int32) = nI 17 := by decide +kernel
theorem i_18 : (18 : Int32) = nI 18 := by decide +kernel
theorem i_19 : (19 : Int32) = nI 19 := by decide +kernel
theorem i_24 : (24 : Int32) = nI 24 := by decide +kernel
theorem i_29 : (29 : Int32) = nI 29 := by decide +kernel
theorem i_30 : (30 : Int32) = nI 30 := by decide +kernel
theorem i_31 : (31 : Int32) = nI 31 := by decide +kernel
theorem i_32 : (32 : Int32) = nI 32 := by decide +kernel
theorem i_138 : (138 : Int32) = nI 138 := by decide +kernel
theorem i_143 : (143 : Int32) = nI 143 := by decide +kernel
theorem i_144 : (144 : Int32) = nI 144 := by decide +kernel
theorem i_254 : (254 : Int32) = nI 254 := by decide +kernel
theorem i_255 : (255 : Int32) = nI 255 := by decide +kernel
theorem i_256 : (256 : Int32) = nI 256 := by decide +kernel
theorem i_257 : (257 : Int32) = nI 257 := by decide +kernel
theorem i_258 : (258 : Int32) = nI 258 := by decide +kernel
theorem i_261 : (261 : Int32) = nI 261 := by decide +kernel
theorem i_264 : (264 : Int32) = nI 264 := by decide +kernel
theorem i_265 : (265 : Int32) = nI 265 := by decide +kernel
theorem i_279 : (279 : Int32) = nI 279 := by decide +kernel
theorem i_280 : (280 : Int32) = nI 280 := by decide +kernel
theorem i_284 : (284 : Int32) = nI 284 := by decide +kernel
theorem i_285 : (285 : Int32) = nI 285 := by decide +kernel
theorem i_286 : (286 : Int32) = nI 286 := by decide +kernel
theorem i_288 : (288 : Int32) = nI 288 := by decide +kernel
theorem i_319 : (319 : Int32) = nI 319 := by decide +kernel
theorem i_320 : (320 : Int32) = nI 320 := by decide +kernel
theorem i_338 : (338 : Int32) = nI 338 := by decide +kernel
theorem i_339 : (339 : Int32) = nI 339 := by decide +kernel
theorem i_575 : (575 : Int32) = nI 575 := by decide +kernel
theorem i_576 : (576 : Int32) = nI 576 := by decide +kernel
theorem i_599 : (599 : Int32) = nI 599 := by decide +kernel
theorem i_600 : (600 : Int32) = nI 600 := by decide +kernel
theorem i_4096 : (4096 : Int32) = nI 4096 := by decide +kernel
theorem i_8191 : (8191 : Int32) = nI 8191 := by decide +kernel
theorem i_8192 : (8192 : Int32) = nI 8192 := by decide +kernel
theorem i_8249 : (8249 : Int32) = nI 8249 := by decide +kernel
theorem i_8250 : (8250 : Int32) = nI 8250 := by decide +kernel
theorem i_8256 : (8256 : Int32) = nI 8256 := by decide +kernel
theorem i_9000 : (9000 : Int32) = nI 9000 := by decide +kernel
theorem i_16384 : (16384 : Int32) = nI 16384 := by decide +kernel
theorem i_32767 : (32767 : Int32) = nI 32767 := by decide +kernel
theorem i_32768 : (32768 : Int32) = nI 32768 := by decide +kernel
theorem i_65520 : (65520 : Int32) = nI 65520 := by decide +kernel
theorem i_65521 : (65521 : Int32) = nI 65521 := by decide +kernel
theorem i_65535 : (65535 : Int32) = nI 65535 := by decide +kernel
theorem i_65536 : (65536 : Int32) = nI 65536 := by decide +kernel
theorem i_65999 : (65999 : Int32) = nI 65999 := by decide +kernel
theorem i_66000 : (66000 : Int32) = nI 66000 := by decide +kernel
theorem i_1300 : (1300 : Int32) = nI 1300 := by decide +kernel
theorem i_120 : (120 : Int32) = nI 120 := by decide +kernel
theorem i_156 : (156 : Int32) = nI 156 := by decide +kernel
theorem s_l : ∀ n, n < 32 → ((nI n &&& nI 31).toBitVec.smod 32).toNat = n := by decide +kernel
theorem s_u : ∀ n, n < 32 → (((nI n).toUInt32 &&& Int32.toUInt32 (nI 31)).toBitVec % 32).toNat = n := by decide +kernel
theorem n_shl {a k : Nat} (hk : k < 32) (h : a * 2 ^ k < 2 ^ 32) : nI a <<< (nI k &&& nI 31) = nI (a * 2 ^ k) := pk_shlN _ k (s_l k hk) h
theorem n_shr {a k : Nat} (hk : k < 32) (h : a < 2 ^ 31) : nI a >>> (nI k &&& nI 31) = nI (a / 2 ^ k) := pk_shrN h _ k (s_l k hk)
theorem n_ush {a k : Nat} (hk : k < 32) (h : a < 2 ^ 32) : ((nI a).toUInt32 >>> ((nI k).toUInt32 &&& Int32.toUInt32 (nI 31))).toInt32 = nI (a / 2 ^ k) := pk_ushrN h _ k (s_u k hk)
theorem n_and (a b : Nat) : nI a &&& nI b = nI (a &&& b) := by
  apply Int32.toBitVec_inj.1
  show BitVec.ofNat 32 a &&& BitVec.ofNat 32 b = BitVec.ofNat 32 (a &&& b)
  apply BitVec.eq_of_getLsbD_eq
  intro i hi
  simp [hi]
theorem n_or (a b : Nat) : nI a ||| nI b = nI (a ||| b) := by
  apply Int32.toBitVec_inj.1
  show BitVec.ofNat 32 a ||| BitVec.ofNat 32 b = BitVec.ofNat 32 (a ||| b)
  apply BitVec.eq_of_getLsbD_eq
  intro i hi
  simp [hi]
theorem n_ord {a b k : Nat} (h : a < 2 ^ k) : nI a ||| nI (b * 2 ^ k) = nI (a + b * 2 ^ k) := by
  rw [n_or]
  congr 1
  have := Nat.two_pow_add_eq_or_of_lt h b
  rw [Nat.mul_comm, Nat.or_comm, ← this]
  omega
theorem n_1 (a : Nat) : nI a &&& nI 1 = nI (a % 2) := by rw [n_and, Nat.and_one_is_mod]
theorem n_7 (a : Nat) : nI a &&& nI 7 = nI (a % 8) := by rw [n_and, show (7 : Nat) = 2 ^ 3 - 1 from rfl, Nat.and_two_pow_sub_one_eq_mod]
theorem n_255 (a : Nat) : nI a &&& nI 255 = nI (a % 256) := by rw [n_and, show (255 : Nat) = 2 ^ 8 - 1 from rfl, Nat.and_two_pow_sub_one_eq_mod]
theorem n_65535 (a : Nat) : nI a &&& nI 65535 = nI (a % 65536) := by rw [n_and, show (65535 : Nat) = 2 ^ 16 - 1 from rfl, Nat.and_two_pow_sub_one_eq_mod]
theorem n_32767 (a : Nat) : nI a &&& nI 32767 = nI (a % 32768) := by rw [n_and, show (32767 : Nat) = 2 ^ 15 - 1 from rfl, Nat.and_two_pow_sub_one_eq_mod]
/-- a byte as it lies in an array of bytes -/
def sx (n : Nat) : Int32 := (nI n).toInt8.toInt32
theorem sx_nar (n : Nat) : vp_nar .byte (nI n).toInt8.toInt32 = sx n := pk_vb (nI n)
theorem sx_k : ∀ n, n < 256 → sx n &&& nI 255 = nI n := sc_k8
theorem sx_small : ∀ n, n < 128 → sx n = nI n := by decide +kernel
theorem sx_inj : ∀ a, a < 256 → ∀ b, b < 256 → (sx a = sx b ↔ a = b) := by
  intro a ha b hb
  constructor
  · intro h
    have := congrArg (fun z => z &&& nI 255) h
    simp only [sx_k a ha, sx_k b hb] at this
    exact (nI_eq (by omega) (by omega)).mp this
  · intro h
    rw [h]
theorem sx_mod (n : Nat) : sx n = sx (n % 256) := by
  unfold sx
  apply congrArg Int8.toInt32
  apply Int8.toBitVec_inj.1
  show (BitVec.ofNat 32 n).signExtend 8 = (BitVec.ofNat 32 (n % 256)).signExtend 8
  apply BitVec.eq_of_getLsbD_eq
  intro i hi
  have h2 : i < 32 := by omega
  rw [BitVec.getLsbD_signExtend, BitVec.getLsbD_signExtend]
  simp only [hi, h2, if_true, BitVec.getLsbD_ofNat, decide_true, Bool.true_and]
  rw [show (256 : Nat) = 2 ^ 8 from rfl, Nat.testBit_mod_two_pow]
  simp [hi]
theorem n_neg {n : Nat} (h : n < 2 ^ 31) : (nI n < nI 0) = False := eq_false (by
  rw [nI_ltI h (by omega)]
  omega)
theorem n_pred {n : Nat} (h : 0 < n) : nI n - nI 1 = nI (n - 1) := pk_sub h
theorem n_dec {n : Nat} (h : 0 < n) : nI n + (-1) = nI (n - 1) := sb_m1 h
theorem n_dec2 {n : Nat} (h : 0 < n) : nI n + -nI 1 = nI (n - 1) := sb_m1 h
theorem n_rem (a d : Nat) : nI a - nI (a / d) * nI d = nI (a % d) := by
  rw [pk_mul, pk_sub (Nat.div_mul_le_self a d), Nat.mod_def, Nat.mul_comm]
theorem n_rem2 (a d : Nat) : nI a - nI (a / d * d) = nI (a % d) := by
  rw [← pk_mul]
  exact n_rem a d
theorem n_am1 (x : Int32) : x + -nI 1 = x - nI 1 := (Int32.sub_eq_add_neg _ _).symm
theorem q10 : ((1 : Nat) = 0) = False := eq_false (by omega)
