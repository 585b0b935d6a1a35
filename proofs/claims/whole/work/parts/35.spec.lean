theorem ite_or {α : Type} {p : Prop} [Decidable p] {a b c : α} (h : (if p then a else b) = c) : a = c ∨ b = c := by
  by_cases q : p
  · rw [if_pos q] at h; exact Or.inl h
  · rw [if_neg q] at h; exact Or.inr h
def urgS (σ : KS) : KS := lendAll (kN σ 62 2) (ownAll (kN σ 62 2) σ)
def muS (σ : KS) : Nat → Option Nat × Int32
  | 0 => (none, 2147483647)
  | n + 1 => if kB σ 45 n = true ∧ kI σ 44 n < (muS σ n).2 then (some n, kI σ 44 n) else muS σ n
def ltS (σ : KS) (g : Nat) : Nat → Option Nat
  | 0 => none
  | n + 1 => if kN σ 31 n = g ∧ kB σ 45 n = true ∧ (match ltS σ g n with
    | none => true
    | some b => decide (kW σ 33 n < kW σ 33 b)) = true then some n else ltS σ g n
def lgS (σ : KS) (p : Nat) : Nat → Option Nat
  | 0 => none
  | n + 1 => if kB σ 25 n = true ∧ kO σ 20 n = some p ∧ (match lgS σ p n with
    | none => true
    | some b => decide (kW σ 23 n < kW σ 23 b)) = true then some n else lgS σ p n
theorem ltS_lt {σ : KS} {g n k : Nat} (h : ltS σ g n = some k) : k < n := by
  induction n with
  | zero => cases h
  | succ n ih =>
    rw [ltS] at h
    rcases ite_or h with h | h
    · cases h; omega
    · exact Nat.lt_succ_of_lt (ih h)
theorem lgS_lt {σ : KS} {g n k : Nat} (h : lgS σ g n = some k) : k < n := by
  induction n with
  | zero => cases h
  | succ n ih =>
    rw [lgS] at h
    rcases ite_or h with h | h
    · cases h; omega
    · exact Nat.lt_succ_of_lt (ih h)
theorem muS_lt {σ : KS} {n k : Nat} (h : (muS σ n).1 = some k) : k < n := by
  induction n with
  | zero => cases h
  | succ n ih =>
    unfold muS at h
    split at h
    · cases h; omega
    · exact Nat.lt_succ_of_lt (ih h)
