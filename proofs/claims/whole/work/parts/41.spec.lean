def relS1 (τ : KS) (i : Nat) : KS := if 0 < kI τ 37 i ∧ kB τ 36 i = false ∧ kI τ 40 i = kI τ 2 0 then
    (if 0 < kI τ 34 i then sI (sI (sI τ 41 (va_up (kI τ 41) i (kI τ 41 i + 1))) 34 (va_up (kI τ 34) i (kI τ 38 i))) 40 (va_up (kI τ 40) i (kI τ 2 0 + kI τ 37 i))
     else sI (sI τ 34 (va_up (kI τ 34) i (kI τ 38 i))) 40 (va_up (kI τ 40) i (kI τ 2 0 + kI τ 37 i))) else τ
def relS : Nat → KS → KS
  | 0, τ => τ
  | n + 1, τ => relS1 (relS n τ) n
theorem relS_N (n : Nat) (τ : KS) : kN (relS n τ) = kN τ := by
  induction n with
  | zero => rfl
  | succ n ih =>
    show kN (relS1 (relS n τ) n) = kN τ
    unfold relS1
    split
    · split
      · exact ih
      · exact ih
    · exact ih
