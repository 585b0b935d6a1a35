def heatS (σ : KS) (i : Nat) : KS := match kO σ 12 i with
  | some _ => sI σ 11 (va_up (kI σ 11) i (kI σ 11 i + paceS (kI σ 10 i) (kI σ 11 i) (kI σ 0 0)))
  | none => sI σ 11 (va_up (kI σ 11) i (if kI σ 11 i - 3 < 0 then 0 else kI σ 11 i - 3))
