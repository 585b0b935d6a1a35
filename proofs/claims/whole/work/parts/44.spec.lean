def clrS : Nat → KS → KS
  | 0, τ => τ
  | n + 1, τ => sB (clrS n τ) 25 (va_up (kB (clrS n τ) 25) n false)
def chS : Nat → Option Nat → KS → KS
  | 0, _, τ => τ
  | _ + 1, none, τ => τ
  | n + 1, some k, τ => chS n (kO τ 20 k) (sB τ 25 (va_up (kB τ 25) k true))
def mkS : Nat → KS → KS
  | 0, τ => τ
  | n + 1, τ => if kB (mkS n τ) 45 n = true then chS 6 (some (kN (mkS n τ) 31 n)) (mkS n τ) else mkS n τ
def markS (σ : KS) : KS := mkS (kN σ 62 2) (clrS (kN σ 62 1) σ)
def om : Option Nat → Nat
  | none => 0
  | some k => k + 1
theorem clrS_N (n : Nat) (τ : KS) : kN (clrS n τ) = kN τ := by
  induction n with
  | zero => rfl
  | succ n ih => exact ih
theorem chS_none (n : Nat) (τ : KS) : chS n none τ = τ := by cases n <;> rfl
theorem chS_N (n : Nat) : ∀ (o : Option Nat) (τ : KS), kN (chS n o τ) = kN τ := by
  induction n with
  | zero => intro o τ; rfl
  | succ n ih =>
    intro o τ
    cases o with
    | none => rfl
    | some k => exact ih _ _
theorem mkS_N (n : Nat) (τ : KS) : kN (mkS n τ) = kN τ := by
  induction n with
  | zero => rfl
  | succ n ih =>
    rw [mkS]
    by_cases q : kB (mkS n τ) 45 n = true
    · rw [if_pos q, chS_N]; exact ih
    · rw [if_neg q]; exact ih
theorem om_par {σ : KS} {k : Nat} (hw : cWF σ) (hk : k < kN σ 62 1) : om (kO σ 20 k) ≤ k := by
  cases e : kO σ 20 k with
  | none => exact Nat.zero_le _
  | some r => exact (wf_par hw hk e).1
