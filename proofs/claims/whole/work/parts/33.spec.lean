/-! WHAT THE SYSTEM'S METHODS DO, AS FUNCTIONS ON THE STATES -/
def lendS (u : Int32) : Nat → Option Nat → KS → KS
  | 0, _, τ => τ
  | _ + 1, none, τ => τ
  | n + 1, some k, τ => lendS u n (hbS τ k) (sI τ 44 (va_up (kI τ 44) k (if u < kI τ 44 k then u else kI τ 44 k)))
theorem lendS_none (u : Int32) (n : Nat) (τ : KS) : lendS u n none τ = τ := by cases n <;> rfl
def weS (r : Nat) (σ : KS) : Nat → Option Nat → Bool
  | 0, _ => false
  | _ + 1, none => false
  | n + 1, some k => if k = r then true else weS r σ n (hbS σ k)
theorem weS_none (r : Nat) (σ : KS) (n : Nat) : weS r σ n none = false := by cases n <;> rfl
def passS (σ : KS) (w : Nat) : KS := if kN σ 62 (4 + w) = 0 then sO σ 50 (va_up (kO σ 50) w none) else
  sO (sO (lRem σ (4 + w) 0) 42 (va_up (kO (lRem σ (4 + w) 0) 42) ((kL σ (4 + w)).getD 0 0) none)) 50 (va_up (kO (sO (lRem σ (4 + w) 0) 42 (va_up (kO (lRem σ (4 + w) 0) 42) ((kL σ (4 + w)).getD 0 0) none)) 50) w (some ((kL σ (4 + w)).getD 0 0)))
def swS (w t : Nat) : Nat → KS → KS
  | 0, τ => τ
  | n + 1, τ => swS w t n (if (kL τ (4 + w)).getD n 0 = t then lRem τ (4 + w) n else τ)
def stopS (σ : KS) (t : Nat) : KS := match kO σ 42 t with
  | none => σ
  | some w => swS w t (kN σ 62 (4 + w)) (sO σ 42 (va_up (kO σ 42) t none))
/-- first the own urgencies, then what each lends -/
def ownAll : Nat → KS → KS
  | 0, τ => τ
  | n + 1, τ => sI (ownAll n τ) 44 (va_up (kI (ownAll n τ) 44) n (ownS (ownAll n τ) n))
def lendAll : Nat → KS → KS
  | 0, τ => τ
  | n + 1, τ => lendS (ownS (lendAll n τ) n) 12 (hbS (lendAll n τ) n) (lendAll n τ)
theorem hbS_lt {σ : KS} {i k : Nat} (hw : cWF σ) (hi : i < kN σ 62 2) (h : hbS σ i = some k) : k < kN σ 62 2 := by
  unfold hbS at h
  cases e : kO σ 42 i with
  | none => rw [e] at h; cases h
  | some l =>
    rw [e] at h
    exact hw.2.2.2.2.2.2.2.2 l (hw.2.2.2.2.2.2.1 i hi l e) k h
theorem lendS_N (u : Int32) (n : Nat) : ∀ (o : Option Nat) (τ : KS), kN (lendS u n o τ) = kN τ := by
  induction n with
  | zero => intro o τ; rfl
  | succ n ih =>
    intro o τ
    cases o with
    | none => rfl
    | some k => exact ih _ _
theorem ownAll_N (n : Nat) (τ : KS) : kN (ownAll n τ) = kN τ := by
  induction n with
  | zero => rfl
  | succ n ih => exact ih
theorem lendAll_N (n : Nat) (τ : KS) : kN (lendAll n τ) = kN τ := by
  induction n with
  | zero => rfl
  | succ n ih => exact (lendS_N _ _ _ _).trans ih
theorem wt_ok {σ : KS} {w i : Nat} (hw : cWF σ) (hj : w < 4) (hi : i < kN σ 62 (4 + w)) : (kL σ (4 + w)).getD i 0 < kN σ 62 2 := by
  obtain ⟨a, b⟩ := hw.2.2.1 w hj
  rw [List.getD_eq_getElem?_getD, List.getElem?_eq_getElem (by omega)]
  exact b _ (List.getElem_mem _)
theorem nI_m1 {n : Nat} (h : ¬ (nI n - 1 < 0)) : ∃ k, n = k + 1 := by
  cases n with
  | zero => exact absurd (by decide) h
  | succ k => exact ⟨k, rfl⟩
theorem nI_s1 (k : Nat) : nI (k + 1) - 1 = nI k := by rw [nI_succ, Int32.add_sub_cancel]
theorem lRem_N {σ : KS} {w i k : Nat} (hk : k < 4) : kN (lRem σ (4 + w) i) 62 k = kN σ 62 k := by
  show va_up (kN σ 62) (4 + w) (kN σ 62 (4 + w) - 1) k = _
  rw [vu_n _ _ (by omega)]
theorem lRem_n1 {σ : KS} {w i : Nat} : kN (lRem σ (4 + w) i) 62 (4 + w) = kN σ 62 (4 + w) - 1 := vu_s _ _ _
theorem m_dec1 (x : Int32) : x + Int32.ofInt (-1) = x - 1 := by rw [Int32.sub_eq_add_neg]; rfl
theorem nI_neg {n : Nat} (hn : n < 2 ^ 31) (h : nI n - 1 < 0) : n = 0 := by
  cases n with
  | zero => rfl
  | succ k =>
    rw [nI_s1] at h
    exact absurd h (nI_pos (by omega))
