/-! choosing, as functions on the states -/
def pcS (σ : KS) : Nat → Option Nat
  | 0 => none
  | n + 1 => if kB σ 45 n = true ∧ (match pcS σ n with
    | none => true
    | some b => gbS σ n b) = true then some n else pcS σ n
theorem pcS_lt {σ : KS} {n k : Nat} (h : pcS σ n = some k) : k < n := by
  induction n with
  | zero => cases h
  | succ n ih =>
    rw [pcS] at h
    rcases ite_or h with h | h
    · cases h; omega
    · exact Nat.lt_succ_of_lt (ih h)
def rdS : Nat → KS → KS
  | 0, τ => τ
  | n + 1, τ => sB (rdS n τ) 45 (va_up (kB (rdS n τ) 45) n (readyS (rdS n τ) n))
theorem rdS_N (n : Nat) (τ : KS) : kN (rdS n τ) = kN τ := by
  induction n with
  | zero => rfl
  | succ n ih => exact ih
def pickS (b : Bool) (τ : KS) : Option Nat := if b = true then pdO τ else pcS τ (kN τ 62 2)
def pickSt (b : Bool) (τ : KS) : KS := if b = true then pdSt τ else τ
theorem pdSt_N (τ : KS) : kN (pdSt τ) = kN τ := by
  unfold pdSt
  split
  · rfl
  · exact markS_N τ
theorem pickSt_N (b : Bool) (τ : KS) : kN (pickSt b τ) = kN τ := by
  unfold pickSt
  split
  · exact pdSt_N τ
  · rfl
theorem pdL_lt {σ : KS} {n g t : Nat} (h : pdL σ n g = some t) : t < kN σ 62 2 := by
  induction n generalizing g with
  | zero => cases h
  | succ n ih =>
    rw [pdL] at h
    split at h
    · exact ltS_lt h
    · split at h
      · exact ih h
      · rename_i e
        rcases ite_or h with h | h
        · cases h; exact ltS_lt e
        · exact ih h
theorem pdO_lt {σ : KS} {t : Nat} (h : pdO σ = some t) : t < kN σ 62 2 := by
  unfold pdO at h
  split at h
  · rename_i e
    cases h
    exact muS_lt e
  · have := pdL_lt h
    rw [markS_N] at this
    exact this
theorem pickS_lt {b : Bool} {σ : KS} {t : Nat} (h : pickS b σ = some t) : t < kN σ 62 2 := by
  unfold pickS at h
  rcases ite_or h with h | h
  · exact pdO_lt h
  · exact pcS_lt h
/-- one core's turn -/
def cof1 (b : Bool) (q : Int32 × KS) (n : Nat) : Int32 × KS :=
  if kI q.2 1 0 < q.1 + paceS (kI q.2 10 n) (kI q.2 11 n) (kI q.2 0 0) then (q.1, sO q.2 12 (va_up (kO q.2 12) n none))
  else match pickS b q.2 with
    | none => (q.1, sO (pickSt b q.2) 12 (va_up (kO (pickSt b q.2) 12) n none))
    | some t => (q.1 + paceS (kI q.2 10 n) (kI q.2 11 n) (kI q.2 0 0), sB (sO (pickSt b q.2) 12 (va_up (kO (pickSt b q.2) 12) n (some t))) 45 (va_up (kB (pickSt b q.2) 45) t false))
theorem cof1_a {b : Bool} {q : Int32 × KS} {n : Nat} (h : kI q.2 1 0 < q.1 + paceS (kI q.2 10 n) (kI q.2 11 n) (kI q.2 0 0)) : cof1 b q n = (q.1, sO q.2 12 (va_up (kO q.2 12) n none)) := if_pos h
theorem cof1_b {b : Bool} {q : Int32 × KS} {n : Nat} (h : ¬ kI q.2 1 0 < q.1 + paceS (kI q.2 10 n) (kI q.2 11 n) (kI q.2 0 0)) (e : pickS b q.2 = none) : cof1 b q n = (q.1, sO (pickSt b q.2) 12 (va_up (kO (pickSt b q.2) 12) n none)) := by
  unfold cof1
  rw [if_neg h, e]
theorem cof1_c {b : Bool} {q : Int32 × KS} {n t : Nat} (h : ¬ kI q.2 1 0 < q.1 + paceS (kI q.2 10 n) (kI q.2 11 n) (kI q.2 0 0)) (e : pickS b q.2 = some t) : cof1 b q n = (q.1 + paceS (kI q.2 10 n) (kI q.2 11 n) (kI q.2 0 0), sB (sO (pickSt b q.2) 12 (va_up (kO (pickSt b q.2) 12) n (some t))) 45 (va_up (kB (pickSt b q.2) 45) t false)) := by
  unfold cof1
  rw [if_neg h, e]
def cofS (b : Bool) (τ : KS) : Nat → Int32 × KS
  | 0 => (0, τ)
  | n + 1 => cof1 b (cofS b τ n) n
theorem cof1_N (b : Bool) (q : Int32 × KS) (n : Nat) : kN (cof1 b q n).2 = kN q.2 := by
  unfold cof1
  split
  · rfl
  · split
    · exact pickSt_N b q.2
    · exact pickSt_N b q.2
theorem cofS_N (b : Bool) (τ : KS) (n : Nat) : kN (cofS b τ n).2 = kN τ := by
  induction n with
  | zero => rfl
  | succ n ih => exact (cof1_N b _ n).trans ih
/-- the round's beginning, and its end -/
def cho0 (σ : KS) : KS := rdS (kN σ 62 2) (urgS σ)
def choS (b : Bool) (σ : KS) : KS := (cofS b (cho0 σ) (kN σ 62 0)).2
theorem urgS_N (σ : KS) : kN (urgS σ) = kN σ := by unfold urgS; rw [lendAll_N, ownAll_N]
theorem cho0_N (σ : KS) : kN (cho0 σ) = kN σ := by unfold cho0; rw [rdS_N, urgS_N]
theorem choS_N (b : Bool) (σ : KS) : kN (choS b σ) = kN σ := by unfold choS; rw [cofS_N, cho0_N]
/-! ending, work, ticks -/
theorem lRem_Nk {σ : KS} {w i k f : Nat} (hk : f = 62 → k < 4) : kN (lRem σ (4 + w) i) f k = kN σ f k := by
  by_cases q : f = 62
  · subst q
    exact lRem_N (hk rfl)
  · show va_up σ.2.2.1 62 _ f k = σ.2.2.1 f k
    rw [vu_n _ _ q]
theorem swS_N (w t n : Nat) (τ : KS) {k f : Nat} (hk : f = 62 → k < 4) : kN (swS w t n τ) f k = kN τ f k := by
  induction n generalizing τ with
  | zero => rfl
  | succ n ih =>
    rw [swS, ih]
    split
    · exact lRem_Nk (i := 0) hk
    · rfl
theorem stopS_N (σ : KS) (t : Nat) {k f : Nat} (hk : f = 62 → k < 4) : kN (stopS σ t) f k = kN σ f k := by
  unfold stopS
  split
  · rfl
  · rw [swS_N _ _ _ _ hk]; rfl
theorem passS_N (σ : KS) (w : Nat) {k f : Nat} (hk : f = 62 → k < 4) : kN (passS σ w) f k = kN σ f k := by
  unfold passS
  split
  · rfl
  · exact lRem_Nk (i := 0) hk
def ehL (t : Nat) : Nat → KS → KS
  | 0, τ => τ
  | n + 1, τ => if kO (ehL t n τ) 50 n = some t then passS (ehL t n τ) n else ehL t n τ
theorem ehL_N (t n : Nat) (τ : KS) {k f : Nat} (hk : f = 62 → k < 4) : kN (ehL t n τ) f k = kN τ f k := by
  induction n with
  | zero => rfl
  | succ n ih =>
    rw [ehL]
    split
    · rw [passS_N _ _ hk, ih]
    · exact ih
def eh0 (σ : KS) (t : Nat) : KS := stopS (sB (sI σ 34 (va_up (kI σ 34) t 0)) 36 (va_up (kB σ 36) t true)) t
theorem eh0_N (σ : KS) (t : Nat) {k f : Nat} (hk : f = 62 → k < 4) : kN (eh0 σ t) f k = kN σ f k := by unfold eh0; rw [stopS_N _ _ hk]; rfl
def endS (σ : KS) (t : Nat) : KS := ehL t 4 (eh0 σ t)
/-- up the groups, u units done in each -/
def upS (u : Int32) : Nat → Option Nat → KS → KS
  | 0, _, τ => τ
  | _ + 1, none, τ => τ
  | n + 1, some g, τ => upS u n (kO τ 20 g) (sW (sI τ 24 (va_up (kI τ 24) g (kI τ 24 g + u))) 23 (va_up (kW τ 23) g (kW τ 23 g + u.toInt64 * (kI τ 22 g).toInt64)))
theorem upS_none (u : Int32) (n : Nat) (τ : KS) : upS u n none τ = τ := by cases n <;> rfl
theorem upS_N (u : Int32) (n : Nat) : ∀ (o : Option Nat) (τ : KS), kN (upS u n o τ) = kN τ := by
  induction n with
  | zero => intro o τ; rfl
  | succ n ih =>
    intro o τ
    cases o with
    | none => rfl
    | some k => exact ih _ _
/-- whether the task was chosen for another core the last time -/
def mvS (σ : KS) (i t : Nat) : Bool := match kO σ 43 t with
  | none => false
  | some j => decide (¬ j = i)
def wkm (σ : KS) (i t : Nat) : KS := if mvS σ i t = true then sI σ 3 (va_up (kI σ 3) 0 (kI σ 3 0 + 1)) else σ
def wkv (σ : KS) (i t : Nat) : Int32 := if mvS σ i t = true then paceS (kI σ 10 i) (kI σ 11 i) (kI σ 0 0) + (-1) else paceS (kI σ 10 i) (kI σ 11 i) (kI σ 0 0)
def wku (σ : KS) (i t : Nat) : Int32 := if kI σ 34 t < wkv σ i t then kI σ 34 t else wkv σ i t
def wk1 (σ : KS) (u : Int32) (i t : Nat) : KS :=
  sW (sI (sI (sI (sO σ 43 (va_up (kO σ 43) t (some i))) 4 (va_up (kI σ 4) 0 (kI σ 4 0 + 1))) 34 (va_up (kI σ 34) t (kI σ 34 t - u))) 35 (va_up (kI σ 35) t (kI σ 35 t + u))) 33 (va_up (kW σ 33) t (kW σ 33 t + u.toInt64 * (kI σ 32 t).toInt64))
def workS (σ : KS) (i t : Nat) : KS := upS (wku σ i t) 6 (some (kN σ 31 t)) (wk1 (wkm σ i t) (wku σ i t) i t)
theorem workS_N (σ : KS) (i t : Nat) : kN (workS σ i t) = kN σ := by
  unfold workS wk1 wkm
  rw [upS_N]
  split <;> rfl
def wkL : Nat → KS → KS
  | 0, τ => τ
  | n + 1, τ => match kO (wkL n τ) 12 n with
    | none => wkL n τ
    | some t => workS (wkL n τ) n t
theorem wkL_N (n : Nat) (τ : KS) : kN (wkL n τ) = kN τ := by
  induction n with
  | zero => rfl
  | succ n ih =>
    rw [wkL]
    split
    · exact ih
    · rw [workS_N]; exact ih
theorem heatS_N (σ : KS) (i : Nat) : kN (heatS σ i) = kN σ := by
  unfold heatS
  split <;> rfl
def htL : Nat → KS → KS
  | 0, τ => τ
  | n + 1, τ => heatS (htL n τ) n
theorem htL_N (n : Nat) (τ : KS) : kN (htL n τ) = kN τ := by
  induction n with
  | zero => rfl
  | succ n ih => exact (heatS_N _ _).trans ih
def tk1 (σ : KS) : KS := choS true (relS (kN σ 62 2) σ)
def tk2 (σ : KS) : KS := htL (kN σ 62 0) (wkL (kN σ 62 0) (tk1 σ))
def tickS (σ : KS) : KS := sI (sI (tk2 σ) 5 (va_up (kI (tk2 σ) 5) 0 (kI (tk2 σ) 5 0 + nI (kN σ 62 0)))) 2 (va_up (kI (tk2 σ) 2) 0 (kI (tk2 σ) 2 0 + 1))
theorem tk1_N (σ : KS) : kN (tk1 σ) = kN σ := by unfold tk1; rw [choS_N, relS_N]
theorem tk2_N (σ : KS) : kN (tk2 σ) = kN σ := by unfold tk2; rw [htL_N, wkL_N, tk1_N]
theorem tickS_N (σ : KS) : kN (tickS σ) = kN σ := tk2_N σ
def tkN : Nat → KS → KS
  | 0, τ => τ
  | n + 1, τ => tickS (tkN n τ)
theorem tkN_N (n : Nat) (τ : KS) : kN (tkN n τ) = kN τ := by
  induction n with
  | zero => rfl
  | succ n ih => exact (tickS_N _).trans ih
/-! soundness: both ways, core by core -/
def bwS : Nat → KS → KS
  | 0, τ => τ
  | n + 1, τ => choS false (choS true (bwS n τ))
theorem bwS_N (n : Nat) (τ : KS) : kN (bwS n τ) = kN τ := by
  induction n with
  | zero => rfl
  | succ n ih => rw [bwS, choS_N, choS_N]; exact ih
