/-! THE REFERENCE'S METHODS, AS FUNCTIONS ON ITS STATES -/
def inL (v lo hi : Int64) : Bool := decide (lo ≤ v ∧ v ≤ hi)
def rg (x lo hi : Int32) : Bool := decide (lo ≤ x ∧ x ≤ hi)
theorem inL_rg {x lo hi : Int32} {lo' hi' : Int64} (h1 : lo.toInt64 = lo') (h2 : hi.toInt64 = hi') : inL x.toInt64 lo' hi' = rg x lo hi := by
  subst h1; subst h2
  unfold inL rg
  simp only [Int64.le_iff_toInt_le, Int32.le_iff_toInt_le, Int32.toInt_toInt64]
theorem inL_R {x : Int32} {n : Nat} (hn : n < 2 ^ 31) {lo : Int64} (h0 : lo = 0) : inL x.toInt64 lo (nI n - 1).toInt64 = (inR x n).isSome := by
  subst h0
  have e : (nI n - 1).toInt = (n : Int) - 1 := by
    cases n with
    | zero => decide
    | succ k => rw [nI_s1, nI_toInt (by omega)]; omega
  have z : (0 : Int64).toInt = 0 := by decide
  unfold inL inR
  simp only [Int64.le_iff_toInt_le, Int32.toInt_toInt64, e, z]
  by_cases q : 0 ≤ x.toInt ∧ x.toInt < n
  · rw [if_pos q, decide_eq_true (by omega)]; rfl
  · rw [if_neg q, decide_eq_false (by omega)]; rfl
/-- the groups other than the group 0 -/
theorem inL_G {x : Int32} {n : Nat} (hn : n < 2 ^ 31) {lo : Int64} (h0 : lo = 1) : inL x.toInt64 lo (nI n - 1).toInt64 = ((inR x n).isSome && decide (inR x n ≠ some 0)) := by
  subst h0
  have e : (nI n - 1).toInt = (n : Int) - 1 := by
    cases n with
    | zero => decide
    | succ k => rw [nI_s1, nI_toInt (by omega)]; omega
  have z : (1 : Int64).toInt = 1 := by decide
  unfold inL inR
  simp only [Int64.le_iff_toInt_le, Int32.toInt_toInt64, e, z]
  by_cases q : 0 ≤ x.toInt ∧ x.toInt < n
  · rw [if_pos q]
    by_cases w : x.toInt = 0
    · rw [decide_eq_false (by omega), w]; rfl
    · rw [decide_eq_true (by omega)]
      have : (some x.toInt.toNat : Option Nat) ≠ some 0 := fun h => by
        have := Option.some.inj h
        omega
      rw [decide_eq_true this]; rfl
  · rw [if_neg q, decide_eq_false (by omega)]; rfl
def thS (μ : KS) (v : Int32) : KS := sI μ 33 (va_up (kI μ 33) 0 v)
theorem thS_wf {μ : KS} (h : dWF μ) (v : Int32) : dWF (thS μ v) := h
def acM (μ : KS) (x : Int32) : KS := sN (sI (thS μ 0) 1 (va_up (kI μ 1) (kN μ 3 0) x)) 3 (va_up (kN μ 3) 0 (kN μ 3 0 + 1))
/-- the least time among a group's members: the groups, then the tasks -/
def lgM (μ : KS) (p : Nat) : Nat → Int64
  | 0 => -1
  | j + 1 => if kN μ 6 (j + 1) = p ∧ (lgM μ p j < 0 ∨ kW μ 8 (j + 1) < lgM μ p j) then kW μ 8 (j + 1) else lgM μ p j
def ltM (μ : KS) (p : Nat) : Nat → Int64
  | 0 => lgM μ p (kN μ 9 0 - 1)
  | n + 1 => if kN μ 10 n = p ∧ (ltM μ p n < 0 ∨ kW μ 12 n < ltM μ p n) then kW μ 12 n else ltM μ p n
def lsM (μ : KS) (p : Nat) : Int64 := if 0 ≤ ltM μ p (kN μ 24 0) then ltM μ p (kN μ 24 0) else 0
def agM (μ : KS) (p : Nat) (w : Int32) : KS :=
  sN (sI (sN (sW (thS μ 0) 8 (va_up (kW μ 8) (kN μ 9 0) (lsM μ p))) 6 (va_up (kN μ 6) (kN μ 9 0) p)) 7 (va_up (kI μ 7) (kN μ 9 0) w)) 9 (va_up (kN μ 9) 0 (kN μ 9 0 + 1))
/-- a task more, at the place t -/
def adM (μ : KS) (g : Nat) (w u p : Int32) : KS :=
  sN (sO (sB (sO (sI (sI (sI (sI (sI (sI (sI (sI (sN (sW μ 12 (va_up (kW μ 12) (kN μ 24 0) (lsM μ g))) 10 (va_up (kN μ 10) (kN μ 24 0) g)) 11 (va_up (kI μ 11) (kN μ 24 0) w)) 13 (va_up (kI μ 13) (kN μ 24 0) u)) 14 (va_up (kI μ 14) (kN μ 24 0) p)) 15 (va_up (kI μ 15) (kN μ 24 0) u)) 16 (va_up (kI μ 16) (kN μ 24 0) (kI μ 0 0 + p))) 17 (va_up (kI μ 17) (kN μ 24 0) (kI μ 0 0))) 18 (va_up (kI μ 18) (kN μ 24 0) 0)) 19 (va_up (kI μ 19) (kN μ 24 0) 0)) 20 (va_up (kO μ 20) (kN μ 24 0) none)) 21 (va_up (kB μ 21) (kN μ 24 0) false)) 22 (va_up (kO μ 22) (kN μ 24 0) none)) 24 (va_up (kN μ 24) 0 (kN μ 24 0 + 1))
def shM (b p : Int32) : Int32 := (1000 * b + p - 1) / p
def smF (μ : KS) (t : Nat) : Int32 := if 0 < kI μ 14 t ∧ kB μ 21 t = false then shM (kI μ 15 t) (kI μ 14 t) else 0
def shsM (μ : KS) : Int32 := sumI (smF μ) (kN μ 24 0)
def prM (μ : KS) : Int32 := if kI μ 5 0 ≤ sumI (fun c => kI μ 1 c) (kN μ 3 0) then kI μ 5 0 else sumI (fun c => kI μ 1 c) (kN μ 3 0)
def readyM (μ : KS) (t : Nat) : Bool := decide (kB μ 21 t = false ∧ kO μ 22 t = none ∧ 0 < kI μ 13 t)
/-- whether the group a lies in or under the group r -/
def iuM (μ : KS) (r : Nat) : Nat → Nat → Bool
  | 0, a => decide (a = r)
  | f + 1, a => if a = r then true else if a = 0 then false else iuM μ r f (kN μ 6 a)
theorem iuM_e (μ : KS) (r f : Nat) : iuM μ r f r = true := by
  cases f with
  | zero => exact decide_eq_true rfl
  | succ f => exact if_pos rfl
theorem iuM_z (μ : KS) {r : Nat} (f : Nat) (h : ¬ 0 = r) : iuM μ r f 0 = false := by
  cases f with
  | zero => exact decide_eq_false h
  | succ f => rw [iuM, if_neg h, if_pos rfl]
def diF (μ : KS) (r t : Nat) : Int32 := if iuM μ r 6 (kN μ 10 t) = true then kI μ 19 t else 0
def ownM (μ : KS) (t : Nat) : Int32 := if 0 < kI μ 14 t ∧ 0 < kI μ 13 t then kI μ 16 t else 1000000
def fuA : Nat → KS → KS
  | 0, μ => μ
  | n + 1, μ => sI (fuA n μ) 31 (va_up (kI (fuA n μ) 31) n (ownM (fuA n μ) n))
def hdM (μ : KS) (t : Nat) : Option Nat := match kO μ 22 t with
  | none => none
  | some l => kO μ 26 l
def fuT1 (μ : KS) (k : Nat) : KS := match hdM μ k with
  | none => μ
  | some h => if kI μ 31 k < kI μ 31 h then sI μ 31 (va_up (kI μ 31) h (kI μ 31 k)) else μ
def fuT : Nat → KS → KS
  | 0, μ => μ
  | n + 1, μ => fuT1 (fuT n μ) n
def fuR (N : Nat) : Nat → KS → KS
  | 0, μ => μ
  | n + 1, μ => fuT N (fuR N n μ)
def fuM (μ : KS) : KS := fuR (kN μ 24 0) 12 (fuA (kN μ 24 0) μ)
/-- what a function changes no more than urgencies leaves -/
def sameU (μ ν : KS) : Prop := ∃ f, ν = sI μ 31 f
theorem sameU.rf (μ : KS) : sameU μ μ := ⟨kI μ 31, by
  have : va_up μ.1 31 (kI μ 31) = μ.1 := by
    funext i
    by_cases q : i = 31
    · subst q; exact vu_s _ _ _
    · exact vu_n _ _ q
  show μ = (va_up μ.1 31 (kI μ 31), μ.2)
  rw [this]⟩
theorem sameU.up {μ ν : KS} (h : sameU μ ν) (g : Nat → Int32) : sameU μ (sI ν 31 g) := by
  obtain ⟨f, rfl⟩ := h
  refine ⟨g, ?_⟩
  have : va_up (va_up μ.1 31 f) 31 g = va_up μ.1 31 g := by
    funext i
    by_cases q : i = 31
    · subst q; rw [vu_s, vu_s]
    · rw [vu_n _ _ q, vu_n _ _ q, vu_n _ _ q]
  show (va_up (va_up μ.1 31 f) 31 g, μ.2) = (va_up μ.1 31 g, μ.2)
  rw [this]
theorem sameU.tr {μ ν ρ : KS} (h : sameU μ ν) (h2 : sameU ν ρ) : sameU μ ρ := by
  obtain ⟨f, rfl⟩ := h2
  exact h.up f
theorem sameU.N {μ ν : KS} (h : sameU μ ν) : kN ν = kN μ := by obtain ⟨f, rfl⟩ := h; rfl
theorem sameU.O {μ ν : KS} (h : sameU μ ν) : kO ν = kO μ := by obtain ⟨f, rfl⟩ := h; rfl
theorem sameU.B {μ ν : KS} (h : sameU μ ν) : kB ν = kB μ := by obtain ⟨f, rfl⟩ := h; rfl
theorem sameU.W {μ ν : KS} (h : sameU μ ν) : kW ν = kW μ := by obtain ⟨f, rfl⟩ := h; rfl
theorem sameU.I {μ ν : KS} (h : sameU μ ν) {f : Nat} (hf : f ≠ 31) : kI ν f = kI μ f := by obtain ⟨g, rfl⟩ := h; exact vu_n _ _ hf
theorem fuA_U (n : Nat) (μ : KS) : sameU μ (fuA n μ) := by
  induction n with
  | zero => exact sameU.rf μ
  | succ n ih => exact ih.up _
theorem fuT1_U (μ : KS) (k : Nat) : sameU μ (fuT1 μ k) := by
  unfold fuT1
  split
  · exact sameU.rf μ
  · split
    · exact (sameU.rf μ).up _
    · exact sameU.rf μ
theorem fuT_U (n : Nat) (μ : KS) : sameU μ (fuT n μ) := by
  induction n with
  | zero => exact sameU.rf μ
  | succ n ih => exact ih.tr (fuT1_U _ _)
theorem fuR_U (N n : Nat) (μ : KS) : sameU μ (fuR N n μ) := by
  induction n with
  | zero => exact sameU.rf μ
  | succ n ih => exact ih.tr (fuT_U _ _)
theorem fuM_U (μ : KS) : sameU μ (fuM μ) := (fuA_U _ _).tr (fuR_U _ _ _)
/-- how many wait for the lock l longer than t, among the first k -/
def ahM (μ : KS) (l t : Nat) : Nat → Nat
  | 0 => 0
  | k + 1 => if kO μ 22 k = some l ∧ kI μ 23 k < kI μ 23 t then ahM μ l t k + 1 else ahM μ l t k + 0
theorem ahM_le (μ : KS) (l t k : Nat) : ahM μ l t k ≤ k := by
  induction k with
  | zero => exact Nat.le_refl _
  | succ k ih =>
    rw [ahM]
    split <;> omega
def wtM (μ : KS) (l : Nat) (x : Int32) : Nat → Nat → Option Nat
  | 0, _ => none
  | n + 1, t => if kO μ 22 t = some l ∧ nI (ahM μ l t (kN μ 24 0)) = x then some t else wtM μ l x n (t + 1)
theorem wtM_lt {μ : KS} {l : Nat} {x : Int32} {n t k : Nat} (h : wtM μ l x n t = some k) : k < t + n := by
  induction n generalizing t with
  | zero => cases h
  | succ n ih =>
    rw [wtM] at h
    rcases ite_or h with h | h
    · cases h; omega
    · have := ih h; omega
def wtT (μ : KS) (l : Nat) (x : Int32) : Option Nat := wtM μ l x (kN μ 24 0) 0
theorem wtT_lt {μ : KS} {l : Nat} {x : Int32} {k : Nat} (h : wtT μ l x = some k) : k < kN μ 24 0 := by
  have := wtM_lt h
  omega
def pnM (μ : KS) (l : Nat) : KS := match wtT μ l 0 with
  | none => sO μ 26 (va_up (kO μ 26) l none)
  | some t => sO (sO μ 26 (va_up (kO μ 26) l (some t))) 22 (va_up (kO μ 22) t none)
theorem pnM_N (μ : KS) (l : Nat) : kN (pnM μ l) = kN μ := by
  unfold pnM
  split <;> rfl
def emL (t : Nat) : Nat → KS → KS
  | 0, μ => μ
  | n + 1, μ => if kO (emL t n μ) 26 n = some t then pnM (emL t n μ) n else emL t n μ
theorem emL_N (t n : Nat) (μ : KS) : kN (emL t n μ) = kN μ := by
  induction n with
  | zero => rfl
  | succ n ih =>
    rw [emL]
    split
    · rw [pnM_N]; exact ih
    · exact ih
def em0 (μ : KS) (t : Nat) : KS := sO (sB (sI (thS μ 0) 13 (va_up (kI μ 13) t 0)) 21 (va_up (kB μ 21) t true)) 22 (va_up (kO μ 22) t none)
def emM (μ : KS) (t : Nat) : KS := emL t 4 (em0 μ t)
def crM (μ : KS) (t : Nat) : Nat → Option Nat → Bool → Bool
  | 0, _, b => b
  | _ + 1, none, b => b
  | n + 1, some a, b => crM μ t n (hdM μ a) (b || decide (a = t))
theorem crM_n (μ : KS) (t n : Nat) (b : Bool) : crM μ t n none b = b := by cases n <;> rfl
def crT (μ : KS) (t l : Nat) : Bool := crM μ t 12 (kO μ 26 l) false
/-- whether a task that is in lies in or under the group g -/
def huM (μ : KS) (g : Nat) : Nat → Bool
  | 0 => false
  | n + 1 => huM μ g n || (kB μ 32 n && iuM μ g 6 (kN μ 10 n))
def dnG (μ : KS) (p : Nat) : Nat → Int64 × Option Nat
  | 0 => (-1, none)
  | j + 1 => if kN μ 6 (j + 1) = p ∧ huM μ (j + 1) (kN μ 24 0) = true ∧ ((dnG μ p j).1 < 0 ∨ kW μ 8 (j + 1) < (dnG μ p j).1) then (kW μ 8 (j + 1), some (100 + (j + 1))) else dnG μ p j
def dnT (μ : KS) (p : Nat) : Nat → Int64 × Option Nat
  | 0 => dnG μ p (kN μ 9 0 - 1)
  | n + 1 => if kB μ 32 n = true ∧ kN μ 10 n = p ∧ ((dnT μ p n).1 < 0 ∨ kW μ 12 n < (dnT μ p n).1) then (kW μ 12 n, some n) else dnT μ p n
def dnE (μ : KS) (p : Nat) : Option Nat := (dnT μ p (kN μ 24 0)).2
theorem dnG_lt {μ : KS} {p j m : Nat} (h : (dnG μ p j).2 = some m) : 100 < m ∧ m ≤ 100 + j ∧ kN μ 6 (m - 100) = p := by
  induction j with
  | zero => cases h
  | succ j ih =>
    unfold dnG at h
    split at h
    · rename_i q
      cases h
      refine ⟨by omega, by omega, ?_⟩
      rw [show 100 + (j + 1) - 100 = j + 1 by omega]
      exact q.1
    · obtain ⟨a, b, c⟩ := ih h
      exact ⟨a, by omega, c⟩
theorem dnT_lt {μ : KS} {p n m : Nat} (hg : 1 ≤ kN μ 9 0) (h : (dnT μ p n).2 = some m) : m < n ∨ (100 < m ∧ m < 100 + kN μ 9 0 ∧ kN μ 6 (m - 100) = p) := by
  induction n with
  | zero =>
    obtain ⟨a, b, c⟩ := dnG_lt h
    exact Or.inr ⟨a, by omega, c⟩
  | succ n ih =>
    unfold dnT at h
    split at h
    · cases h; omega
    · rcases ih h with h | h
      · exact Or.inl (by omega)
      · exact Or.inr h
def dnM (μ : KS) : Nat → Nat → Option Nat
  | 0, _ => none
  | d + 1, p => match dnE μ p with
    | none => none
    | some m => if 100 ≤ m then dnM μ d (m - 100) else some m
theorem dnM_lt {μ : KS} (hw : dWF μ) {d p t : Nat} (h : dnM μ d p = some t) : t < kN μ 24 0 := by
  induction d generalizing p with
  | zero => cases h
  | succ d ih =>
    rw [dnM] at h
    split at h
    · cases h
    · rename_i m e
      rcases ite_or h with h2 | h2
      · exact ih h2
      · have := dnT_lt hw.1.2.1 e
        split at h
        · exact ih h
        · cases h
          rcases this with q | q
          · exact q
          · omega
def cuM (μ : KS) : Nat → Option Nat
  | 0 => none
  | n + 1 => if kB μ 32 n = true ∧ kI μ 31 n < 1000000 ∧ (match cuM μ n with
    | none => true
    | some u => decide (kI μ 31 n < kI μ 31 u)) = true then some n else cuM μ n
theorem cuM_lt {μ : KS} {n k : Nat} (h : cuM μ n = some k) : k < n := by
  induction n with
  | zero => cases h
  | succ n ih =>
    rw [cuM] at h
    rcases ite_or h with h | h
    · cases h; omega
    · exact Nat.lt_succ_of_lt (ih h)
def anM (μ : KS) : Nat → Bool
  | 0 => false
  | n + 1 => anM μ n || kB μ 32 n
def chM (μ : KS) : Option Nat := if anM μ (kN μ 24 0) = false then none else match cuM μ (kN μ 24 0) with
  | some u => some u
  | none => dnM μ 6 0
theorem chM_lt {μ : KS} (hw : dWF μ) {t : Nat} (h : chM μ = some t) : t < kN μ 24 0 := by
  unfold chM at h
  split at h
  · cases h
  · split at h
    · rename_i e
      cases h
      exact cuM_lt e
    · exact dnM_lt hw h
def rdM : Nat → KS → KS
  | 0, μ => μ
  | n + 1, μ => sB (rdM n μ) 32 (va_up (kB (rdM n μ) 32) n (readyM (rdM n μ) n))
theorem rdM_N (n : Nat) (μ : KS) : kN (rdM n μ) = kN μ := by
  induction n with
  | zero => rfl
  | succ n ih => exact ih
def paM (μ : KS) (c : Nat) : Int32 := paceS (kI μ 1 c) (kI μ 2 c) (kI μ 4 0)
def cm1 (q : Int32 × KS) (n : Nat) : Int32 × KS :=
  if q.1 + paM q.2 n ≤ kI q.2 5 0 then (match chM q.2 with
    | none => (q.1, sO q.2 30 (va_up (kO q.2 30) n none))
    | some t => (q.1 + paM q.2 n, sB (sO q.2 30 (va_up (kO q.2 30) n (some t))) 32 (va_up (kB q.2 32) t false)))
  else (q.1, sO q.2 30 (va_up (kO q.2 30) n none))
def cmS (μ : KS) : Nat → Int32 × KS
  | 0 => (0, μ)
  | n + 1 => cm1 (cmS μ n) n
theorem cm1_N (q : Int32 × KS) (n : Nat) : kN (cm1 q n).2 = kN q.2 := by
  unfold cm1
  split
  · split <;> rfl
  · rfl
theorem cmS_N (μ : KS) (n : Nat) : kN (cmS μ n).2 = kN μ := by
  induction n with
  | zero => rfl
  | succ n ih => exact (cm1_N _ n).trans ih
def cm0 (μ : KS) : KS := rdM (kN μ 24 0) (fuM μ)
def csM (μ : KS) : KS := (cmS (cm0 μ) (kN μ 3 0)).2
theorem cm0_N (μ : KS) : kN (cm0 μ) = kN μ := by unfold cm0; rw [rdM_N, (fuM_U μ).N]
theorem csM_N (μ : KS) : kN (csM μ) = kN μ := by unfold csM; rw [cmS_N, cm0_N]
/-- what is chosen is a task -/
theorem cm1_30 {q : Int32 × KS} (hw : dWF q.2) {n : Nat} (h : ∀ c, c < n → ∀ t, kO q.2 30 c = some t → t < kN q.2 24 0) : ∀ c, c < n + 1 → ∀ t, kO (cm1 q n).2 30 c = some t → t < kN q.2 24 0 := by
  intro c hc t e
  unfold cm1 at e
  split at e
  · split at e
    · rename_i e0
      replace e : va_up (kO q.2 30) n none c = some t := e
      by_cases z : c = n
      · subst z; rw [vu_s] at e; cases e
      · rw [vu_n _ _ z] at e; exact h c (by omega) t e
    · rename_i u e0
      replace e : va_up (kO q.2 30) n (some u) c = some t := e
      by_cases z : c = n
      · subst z; rw [vu_s] at e; cases e; exact chM_lt hw e0
      · rw [vu_n _ _ z] at e; exact h c (by omega) t e
  · replace e : va_up (kO q.2 30) n none c = some t := e
    by_cases z : c = n
    · subst z; rw [vu_s] at e; cases e
    · rw [vu_n _ _ z] at e; exact h c (by omega) t e
/-! work and ticks -/
def mvM (μ : KS) (c t : Nat) : Bool := match kO μ 20 t with
  | none => false
  | some j => decide (¬ j = c)
def wvM (μ : KS) (c t : Nat) : Int32 := if mvM μ c t = true then paM μ c - 1 else paM μ c - 0
def wuM (μ : KS) (c t : Nat) : Int32 := if kI μ 13 t ≤ wvM μ c t then kI μ 13 t else wvM μ c t
def wmM (μ : KS) (c t : Nat) : Int32 := if mvM μ c t = true then kI μ 27 0 + 1 else kI μ 27 0 + 0
def w1M (μ : KS) (v u : Int32) (c t : Nat) : KS :=
  sW (sI (sI (sO (sI μ 27 (va_up (kI μ 27) 0 v)) 20 (va_up (kO μ 20) t (some c))) 13 (va_up (kI μ 13) t (kI μ 13 t - u))) 19 (va_up (kI μ 19) t (kI μ 19 t + u))) 12 (va_up (kW μ 12) t (kW μ 12 t + (u * (2520 / kI μ 11 t)).toInt64))
def upM (u : Int32) : Nat → Nat → KS → KS
  | 0, _, μ => μ
  | f + 1, g, μ => if g = 0 then μ else upM u f (kN μ 6 g) (sW μ 8 (va_up (kW μ 8) g (kW μ 8 g + (u * (2520 / kI μ 7 g)).toInt64)))
theorem upM_z (u : Int32) (f : Nat) (μ : KS) : upM u f 0 μ = μ := by cases f <;> rfl
def wkM (μ : KS) (c t : Nat) : KS := upM (wuM μ c t) 6 (kN μ 10 t) (w1M μ (wmM μ c t) (wuM μ c t) c t)
def rl1M (μ : KS) (t : Nat) : KS := if 0 < kI μ 14 t ∧ kB μ 21 t = false ∧ kI μ 16 t = kI μ 0 0 ∧ ¬ kI μ 17 t = kI μ 0 0 then
    sI (sI (sI μ 18 (va_up (kI μ 18) t (if 0 < kI μ 13 t then kI μ 18 t + 1 else kI μ 18 t + 0))) 13 (va_up (kI μ 13) t (kI μ 15 t))) 16 (va_up (kI μ 16) t (kI μ 16 t + kI μ 14 t)) else μ
def rlM : Nat → KS → KS
  | 0, μ => μ
  | n + 1, μ => rl1M (rlM n μ) n
def wl1 (q : Int32 × KS) (n : Nat) : Int32 × KS := match kO q.2 30 n with
  | none => (q.1 + 0, sI (sI q.2 28 (va_up (kI q.2 28) 0 (kI q.2 28 0 + 0))) 29 (va_up (kI q.2 29) 0 (kI q.2 29 0 + 1)))
  | some t => (q.1 + wuM q.2 n t, sI (sI (wkM q.2 n t) 28 (va_up (kI (wkM q.2 n t) 28) 0 (kI (wkM q.2 n t) 28 0 + 1))) 29 (va_up (kI (wkM q.2 n t) 29) 0 (kI (wkM q.2 n t) 29 0 + 1)))
def wlM (μ : KS) : Nat → Int32 × KS
  | 0 => (0, μ)
  | n + 1 => wl1 (wlM μ n) n
def h1M (μ : KS) (c : Nat) : KS := sI μ 2 (va_up (kI μ 2) c (match kO μ 30 c with
  | none => if kI μ 2 c ≤ 3 then 0 else kI μ 2 c - 3
  | some _ => kI μ 2 c + paM μ c))
def htM : Nat → KS → KS
  | 0, μ => μ
  | n + 1, μ => h1M (htM n μ) n
def t1M (μ : KS) : KS := csM (rlM (kN μ 24 0) μ)
def t2M (μ : KS) : KS := htM (kN μ 3 0) (wlM (t1M μ) (kN μ 3 0)).2
def tkM (μ : KS) : Int32 × KS := ((wlM (t1M μ) (kN μ 3 0)).1, sI (t2M μ) 0 (va_up (kI (t2M μ) 0) 0 (kI (t2M μ) 0 0 + 1)))
def tnM (μ : KS) : Nat → Int32 × KS
  | 0 => (0, μ)
  | n + 1 => ((tnM μ n).1 + (tkM (tnM μ n).2).1, (tkM (tnM μ n).2).2)
/-- what the steps of a tick keep -/
def fr (μ ν : KS) : Prop := kN ν = kN μ ∧ kI ν 11 = kI μ 11 ∧ kI ν 7 = kI μ 7 ∧ ∀ t i, kO ν 20 t = some i → kO μ 20 t = some i ∨ i < 3
theorem fr.rf (μ : KS) : fr μ μ := ⟨rfl, rfl, rfl, fun _ _ h => Or.inl h⟩
theorem fr.tr {μ ν ρ : KS} (h : fr μ ν) (g : fr ν ρ) : fr μ ρ := ⟨g.1.trans h.1, g.2.1.trans h.2.1, g.2.2.1.trans h.2.2.1, fun t i e => (g.2.2.2 t i e).elim (fun e => h.2.2.2 t i e) Or.inr⟩
theorem sameU.fr {μ ν : KS} (h : sameU μ ν) : fr μ ν := ⟨h.N, h.I (by decide), h.I (by decide), fun t i e => by rw [h.O] at e; exact Or.inl e⟩
theorem rdM_fr (n : Nat) (μ : KS) : fr μ (rdM n μ) := by
  induction n with
  | zero => exact fr.rf μ
  | succ n ih => exact ih.tr ⟨rfl, rfl, rfl, fun _ _ h => Or.inl h⟩
theorem cm1_fr (q : Int32 × KS) (n : Nat) : fr q.2 (cm1 q n).2 := by
  unfold cm1
  split
  · split
    · exact ⟨rfl, rfl, rfl, fun _ _ h => Or.inl h⟩
    · exact ⟨rfl, rfl, rfl, fun _ _ h => Or.inl h⟩
  · exact ⟨rfl, rfl, rfl, fun _ _ h => Or.inl h⟩
theorem cmS_fr (μ : KS) (n : Nat) : fr μ (cmS μ n).2 := by
  induction n with
  | zero => exact fr.rf μ
  | succ n ih => exact ih.tr (cm1_fr _ n)
theorem csM_fr (μ : KS) : fr μ (csM μ) := ((fuM_U μ).fr.tr (rdM_fr _ _)).tr (cmS_fr _ _)
theorem rlM_fr (n : Nat) (μ : KS) : fr μ (rlM n μ) := by
  induction n with
  | zero => exact fr.rf μ
  | succ n ih =>
    refine ih.tr ?_
    show fr (rlM n μ) (rl1M (rlM n μ) n)
    unfold rl1M
    split
    · exact ⟨rfl, rfl, rfl, fun _ _ h => Or.inl h⟩
    · exact fr.rf _
theorem t1M_fr (μ : KS) : fr μ (t1M μ) := (rlM_fr _ μ).tr (csM_fr _)
theorem upM_fr (u : Int32) (f : Nat) : ∀ (g : Nat) (μ : KS), fr μ (upM u f g μ) := by
  induction f with
  | zero => intro g μ; exact fr.rf μ
  | succ f ih =>
    intro g μ
    rw [upM]
    split
    · exact fr.rf μ
    · exact fr.tr (ν := sW μ 8 _) ⟨rfl, rfl, rfl, fun _ _ h => Or.inl h⟩ (ih _ _)
theorem wkM_fr (μ : KS) {c : Nat} (t : Nat) (hc : c < 3) : fr μ (wkM μ c t) := by
  refine fr.tr (ν := w1M μ (wmM μ c t) (wuM μ c t) c t) ⟨rfl, rfl, rfl, fun k i h => ?_⟩ (upM_fr _ _ _ _)
  replace h : va_up (kO μ 20) t (some c) k = some i := h
  by_cases z : k = t
  · subst z; rw [vu_s] at h; cases h; exact Or.inr hc
  · rw [vu_n _ _ z] at h; exact Or.inl h
theorem wl1_fr (q : Int32 × KS) {n : Nat} (hn : n < 3) : fr q.2 (wl1 q n).2 := by
  unfold wl1
  split
  · exact ⟨rfl, rfl, rfl, fun _ _ h => Or.inl h⟩
  · exact (wkM_fr _ _ hn).tr ⟨rfl, rfl, rfl, fun _ _ h => Or.inl h⟩
theorem wlM_fr (μ : KS) {n : Nat} (hn : n ≤ 3) : fr μ (wlM μ n).2 := by
  induction n with
  | zero => exact fr.rf μ
  | succ n ih => exact (ih (by omega)).tr (wl1_fr _ (by omega))
theorem htM_fr (n : Nat) (μ : KS) : fr μ (htM n μ) := by
  induction n with
  | zero => exact fr.rf μ
  | succ n ih => exact ih.tr ⟨rfl, rfl, rfl, fun _ _ h => Or.inl h⟩
theorem t2M_fr (μ : KS) (h : kN μ 3 0 ≤ 3) : fr μ (t2M μ) := ((t1M_fr μ).tr (wlM_fr _ h)).tr (htM_fr _ _)
theorem tkM_fr (μ : KS) (h : kN μ 3 0 ≤ 3) : fr μ (tkM μ).2 := (t2M_fr μ h).tr ⟨rfl, rfl, rfl, fun _ _ h => Or.inl h⟩
theorem tnM_fr (μ : KS) (h : kN μ 3 0 ≤ 3) (n : Nat) : fr μ (tnM μ n).2 := by
  induction n with
  | zero => exact fr.rf μ
  | succ n ih => exact ih.tr (tkM_fr _ (by rw [ih.1]; exact h))
/-- the weights are not 0, and the last cores are cores -/
def dI (μ : KS) : Prop := (∀ t, t < kN μ 24 0 → ¬ kI μ 11 t = 0) ∧ (∀ g, 0 < g → g < kN μ 9 0 → ¬ kI μ 7 g = 0) ∧ ∀ t i, t < kN μ 24 0 → kO μ 20 t = some i → i < 3
theorem dI.fr {μ ν : KS} (h : dI μ) (g : fr μ ν) : dI ν := by
  obtain ⟨a, b, c, d⟩ := g
  refine ⟨fun t ht => ?_, fun k h0 hk => ?_, fun t i ht e => ?_⟩
  · rw [b]; rw [a] at ht; exact h.1 t ht
  · rw [c]; rw [a] at hk; exact h.2.1 k h0 hk
  · rw [a] at ht
    rcases d t i e with e | e
    · exact h.2.2 t i ht e
    · exact e
theorem cmS_30 {μ : KS} (hw : dWF μ) (n : Nat) (hw2 : ∀ k, dWF (cmS μ k).2) : ∀ c, c < n → ∀ t, kO (cmS μ n).2 30 c = some t → t < kN μ 24 0 := by
  induction n with
  | zero => intro c hc; exact absurd hc (Nat.not_lt_zero _)
  | succ n ih =>
    have := cm1_30 (hw2 n) (n := n) (fun c hc t e => by rw [cmS_N]; exact ih c hc t e)
    intro c hc t e
    have h9 := this c hc t e
    rw [cmS_N] at h9
    exact h9
theorem dWF_same {μ ν : KS} (h : dWF μ) (hN : kN ν = kN μ) (h22 : kO ν 22 = kO μ 22) (h26 : kO ν 26 = kO μ 26) : dWF ν := by
  unfold dWF
  rw [hN, h22, h26]
  exact h
theorem cm1_O (q : Int32 × KS) (n : Nat) : kO (cm1 q n).2 22 = kO q.2 22 ∧ kO (cm1 q n).2 26 = kO q.2 26 := by
  unfold cm1
  split
  · split <;> exact ⟨rfl, rfl⟩
  · exact ⟨rfl, rfl⟩
theorem cmS_O (μ : KS) (n : Nat) : kO (cmS μ n).2 22 = kO μ 22 ∧ kO (cmS μ n).2 26 = kO μ 26 := by
  induction n with
  | zero => exact ⟨rfl, rfl⟩
  | succ n ih => exact ⟨(cm1_O _ n).1.trans ih.1, (cm1_O _ n).2.trans ih.2⟩
theorem cmS_wf {μ : KS} (h : dWF μ) (n : Nat) : dWF (cmS μ n).2 := dWF_same h (cmS_N μ n) (cmS_O μ n).1 (cmS_O μ n).2
theorem rdM_O (n : Nat) (μ : KS) : kO (rdM n μ) = kO μ := by
  induction n with
  | zero => rfl
  | succ n ih => exact ih
theorem cm0_wf {μ : KS} (h : dWF μ) : dWF (cm0 μ) := by
  have e : kO (cm0 μ) = kO μ := by unfold cm0; rw [rdM_O, (fuM_U μ).O]
  exact dWF_same h (cm0_N μ) (by rw [e]) (by rw [e])
theorem csM_30 {μ : KS} (hw : dWF μ) : ∀ c, c < kN μ 3 0 → ∀ t, kO (csM μ) 30 c = some t → t < kN μ 24 0 := by
  have := cmS_30 (cm0_wf hw) (kN μ 3 0) (fun k => cmS_wf (cm0_wf hw) k)
  rw [cm0_N] at this
  exact this
theorem rlM_wf {μ : KS} (h : dWF μ) (n : Nat) : dWF (rlM n μ) := by
  induction n with
  | zero => exact h
  | succ n ih =>
    show dWF (rl1M (rlM n μ) n)
    unfold rl1M
    split
    · exact ih
    · exact ih
theorem t1M_30 {μ : KS} (hw : dWF μ) : ∀ c, c < kN μ 3 0 → ∀ t, kO (t1M μ) 30 c = some t → t < kN μ 24 0 := by
  have := csM_30 (rlM_wf hw (kN μ 24 0))
  rw [(rlM_fr _ μ).1] at this
  exact this
theorem upM_O (u : Int32) (f : Nat) : ∀ (g : Nat) (μ : KS), kO (upM u f g μ) = kO μ := by
  induction f with
  | zero => intro g μ; rfl
  | succ f ih =>
    intro g μ
    rw [upM]
    split
    · rfl
    · exact ih _ _
theorem wkM_30 (μ : KS) (c t : Nat) : kO (wkM μ c t) 30 = kO μ 30 := by unfold wkM; rw [upM_O]; rfl
theorem wl1_30 (q : Int32 × KS) (n : Nat) : kO (wl1 q n).2 30 = kO q.2 30 := by
  unfold wl1
  split
  · rfl
  · exact wkM_30 _ _ _
theorem wlM_30 (μ : KS) (n : Nat) : kO (wlM μ n).2 30 = kO μ 30 := by
  induction n with
  | zero => rfl
  | succ n ih => exact (wl1_30 _ n).trans ih
theorem htM_30 (n : Nat) (μ : KS) : kO (htM n μ) 30 = kO μ 30 := by
  induction n with
  | zero => rfl
  | succ n ih => exact ih
theorem dWF_22n {μ : KS} (h : dWF μ) (t : Nat) : dWF (sO μ 22 (va_up (kO μ 22) t none)) := by
  refine ⟨h.1, h.2.1, h.2.2.1, fun k hk l e => ?_, h.2.2.2.2⟩
  replace e : va_up (kO μ 22) t none k = some l := e
  by_cases z : k = t
  · subst z; rw [vu_s] at e; cases e
  · rw [vu_n _ _ z] at e; exact h.2.2.2.1 k hk l e
theorem dWF_22s {μ : KS} (h : dWF μ) (t : Nat) {w : Nat} (hw : w < 4) : dWF (sO μ 22 (va_up (kO μ 22) t (some w))) := by
  refine ⟨h.1, h.2.1, h.2.2.1, fun k hk l e => ?_, h.2.2.2.2⟩
  replace e : va_up (kO μ 22) t (some w) k = some l := e
  by_cases z : k = t
  · subst z; rw [vu_s] at e; cases e; exact hw
  · rw [vu_n _ _ z] at e; exact h.2.2.2.1 k hk l e
theorem dWF_26 {μ : KS} (h : dWF μ) (l : Nat) (o : Option Nat) (ho : ∀ t, o = some t → t < kN μ 24 0) : dWF (sO μ 26 (va_up (kO μ 26) l o)) := by
  refine ⟨h.1, h.2.1, h.2.2.1, h.2.2.2.1, fun k hk t e => ?_⟩
  replace e : va_up (kO μ 26) l o k = some t := e
  by_cases z : k = l
  · subst z; rw [vu_s] at e; exact ho t e
  · rw [vu_n _ _ z] at e; exact h.2.2.2.2 k hk t e
theorem dWF_6 {μ : KS} (h : dWF μ) {t p : Nat} (ht : kN μ 9 0 ≤ t) : dWF (sN μ 6 (va_up (kN μ 6) t p)) := by
  refine ⟨h.1, fun g h0 hg => ?_, h.2.2.1, h.2.2.2.1, h.2.2.2.2⟩
  show va_up (kN μ 6) t p g < g
  replace hg : g < kN μ 9 0 := hg
  rw [vu_n _ _ (by omega)]
  exact h.2.1 g h0 hg
theorem dWF_10 {μ : KS} (h : dWF μ) {t p : Nat} (ht : kN μ 24 0 ≤ t) : dWF (sN μ 10 (va_up (kN μ 10) t p)) := by
  refine ⟨h.1, h.2.1, fun g hg => ?_, h.2.2.2.1, h.2.2.2.2⟩
  show va_up (kN μ 10) t p g < kN μ 9 0
  replace hg : g < kN μ 24 0 := hg
  rw [vu_n _ _ (by omega)]
  exact h.2.2.1 g hg
theorem dWF_9 {μ : KS} (h : dWF μ) (h6 : kN μ 9 0 < 6) (hp : kN μ 6 (kN μ 9 0) < kN μ 9 0) : dWF (sN μ 9 (va_up (kN μ 9) 0 (kN μ 9 0 + 1))) := by
  refine ⟨⟨h.1.1, by show 1 ≤ kN μ 9 0 + 1; omega, by show kN μ 9 0 + 1 ≤ 6; omega, h.1.2.2.2⟩, fun g h0 hg => ?_, fun t ht => ?_, h.2.2.2.1, h.2.2.2.2⟩
  · show kN μ 6 g < g
    replace hg : g < kN μ 9 0 + 1 := hg
    by_cases z : g = kN μ 9 0
    · rw [z]; exact hp
    · exact h.2.1 g h0 (by omega)
  · show kN μ 10 t < kN μ 9 0 + 1
    have : kN μ 10 t < kN μ 9 0 := h.2.2.1 t ht
    omega
theorem dWF_24 {μ : KS} (h : dWF μ) (h12 : kN μ 24 0 < 12) (hg : kN μ 10 (kN μ 24 0) < kN μ 9 0) (h22 : kO μ 22 (kN μ 24 0) = none) : dWF (sN μ 24 (va_up (kN μ 24) 0 (kN μ 24 0 + 1))) := by
  refine ⟨⟨h.1.1, h.1.2.1, h.1.2.2.1, by show kN μ 24 0 + 1 ≤ 12; omega⟩, h.2.1, fun t ht => ?_, fun t ht l e => ?_, fun l hl t e => ?_⟩
  · replace ht : t < kN μ 24 0 + 1 := ht
    show kN μ 10 t < kN μ 9 0
    by_cases z : t = kN μ 24 0
    · rw [z]; exact hg
    · exact h.2.2.1 t (by omega)
  · replace ht : t < kN μ 24 0 + 1 := ht
    by_cases z : t = kN μ 24 0
    · rw [z] at e; exact nomatch (h22.symm.trans e)
    · exact h.2.2.2.1 t (by omega) l e
  · show t < kN μ 24 0 + 1
    have := h.2.2.2.2 l hl t e
    omega
theorem ahM_th (μ : KS) (v : Int32) (l t k : Nat) : ahM (thS μ v) l t k = ahM μ l t k := by
  induction k with
  | zero => rfl
  | succ k ih => rw [ahM, ahM, ih]; rfl
theorem wtT_th (μ : KS) (v : Int32) (l : Nat) (x : Int32) : wtT (thS μ v) l x = wtT μ l x := by
  have : ∀ n t, wtM (thS μ v) l x n t = wtM μ l x n t := by
    intro n
    induction n with
    | zero => intro t; rfl
    | succ n ih => intro t; rw [wtM, wtM, ih, ahM_th]; rfl
  exact this _ _
/-- a task that may not take the lock -/
def brM (μ : KS) (t w : Nat) : Prop := kB μ 21 t = true ∨ kO μ 22 t ≠ none ∨ kO μ 26 w = some t
def taM (μ : KS) (t w : Nat) : KS := sO (thS μ 0) 26 (va_up (kO μ 26) w (some t))
def tbM (μ : KS) (t w : Nat) : KS := sI (sI (sO (thS μ 0) 22 (va_up (kO μ 22) t (some w))) 23 (va_up (kI μ 23) t (kI μ 25 0))) 25 (va_up (kI μ 25) 0 (kI μ 25 0 + 1))
theorem lsM_th (μ : KS) (v : Int32) (p : Nat) : lsM (thS μ v) p = lsM μ p := by
  have h1 : ∀ j, lgM (thS μ v) p j = lgM μ p j := by
    intro j
    induction j with
    | zero => rfl
    | succ j ih => rw [lgM, lgM, ih]; rfl
  have h2 : ∀ n, ltM (thS μ v) p n = ltM μ p n := by
    intro n
    induction n with
    | zero => exact h1 _
    | succ n ih => rw [ltM, ltM, ih]; rfl
  show (if 0 ≤ ltM (thS μ v) p (kN μ 24 0) then ltM (thS μ v) p (kN μ 24 0) else 0) = _
  rw [h2]
  rfl
theorem iuM_th (μ : KS) (v : Int32) (r f a : Nat) : iuM (thS μ v) r f a = iuM μ r f a := by
  induction f generalizing a with
  | zero => rfl
  | succ f ih => rw [iuM, iuM, ih]; rfl
