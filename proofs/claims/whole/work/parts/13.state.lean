/-! THE STATES, AS NUMBERS: one type for both sides. i: ints, w: longs, n: small naturals, o: one or none, b: yes or no, l: lists; the first argument says which field, the second of which thing. -/
abbrev KS : Type := (Nat → Nat → Int32) × (Nat → Nat → Int64) × (Nat → Nat → Nat) × (Nat → Nat → Option Nat) × (Nat → Nat → Bool) × (Nat → List Nat)
def kI (σ : KS) : Nat → Nat → Int32 := σ.1
def kW (σ : KS) : Nat → Nat → Int64 := σ.2.1
def kN (σ : KS) : Nat → Nat → Nat := σ.2.2.1
def kO (σ : KS) : Nat → Nat → Option Nat := σ.2.2.2.1
def kB (σ : KS) : Nat → Nat → Bool := σ.2.2.2.2.1
def kL (σ : KS) : Nat → List Nat := σ.2.2.2.2.2
def sI (σ : KS) (f : Nat) (g : Nat → Int32) : KS := (va_up σ.1 f g, σ.2)
def sW (σ : KS) (f : Nat) (g : Nat → Int64) : KS := (σ.1, va_up σ.2.1 f g, σ.2.2)
def sN (σ : KS) (f : Nat) (g : Nat → Nat) : KS := (σ.1, σ.2.1, va_up σ.2.2.1 f g, σ.2.2.2)
def sO (σ : KS) (f : Nat) (g : Nat → Option Nat) : KS := (σ.1, σ.2.1, σ.2.2.1, va_up σ.2.2.2.1 f g, σ.2.2.2.2)
def sB (σ : KS) (f : Nat) (g : Nat → Bool) : KS := (σ.1, σ.2.1, σ.2.2.1, σ.2.2.2.1, va_up σ.2.2.2.2.1 f g, σ.2.2.2.2.2)
def sL (σ : KS) (f : Nat) (g : List Nat) : KS := (σ.1, σ.2.1, σ.2.2.1, σ.2.2.2.1, σ.2.2.2.2.1, va_up σ.2.2.2.2.2 f g)
theorem kI_sI (σ : KS) (f f2 : Nat) (g : Nat → Int32) : kI (sI σ f g) f2 = if f2 = f then g else kI σ f2 := rfl
theorem kI_sW (σ : KS) (f : Nat) (g : Nat → Int64) : kI (sW σ f g) = kI σ := rfl
theorem kI_sN (σ : KS) (f : Nat) (g : Nat → Nat) : kI (sN σ f g) = kI σ := rfl
theorem kI_sO (σ : KS) (f : Nat) (g : Nat → Option Nat) : kI (sO σ f g) = kI σ := rfl
theorem kI_sB (σ : KS) (f : Nat) (g : Nat → Bool) : kI (sB σ f g) = kI σ := rfl
theorem kI_sL (σ : KS) (f : Nat) (g : List Nat) : kI (sL σ f g) = kI σ := rfl
theorem kW_sI (σ : KS) (f : Nat) (g : Nat → Int32) : kW (sI σ f g) = kW σ := rfl
theorem kW_sW (σ : KS) (f f2 : Nat) (g : Nat → Int64) : kW (sW σ f g) f2 = if f2 = f then g else kW σ f2 := rfl
theorem kW_sN (σ : KS) (f : Nat) (g : Nat → Nat) : kW (sN σ f g) = kW σ := rfl
theorem kW_sO (σ : KS) (f : Nat) (g : Nat → Option Nat) : kW (sO σ f g) = kW σ := rfl
theorem kW_sB (σ : KS) (f : Nat) (g : Nat → Bool) : kW (sB σ f g) = kW σ := rfl
theorem kW_sL (σ : KS) (f : Nat) (g : List Nat) : kW (sL σ f g) = kW σ := rfl
theorem kN_sI (σ : KS) (f : Nat) (g : Nat → Int32) : kN (sI σ f g) = kN σ := rfl
theorem kN_sW (σ : KS) (f : Nat) (g : Nat → Int64) : kN (sW σ f g) = kN σ := rfl
theorem kN_sN (σ : KS) (f f2 : Nat) (g : Nat → Nat) : kN (sN σ f g) f2 = if f2 = f then g else kN σ f2 := rfl
theorem kN_sO (σ : KS) (f : Nat) (g : Nat → Option Nat) : kN (sO σ f g) = kN σ := rfl
theorem kN_sB (σ : KS) (f : Nat) (g : Nat → Bool) : kN (sB σ f g) = kN σ := rfl
theorem kN_sL (σ : KS) (f : Nat) (g : List Nat) : kN (sL σ f g) = kN σ := rfl
theorem kO_sI (σ : KS) (f : Nat) (g : Nat → Int32) : kO (sI σ f g) = kO σ := rfl
theorem kO_sW (σ : KS) (f : Nat) (g : Nat → Int64) : kO (sW σ f g) = kO σ := rfl
theorem kO_sN (σ : KS) (f : Nat) (g : Nat → Nat) : kO (sN σ f g) = kO σ := rfl
theorem kO_sO (σ : KS) (f f2 : Nat) (g : Nat → Option Nat) : kO (sO σ f g) f2 = if f2 = f then g else kO σ f2 := rfl
theorem kO_sB (σ : KS) (f : Nat) (g : Nat → Bool) : kO (sB σ f g) = kO σ := rfl
theorem kO_sL (σ : KS) (f : Nat) (g : List Nat) : kO (sL σ f g) = kO σ := rfl
theorem kB_sI (σ : KS) (f : Nat) (g : Nat → Int32) : kB (sI σ f g) = kB σ := rfl
theorem kB_sW (σ : KS) (f : Nat) (g : Nat → Int64) : kB (sW σ f g) = kB σ := rfl
theorem kB_sN (σ : KS) (f : Nat) (g : Nat → Nat) : kB (sN σ f g) = kB σ := rfl
theorem kB_sO (σ : KS) (f : Nat) (g : Nat → Option Nat) : kB (sO σ f g) = kB σ := rfl
theorem kB_sB (σ : KS) (f f2 : Nat) (g : Nat → Bool) : kB (sB σ f g) f2 = if f2 = f then g else kB σ f2 := rfl
theorem kB_sL (σ : KS) (f : Nat) (g : List Nat) : kB (sL σ f g) = kB σ := rfl
theorem kL_sI (σ : KS) (f : Nat) (g : Nat → Int32) : kL (sI σ f g) = kL σ := rfl
theorem kL_sW (σ : KS) (f : Nat) (g : Nat → Int64) : kL (sW σ f g) = kL σ := rfl
theorem kL_sN (σ : KS) (f : Nat) (g : Nat → Nat) : kL (sN σ f g) = kL σ := rfl
theorem kL_sO (σ : KS) (f : Nat) (g : Nat → Option Nat) : kL (sO σ f g) = kL σ := rfl
theorem kL_sB (σ : KS) (f : Nat) (g : Nat → Bool) : kL (sB σ f g) = kL σ := rfl
theorem kL_sL (σ : KS) (f f2 : Nat) (g : List Nat) : kL (sL σ f g) f2 = if f2 = f then g else kL σ f2 := rfl
/-- one of some things, or -1 -/
def oI (o : Option Nat) : Int32 := match o with
  | none => -1
  | some k => nI k
def bI (b : Bool) : Int32 := if b then 1 else 0
theorem bI_t : bI true = 1 := rfl
theorem bI_f : bI false = 0 := rfl
theorem bI_nar (b : Bool) : vp_nar .boolean (bI b) = bI b := by cases b <;> decide
theorem bI_narrow (b : Bool) : narrow .boolean (.int (bI b)) = .int (bI b) := by cases b <;> decide
theorem bI_fits (b : Bool) : fits .boolean (.int (bI b)) = true := by cases b <;> decide
theorem rf_narrow (C : String) (r : Option Nat) : narrow (.object C) (va_rf r) = va_rf r := by cases r <;> rfl
theorem rf_fits (C : String) (r : Option Nat) : fits (.object C) (va_rf r) = true := by cases r <;> rfl
/-- which of n things an int names -/
def inR (x : Int32) (n : Nat) : Option Nat := if 0 ≤ x.toInt ∧ x.toInt < n then some x.toInt.toNat else none
/-! THE SYSTEM'S CELLS. Kinds: 0 the kernel, 1 cores, 2 groups, 3 tasks, 4 locks, 5 lists (cores, groups, tasks, locks, and 4 + l: who waits for the lock l), 6 their rows. -/
abbrev KL : Type := Nat → Nat → Nat
/-- where a list's row lies, and what stands in it -/
abbrev KR : Type := (Nat → Nat) × (Nat → Nat → Option Nat)
def kd (j : Nat) : Nat := if j = 0 then 1 else if j = 1 then 2 else if j = 2 then 3 else if j = 3 then 4 else 3
def kE (σ : KS) (j i : Nat) : Nat := if j < 4 then i else (kL σ j).getD i 0
def cCell0 (L : KL) (σ : KS) (k i : Nat) : va_E := match k with
  | 0 => .inr (7, [.ref (L 5 0), .ref (L 5 1), .ref (L 5 2), .ref (L 5 3), .ref (L 2 0), .int (kI σ 0 i), .int (kI σ 1 i), .int (kI σ 2 i), .int (kI σ 3 i), .int (kI σ 4 i), .int (kI σ 5 i)])
  | 1 => .inr (3, [.int (kI σ 10 i), .int (kI σ 11 i), va_rf ((kO σ 12 i).map (L 3))])
  | 2 => .inr (4, [.int (nI i), va_rf ((kO σ 20 i).map (L 2)), .int (kI σ 22 i), .long (kW σ 23 i), .int (kI σ 24 i), .int (bI (kB σ 25 i))])
  | 3 => .inr (6, [.int (nI i), .ref (L 2 (kN σ 31 i)), .int (kI σ 32 i), .long (kW σ 33 i), .int (kI σ 34 i), .int (kI σ 35 i), .int (bI (kB σ 36 i)), .int (kI σ 37 i), .int (kI σ 38 i), .int (kI σ 39 i), .int (kI σ 40 i), .int (kI σ 41 i), va_rf ((kO σ 42 i).map (L 4)), va_rf ((kO σ 43 i).map (L 1)), .int (kI σ 44 i), .int (bI (kB σ 45 i))])
  | 4 => .inr (5, [va_rf ((kO σ 50 i).map (L 3)), .ref (L 5 (4 + i))])
  | _ => .inr (0, [])
def cCell (c : mC) (df : Nat) (L : KL) (R : KR) (σ : KS) (k i : Nat) : va_E := match k with
  | 5 => .inr (2, [.int (kI σ 60 i), .ref (if kN σ 61 i = 0 then df else R.1 i), .int (nI (kN σ 62 i))])
  | 6 => .inl (c.2.2.2.2.1, kN σ 61 i, .inr (.inr (.inr (.inr (R.2 i)))))
  | k => cCell0 L σ k i
def cAd (L : KL) (R : KR) (k i : Nat) : Nat := match k with
  | 6 => R.1 i
  | k => L k i
def cOk (σ : KS) (k i : Nat) : Prop := match k with
  | 0 => i = 0
  | 1 => i < kN σ 62 0
  | 2 => i < kN σ 62 1
  | 3 => i < kN σ 62 2
  | 4 => i < 4
  | 5 => i < 8
  | 6 => i < 8 ∧ ¬ kN σ 61 i = 0
  | _ => False
/-- what keeps the system's references in range -/
def cWF (σ : KS) : Prop :=
  (kN σ 62 0 ≤ 3 ∧ 1 ≤ kN σ 62 1 ∧ kN σ 62 1 ≤ 6 ∧ kN σ 62 2 ≤ 12 ∧ kN σ 62 3 = 4) ∧
  (∀ j, j < 8 → kN σ 62 j ≤ kN σ 61 j ∧ kN σ 61 j ≤ 100) ∧
  (∀ l, l < 4 → (kL σ (4 + l)).length = kN σ 62 (4 + l) ∧ ∀ x ∈ kL σ (4 + l), x < kN σ 62 2) ∧
  (∀ i, i < kN σ 62 0 → ∀ t, kO σ 12 i = some t → t < kN σ 62 2) ∧
  (kO σ 20 0 = none ∧ ∀ g, 0 < g → g < kN σ 62 1 → ∃ r, kO σ 20 g = some r ∧ r < g) ∧
  (∀ t, t < kN σ 62 2 → kN σ 31 t < kN σ 62 1) ∧
  (∀ t, t < kN σ 62 2 → ∀ l, kO σ 42 t = some l → l < 4) ∧
  (∀ t, t < kN σ 62 2 → ∀ i, kO σ 43 t = some i → i < kN σ 62 0) ∧
  (∀ l, l < 4 → ∀ t, kO σ 50 l = some t → t < kN σ 62 2)
def cQ (L : KL) (R : KR) (σ : KS) : Prop := ∀ j, j < 8 → (∀ i, i < kN σ 62 j → R.2 j i = some (L (kd j) (kE σ j i))) ∧ ∀ i, kN σ 62 j ≤ i → R.2 j i = none
def CRepR (c : mC) (df : Nat) (P : Nat → Prop) (h0 : mH) (L : KL) (R : KR) (σ : KS) (h : mH) : Prop :=
  (∀ k i, cOk σ k i → h (cAd L R k i) = some (cCell c df L R σ k i) ∧ P (cAd L R k i)) ∧ (∀ k i j, cOk σ k i → cOk σ k j → cAd L R k i = cAd L R k j → i = j) ∧ ((∀ a, ¬ P a → h a = h0 a) ∧ ∀ a, h0 a = none → P a) ∧ cWF σ ∧ cQ L R σ
def CRep (c : mC) (df : Nat) (P : Nat → Prop) (h0 : mH) (L : KL) (σ : KS) (h : mH) : Prop := ∃ R : KR, CRepR c df P h0 L R σ h
def tagE (e : va_E) : Nat := match e with
  | .inl _ => 0
  | .inr q => q.1 + 1
def tagK (k : Nat) : Nat := match k with
  | 0 => 8
  | 1 => 4
  | 2 => 5
  | 3 => 7
  | 4 => 6
  | 5 => 3
  | _ => 0
theorem cCell_tag (c : mC) (df : Nat) (L : KL) (R : KR) (σ : KS) {k : Nat} (i : Nat) (hk : k < 7) : tagE (cCell c df L R σ k i) = tagK k := by
  match k with
  | 0 => rfl
  | 1 => rfl
  | 2 => rfl
  | 3 => rfl
  | 4 => rfl
  | 5 => rfl
  | 6 => rfl
  | k + 7 => omega
theorem cOk_lt {σ : KS} {k i : Nat} (h : cOk σ k i) : k < 7 := by
  match k, h with
  | 0, _ => decide
  | 1, _ => decide
  | 2, _ => decide
  | 3, _ => decide
  | 4, _ => decide
  | 5, _ => decide
  | 6, _ => decide
theorem tagK_inj : ∀ k, k < 7 → ∀ j, j < 7 → tagK k = tagK j → k = j := by decide
section CR
variable {c : mC} {df : Nat} {P : Nat → Prop} {h0 h : mH} {L : KL} {R : KR} {σ : KS}
theorem CRepR.at (hC : CRepR c df P h0 L R σ h) {k i : Nat} (hk : cOk σ k i) : h (cAd L R k i) = some (cCell c df L R σ k i) := (hC.1 k i hk).1
theorem CRep.at (hC : CRep c df P h0 L σ h) {k i : Nat} (hk : cOk σ k i) (h5 : k < 5 := by decide) : h (L k i) = some (cCell0 L σ k i) := by
  obtain ⟨R, hC⟩ := hC
  have := hC.at hk
  match k with
  | 0 => exact this
  | 1 => exact this
  | 2 => exact this
  | 3 => exact this
  | 4 => exact this
  | n + 5 => omega
theorem CRep.wf (hC : CRep c df P h0 L σ h) : cWF σ := by
  obtain ⟨R, hC⟩ := hC
  exact hC.2.2.2.1
theorem CRepR.inj (hC : CRepR c df P h0 L R σ h) {k i k2 i2 : Nat} (h1 : cOk σ k i) (h2 : cOk σ k2 i2) (e : cAd L R k i = cAd L R k2 i2) : k = k2 ∧ i = i2 := by
  have e1 := hC.at h1
  rw [e, hC.at h2] at e1
  have e2 : tagK k2 = tagK k := by rw [← cCell_tag c df L R σ i2 (cOk_lt h2), ← cCell_tag c df L R σ i (cOk_lt h1), Option.some.inj e1]
  have e3 := tagK_inj k2 (cOk_lt h2) k (cOk_lt h1) e2
  subst e3
  exact ⟨rfl, hC.2.1 k2 i i2 h1 h2 e⟩
theorem CRep.inj (hC : CRep c df P h0 L σ h) {k i k2 i2 : Nat} (h1 : cOk σ k i) (h2 : cOk σ k2 i2) (e : L k i = L k2 i2) (h5 : k < 6 := by decide) (h6 : k2 < 6 := by decide) : k = k2 ∧ i = i2 := by
  obtain ⟨R, hC⟩ := hC
  have a1 : ∀ (k i : Nat), k < 6 → cAd L R k i = L k i := fun k i z => by
    match k with
    | 0 => rfl
    | 1 => rfl
    | 2 => rfl
    | 3 => rfl
    | 4 => rfl
    | 5 => rfl
    | n + 6 => omega
  exact hC.inj h1 h2 (by rw [a1 _ _ h5, a1 _ _ h6, e])
theorem CRepR.upd (hC : CRepR c df P h0 L R σ h) {k i : Nat} (hok : cOk σ k i) {σ1 : KS} {e : va_E} (he : cCell c df L R σ1 k i = e) (hs : ∀ k2 i2, cOk σ k2 i2 → (k2 = k → i2 ≠ i) → cCell c df L R σ1 k2 i2 = cCell c df L R σ k2 i2) (ho : ∀ k2 i2, cOk σ1 k2 i2 ↔ cOk σ k2 i2) (hw : cWF σ1) (hq : cQ L R σ1) : CRepR c df P h0 L R σ1 (mu h (cAd L R k i) e) := by
  refine ⟨fun k2 i2 h2 => ?_, fun k2 i2 j2 h2 h3 => hC.2.1 k2 i2 j2 ((ho _ _).mp h2) ((ho _ _).mp h3), ⟨fun a ha => ?_, hC.2.2.1.2⟩, hw, hq⟩
  · have h3 := (ho k2 i2).mp h2
    refine ⟨?_, (hC.1 k2 i2 h3).2⟩
    by_cases q : cAd L R k2 i2 = cAd L R k i
    · obtain ⟨rfl, rfl⟩ := hC.inj h3 hok q
      rw [mu_s, he]
    · rw [mu_n q, hC.at h3, hs k2 i2 h3 (fun z1 z2 => q (by rw [z1, z2]))]
  · rw [mu_n (fun q => ha (by rw [q]; exact (hC.1 k i hok).2))]
    exact hC.2.2.1.1 a ha
/-- the fields of an object, as they lie -/
def lfs (h : mH) (a : Nat) : List Value := match h a with
  | some (.inr q) => q.2
  | _ => []
theorem CRep.atL (hC : CRep c df P h0 L σ h) {j : Nat} (hj : j < 8) : h (L 5 j) = some (.inr (2, lfs h (L 5 j))) := by
  obtain ⟨R, hC⟩ := hC
  have h1 : h (L 5 j) = _ := hC.at (k := 5) (i := j) hj
  unfold lfs
  rw [h1]
  rfl
theorem g_kern0 (hC : CRep c df P h0 L σ h) {i : Nat} (hi : i = 0) : mFd h (L 0 i) 7 0 (.ref (L 5 0)) := ⟨_, hC.at (k := 0) hi, rfl⟩
theorem g_kern1 (hC : CRep c df P h0 L σ h) {i : Nat} (hi : i = 0) : mFd h (L 0 i) 7 1 (.ref (L 5 1)) := ⟨_, hC.at (k := 0) hi, rfl⟩
theorem g_kern2 (hC : CRep c df P h0 L σ h) {i : Nat} (hi : i = 0) : mFd h (L 0 i) 7 2 (.ref (L 5 2)) := ⟨_, hC.at (k := 0) hi, rfl⟩
theorem g_kern3 (hC : CRep c df P h0 L σ h) {i : Nat} (hi : i = 0) : mFd h (L 0 i) 7 3 (.ref (L 5 3)) := ⟨_, hC.at (k := 0) hi, rfl⟩
theorem g_kern4 (hC : CRep c df P h0 L σ h) {i : Nat} (hi : i = 0) : mFd h (L 0 i) 7 4 (.ref (L 2 0)) := ⟨_, hC.at (k := 0) hi, rfl⟩
theorem g_kern5 (hC : CRep c df P h0 L σ h) {i : Nat} (hi : i = 0) : mFd h (L 0 i) 7 5 (.int (kI σ 0 i)) := ⟨_, hC.at (k := 0) hi, rfl⟩
theorem g_kern6 (hC : CRep c df P h0 L σ h) {i : Nat} (hi : i = 0) : mFd h (L 0 i) 7 6 (.int (kI σ 1 i)) := ⟨_, hC.at (k := 0) hi, rfl⟩
theorem g_kern7 (hC : CRep c df P h0 L σ h) {i : Nat} (hi : i = 0) : mFd h (L 0 i) 7 7 (.int (kI σ 2 i)) := ⟨_, hC.at (k := 0) hi, rfl⟩
theorem g_kern8 (hC : CRep c df P h0 L σ h) {i : Nat} (hi : i = 0) : mFd h (L 0 i) 7 8 (.int (kI σ 3 i)) := ⟨_, hC.at (k := 0) hi, rfl⟩
theorem g_kern9 (hC : CRep c df P h0 L σ h) {i : Nat} (hi : i = 0) : mFd h (L 0 i) 7 9 (.int (kI σ 4 i)) := ⟨_, hC.at (k := 0) hi, rfl⟩
theorem g_kern10 (hC : CRep c df P h0 L σ h) {i : Nat} (hi : i = 0) : mFd h (L 0 i) 7 10 (.int (kI σ 5 i)) := ⟨_, hC.at (k := 0) hi, rfl⟩
theorem g_core0 (hC : CRep c df P h0 L σ h) {i : Nat} (hi : i < kN σ 62 0) : mFd h (L 1 i) 3 0 (.int (kI σ 10 i)) := ⟨_, hC.at (k := 1) hi, rfl⟩
theorem g_core1 (hC : CRep c df P h0 L σ h) {i : Nat} (hi : i < kN σ 62 0) : mFd h (L 1 i) 3 1 (.int (kI σ 11 i)) := ⟨_, hC.at (k := 1) hi, rfl⟩
theorem g_core2 (hC : CRep c df P h0 L σ h) {i : Nat} (hi : i < kN σ 62 0) : mFd h (L 1 i) 3 2 (va_rf ((kO σ 12 i).map (L 3))) := ⟨_, hC.at (k := 1) hi, rfl⟩
theorem g_grp0 (hC : CRep c df P h0 L σ h) {i : Nat} (hi : i < kN σ 62 1) : mFd h (L 2 i) 4 0 (.int (nI i)) := ⟨_, hC.at (k := 2) hi, rfl⟩
theorem g_grp1 (hC : CRep c df P h0 L σ h) {i : Nat} (hi : i < kN σ 62 1) : mFd h (L 2 i) 4 1 (va_rf ((kO σ 20 i).map (L 2))) := ⟨_, hC.at (k := 2) hi, rfl⟩
theorem g_grp2 (hC : CRep c df P h0 L σ h) {i : Nat} (hi : i < kN σ 62 1) : mFd h (L 2 i) 4 2 (.int (kI σ 22 i)) := ⟨_, hC.at (k := 2) hi, rfl⟩
theorem g_grp3 (hC : CRep c df P h0 L σ h) {i : Nat} (hi : i < kN σ 62 1) : mFd h (L 2 i) 4 3 (.long (kW σ 23 i)) := ⟨_, hC.at (k := 2) hi, rfl⟩
theorem g_grp4 (hC : CRep c df P h0 L σ h) {i : Nat} (hi : i < kN σ 62 1) : mFd h (L 2 i) 4 4 (.int (kI σ 24 i)) := ⟨_, hC.at (k := 2) hi, rfl⟩
theorem g_grp5 (hC : CRep c df P h0 L σ h) {i : Nat} (hi : i < kN σ 62 1) : mFd h (L 2 i) 4 5 (.int (bI (kB σ 25 i))) := ⟨_, hC.at (k := 2) hi, rfl⟩
theorem g_task0 (hC : CRep c df P h0 L σ h) {i : Nat} (hi : i < kN σ 62 2) : mFd h (L 3 i) 6 0 (.int (nI i)) := ⟨_, hC.at (k := 3) hi, rfl⟩
theorem g_task1 (hC : CRep c df P h0 L σ h) {i : Nat} (hi : i < kN σ 62 2) : mFd h (L 3 i) 6 1 (.ref (L 2 (kN σ 31 i))) := ⟨_, hC.at (k := 3) hi, rfl⟩
theorem g_task2 (hC : CRep c df P h0 L σ h) {i : Nat} (hi : i < kN σ 62 2) : mFd h (L 3 i) 6 2 (.int (kI σ 32 i)) := ⟨_, hC.at (k := 3) hi, rfl⟩
theorem g_task3 (hC : CRep c df P h0 L σ h) {i : Nat} (hi : i < kN σ 62 2) : mFd h (L 3 i) 6 3 (.long (kW σ 33 i)) := ⟨_, hC.at (k := 3) hi, rfl⟩
theorem g_task4 (hC : CRep c df P h0 L σ h) {i : Nat} (hi : i < kN σ 62 2) : mFd h (L 3 i) 6 4 (.int (kI σ 34 i)) := ⟨_, hC.at (k := 3) hi, rfl⟩
theorem g_task5 (hC : CRep c df P h0 L σ h) {i : Nat} (hi : i < kN σ 62 2) : mFd h (L 3 i) 6 5 (.int (kI σ 35 i)) := ⟨_, hC.at (k := 3) hi, rfl⟩
theorem g_task6 (hC : CRep c df P h0 L σ h) {i : Nat} (hi : i < kN σ 62 2) : mFd h (L 3 i) 6 6 (.int (bI (kB σ 36 i))) := ⟨_, hC.at (k := 3) hi, rfl⟩
theorem g_task7 (hC : CRep c df P h0 L σ h) {i : Nat} (hi : i < kN σ 62 2) : mFd h (L 3 i) 6 7 (.int (kI σ 37 i)) := ⟨_, hC.at (k := 3) hi, rfl⟩
theorem g_task8 (hC : CRep c df P h0 L σ h) {i : Nat} (hi : i < kN σ 62 2) : mFd h (L 3 i) 6 8 (.int (kI σ 38 i)) := ⟨_, hC.at (k := 3) hi, rfl⟩
theorem g_task9 (hC : CRep c df P h0 L σ h) {i : Nat} (hi : i < kN σ 62 2) : mFd h (L 3 i) 6 9 (.int (kI σ 39 i)) := ⟨_, hC.at (k := 3) hi, rfl⟩
theorem g_task10 (hC : CRep c df P h0 L σ h) {i : Nat} (hi : i < kN σ 62 2) : mFd h (L 3 i) 6 10 (.int (kI σ 40 i)) := ⟨_, hC.at (k := 3) hi, rfl⟩
theorem g_task11 (hC : CRep c df P h0 L σ h) {i : Nat} (hi : i < kN σ 62 2) : mFd h (L 3 i) 6 11 (.int (kI σ 41 i)) := ⟨_, hC.at (k := 3) hi, rfl⟩
theorem g_task12 (hC : CRep c df P h0 L σ h) {i : Nat} (hi : i < kN σ 62 2) : mFd h (L 3 i) 6 12 (va_rf ((kO σ 42 i).map (L 4))) := ⟨_, hC.at (k := 3) hi, rfl⟩
theorem g_task13 (hC : CRep c df P h0 L σ h) {i : Nat} (hi : i < kN σ 62 2) : mFd h (L 3 i) 6 13 (va_rf ((kO σ 43 i).map (L 1))) := ⟨_, hC.at (k := 3) hi, rfl⟩
theorem g_task14 (hC : CRep c df P h0 L σ h) {i : Nat} (hi : i < kN σ 62 2) : mFd h (L 3 i) 6 14 (.int (kI σ 44 i)) := ⟨_, hC.at (k := 3) hi, rfl⟩
theorem g_task15 (hC : CRep c df P h0 L σ h) {i : Nat} (hi : i < kN σ 62 2) : mFd h (L 3 i) 6 15 (.int (bI (kB σ 45 i))) := ⟨_, hC.at (k := 3) hi, rfl⟩
theorem g_lock0 (hC : CRep c df P h0 L σ h) {i : Nat} (hi : i < 4) : mFd h (L 4 i) 5 0 (va_rf ((kO σ 50 i).map (L 3))) := ⟨_, hC.at (k := 4) hi, rfl⟩
theorem g_lock1 (hC : CRep c df P h0 L σ h) {i : Nat} (hi : i < 4) : mFd h (L 4 i) 5 1 (.ref (L 5 (4 + i))) := ⟨_, hC.at (k := 4) hi, rfl⟩
theorem p_kern5 (hC : CRep c df P h0 L σ h) {i : Nat} (hi : i = 0) (x : Int32) : mFp h (L 0 i) 7 5 (.int x) (CRep c df P h0 L (sI σ 0 (va_up (kI σ 0) i x))) := by
  obtain ⟨R, hC⟩ := hC
  refine ⟨_, hC.at (k := 0) hi, Nat.le_of_ble_eq_true rfl, ⟨R, hC.upd (k := 0) hi ?_ ?_ (fun _ _ => Iff.rfl) ?_ hC.2.2.2.2⟩⟩
  · simp [cCell, cCell0, sI, kI, va_up, kI, kW, kN, kO, kB]
  · intro k2 i2 _ hne
    match k2 with
    | 0 => simp [cCell, cCell0, sI, va_up, kI, kW, kN, kO, kB, hne rfl]
    | 1 => rfl
    | 2 => rfl
    | 3 => rfl
    | 4 => rfl
    | 5 => rfl
    | 6 => rfl
    | n + 7 => rfl
  · exact hC.2.2.2.1
theorem p_kern6 (hC : CRep c df P h0 L σ h) {i : Nat} (hi : i = 0) (x : Int32) : mFp h (L 0 i) 7 6 (.int x) (CRep c df P h0 L (sI σ 1 (va_up (kI σ 1) i x))) := by
  obtain ⟨R, hC⟩ := hC
  refine ⟨_, hC.at (k := 0) hi, Nat.le_of_ble_eq_true rfl, ⟨R, hC.upd (k := 0) hi ?_ ?_ (fun _ _ => Iff.rfl) ?_ hC.2.2.2.2⟩⟩
  · simp [cCell, cCell0, sI, kI, va_up, kI, kW, kN, kO, kB]
  · intro k2 i2 _ hne
    match k2 with
    | 0 => simp [cCell, cCell0, sI, va_up, kI, kW, kN, kO, kB, hne rfl]
    | 1 => rfl
    | 2 => rfl
    | 3 => rfl
    | 4 => rfl
    | 5 => rfl
    | 6 => rfl
    | n + 7 => rfl
  · exact hC.2.2.2.1
theorem p_kern7 (hC : CRep c df P h0 L σ h) {i : Nat} (hi : i = 0) (x : Int32) : mFp h (L 0 i) 7 7 (.int x) (CRep c df P h0 L (sI σ 2 (va_up (kI σ 2) i x))) := by
  obtain ⟨R, hC⟩ := hC
  refine ⟨_, hC.at (k := 0) hi, Nat.le_of_ble_eq_true rfl, ⟨R, hC.upd (k := 0) hi ?_ ?_ (fun _ _ => Iff.rfl) ?_ hC.2.2.2.2⟩⟩
  · simp [cCell, cCell0, sI, kI, va_up, kI, kW, kN, kO, kB]
  · intro k2 i2 _ hne
    match k2 with
    | 0 => simp [cCell, cCell0, sI, va_up, kI, kW, kN, kO, kB, hne rfl]
    | 1 => rfl
    | 2 => rfl
    | 3 => rfl
    | 4 => rfl
    | 5 => rfl
    | 6 => rfl
    | n + 7 => rfl
  · exact hC.2.2.2.1
theorem p_kern8 (hC : CRep c df P h0 L σ h) {i : Nat} (hi : i = 0) (x : Int32) : mFp h (L 0 i) 7 8 (.int x) (CRep c df P h0 L (sI σ 3 (va_up (kI σ 3) i x))) := by
  obtain ⟨R, hC⟩ := hC
  refine ⟨_, hC.at (k := 0) hi, Nat.le_of_ble_eq_true rfl, ⟨R, hC.upd (k := 0) hi ?_ ?_ (fun _ _ => Iff.rfl) ?_ hC.2.2.2.2⟩⟩
  · simp [cCell, cCell0, sI, kI, va_up, kI, kW, kN, kO, kB]
  · intro k2 i2 _ hne
    match k2 with
    | 0 => simp [cCell, cCell0, sI, va_up, kI, kW, kN, kO, kB, hne rfl]
    | 1 => rfl
    | 2 => rfl
    | 3 => rfl
    | 4 => rfl
    | 5 => rfl
    | 6 => rfl
    | n + 7 => rfl
  · exact hC.2.2.2.1
theorem p_kern9 (hC : CRep c df P h0 L σ h) {i : Nat} (hi : i = 0) (x : Int32) : mFp h (L 0 i) 7 9 (.int x) (CRep c df P h0 L (sI σ 4 (va_up (kI σ 4) i x))) := by
  obtain ⟨R, hC⟩ := hC
  refine ⟨_, hC.at (k := 0) hi, Nat.le_of_ble_eq_true rfl, ⟨R, hC.upd (k := 0) hi ?_ ?_ (fun _ _ => Iff.rfl) ?_ hC.2.2.2.2⟩⟩
  · simp [cCell, cCell0, sI, kI, va_up, kI, kW, kN, kO, kB]
  · intro k2 i2 _ hne
    match k2 with
    | 0 => simp [cCell, cCell0, sI, va_up, kI, kW, kN, kO, kB, hne rfl]
    | 1 => rfl
    | 2 => rfl
    | 3 => rfl
    | 4 => rfl
    | 5 => rfl
    | 6 => rfl
    | n + 7 => rfl
  · exact hC.2.2.2.1
theorem p_kern10 (hC : CRep c df P h0 L σ h) {i : Nat} (hi : i = 0) (x : Int32) : mFp h (L 0 i) 7 10 (.int x) (CRep c df P h0 L (sI σ 5 (va_up (kI σ 5) i x))) := by
  obtain ⟨R, hC⟩ := hC
  refine ⟨_, hC.at (k := 0) hi, Nat.le_of_ble_eq_true rfl, ⟨R, hC.upd (k := 0) hi ?_ ?_ (fun _ _ => Iff.rfl) ?_ hC.2.2.2.2⟩⟩
  · simp [cCell, cCell0, sI, kI, va_up, kI, kW, kN, kO, kB]
  · intro k2 i2 _ hne
    match k2 with
    | 0 => simp [cCell, cCell0, sI, va_up, kI, kW, kN, kO, kB, hne rfl]
    | 1 => rfl
    | 2 => rfl
    | 3 => rfl
    | 4 => rfl
    | 5 => rfl
    | 6 => rfl
    | n + 7 => rfl
  · exact hC.2.2.2.1
theorem p_core1 (hC : CRep c df P h0 L σ h) {i : Nat} (hi : i < kN σ 62 0) (x : Int32) : mFp h (L 1 i) 3 1 (.int x) (CRep c df P h0 L (sI σ 11 (va_up (kI σ 11) i x))) := by
  obtain ⟨R, hC⟩ := hC
  refine ⟨_, hC.at (k := 1) hi, Nat.le_of_ble_eq_true rfl, ⟨R, hC.upd (k := 1) hi ?_ ?_ (fun _ _ => Iff.rfl) ?_ hC.2.2.2.2⟩⟩
  · simp [cCell, cCell0, sI, kI, va_up, kI, kW, kN, kO, kB]
  · intro k2 i2 _ hne
    match k2 with
    | 0 => rfl
    | 1 => simp [cCell, cCell0, sI, va_up, kI, kW, kN, kO, kB, hne rfl]
    | 2 => rfl
    | 3 => rfl
    | 4 => rfl
    | 5 => rfl
    | 6 => rfl
    | n + 7 => rfl
  · exact hC.2.2.2.1
theorem p_core2 (hC : CRep c df P h0 L σ h) {i : Nat} (hi : i < kN σ 62 0) (x : Option Nat) (hx : ∀ t, x = some t → t < kN σ 62 2) : mFp h (L 1 i) 3 2 (va_rf (x.map (L 3))) (CRep c df P h0 L (sO σ 12 (va_up (kO σ 12) i x))) := by
  obtain ⟨R, hC⟩ := hC
  refine ⟨_, hC.at (k := 1) hi, Nat.le_of_ble_eq_true rfl, ⟨R, hC.upd (k := 1) hi ?_ ?_ (fun _ _ => Iff.rfl) ?_ hC.2.2.2.2⟩⟩
  · simp [cCell, cCell0, sO, kO, va_up, kI, kW, kN, kO, kB]
  · intro k2 i2 _ hne
    match k2 with
    | 0 => rfl
    | 1 => simp [cCell, cCell0, sO, va_up, kI, kW, kN, kO, kB, hne rfl]
    | 2 => rfl
    | 3 => rfl
    | 4 => rfl
    | 5 => rfl
    | 6 => rfl
    | n + 7 => rfl
  · obtain ⟨w1, w2, w3, w4, w5, w6, w7, w8, w9⟩ := hC.2.2.2.1
    refine ⟨w1, w2, w3, ?_, w5, w6, w7, w8, w9⟩
    intro j hj t ht
    by_cases e : j = i
    · subst e
      exact hx t (by simpa [sO, kO, va_up] using ht)
    · exact w4 j hj t (by simpa [sO, kO, va_up, e] using ht)
theorem p_grp3 (hC : CRep c df P h0 L σ h) {i : Nat} (hi : i < kN σ 62 1) (x : Int64) : mFp h (L 2 i) 4 3 (.long x) (CRep c df P h0 L (sW σ 23 (va_up (kW σ 23) i x))) := by
  obtain ⟨R, hC⟩ := hC
  refine ⟨_, hC.at (k := 2) hi, Nat.le_of_ble_eq_true rfl, ⟨R, hC.upd (k := 2) hi ?_ ?_ (fun _ _ => Iff.rfl) ?_ hC.2.2.2.2⟩⟩
  · simp [cCell, cCell0, sW, kW, va_up, kI, kW, kN, kO, kB]
  · intro k2 i2 _ hne
    match k2 with
    | 0 => rfl
    | 1 => rfl
    | 2 => simp [cCell, cCell0, sW, va_up, kI, kW, kN, kO, kB, hne rfl]
    | 3 => rfl
    | 4 => rfl
    | 5 => rfl
    | 6 => rfl
    | n + 7 => rfl
  · exact hC.2.2.2.1
theorem p_grp4 (hC : CRep c df P h0 L σ h) {i : Nat} (hi : i < kN σ 62 1) (x : Int32) : mFp h (L 2 i) 4 4 (.int x) (CRep c df P h0 L (sI σ 24 (va_up (kI σ 24) i x))) := by
  obtain ⟨R, hC⟩ := hC
  refine ⟨_, hC.at (k := 2) hi, Nat.le_of_ble_eq_true rfl, ⟨R, hC.upd (k := 2) hi ?_ ?_ (fun _ _ => Iff.rfl) ?_ hC.2.2.2.2⟩⟩
  · simp [cCell, cCell0, sI, kI, va_up, kI, kW, kN, kO, kB]
  · intro k2 i2 _ hne
    match k2 with
    | 0 => rfl
    | 1 => rfl
    | 2 => simp [cCell, cCell0, sI, va_up, kI, kW, kN, kO, kB, hne rfl]
    | 3 => rfl
    | 4 => rfl
    | 5 => rfl
    | 6 => rfl
    | n + 7 => rfl
  · exact hC.2.2.2.1
theorem p_grp5 (hC : CRep c df P h0 L σ h) {i : Nat} (hi : i < kN σ 62 1) (x : Bool) : mFp h (L 2 i) 4 5 (.int (bI x)) (CRep c df P h0 L (sB σ 25 (va_up (kB σ 25) i x))) := by
  obtain ⟨R, hC⟩ := hC
  refine ⟨_, hC.at (k := 2) hi, Nat.le_of_ble_eq_true rfl, ⟨R, hC.upd (k := 2) hi ?_ ?_ (fun _ _ => Iff.rfl) ?_ hC.2.2.2.2⟩⟩
  · simp [cCell, cCell0, sB, kB, va_up, kI, kW, kN, kO, kB]
  · intro k2 i2 _ hne
    match k2 with
    | 0 => rfl
    | 1 => rfl
    | 2 => simp [cCell, cCell0, sB, va_up, kI, kW, kN, kO, kB, hne rfl]
    | 3 => rfl
    | 4 => rfl
    | 5 => rfl
    | 6 => rfl
    | n + 7 => rfl
  · exact hC.2.2.2.1
theorem p_task3 (hC : CRep c df P h0 L σ h) {i : Nat} (hi : i < kN σ 62 2) (x : Int64) : mFp h (L 3 i) 6 3 (.long x) (CRep c df P h0 L (sW σ 33 (va_up (kW σ 33) i x))) := by
  obtain ⟨R, hC⟩ := hC
  refine ⟨_, hC.at (k := 3) hi, Nat.le_of_ble_eq_true rfl, ⟨R, hC.upd (k := 3) hi ?_ ?_ (fun _ _ => Iff.rfl) ?_ hC.2.2.2.2⟩⟩
  · simp [cCell, cCell0, sW, kW, va_up, kI, kW, kN, kO, kB]
  · intro k2 i2 _ hne
    match k2 with
    | 0 => rfl
    | 1 => rfl
    | 2 => rfl
    | 3 => simp [cCell, cCell0, sW, va_up, kI, kW, kN, kO, kB, hne rfl]
    | 4 => rfl
    | 5 => rfl
    | 6 => rfl
    | n + 7 => rfl
  · exact hC.2.2.2.1
theorem p_task4 (hC : CRep c df P h0 L σ h) {i : Nat} (hi : i < kN σ 62 2) (x : Int32) : mFp h (L 3 i) 6 4 (.int x) (CRep c df P h0 L (sI σ 34 (va_up (kI σ 34) i x))) := by
  obtain ⟨R, hC⟩ := hC
  refine ⟨_, hC.at (k := 3) hi, Nat.le_of_ble_eq_true rfl, ⟨R, hC.upd (k := 3) hi ?_ ?_ (fun _ _ => Iff.rfl) ?_ hC.2.2.2.2⟩⟩
  · simp [cCell, cCell0, sI, kI, va_up, kI, kW, kN, kO, kB]
  · intro k2 i2 _ hne
    match k2 with
    | 0 => rfl
    | 1 => rfl
    | 2 => rfl
    | 3 => simp [cCell, cCell0, sI, va_up, kI, kW, kN, kO, kB, hne rfl]
    | 4 => rfl
    | 5 => rfl
    | 6 => rfl
    | n + 7 => rfl
  · exact hC.2.2.2.1
theorem p_task5 (hC : CRep c df P h0 L σ h) {i : Nat} (hi : i < kN σ 62 2) (x : Int32) : mFp h (L 3 i) 6 5 (.int x) (CRep c df P h0 L (sI σ 35 (va_up (kI σ 35) i x))) := by
  obtain ⟨R, hC⟩ := hC
  refine ⟨_, hC.at (k := 3) hi, Nat.le_of_ble_eq_true rfl, ⟨R, hC.upd (k := 3) hi ?_ ?_ (fun _ _ => Iff.rfl) ?_ hC.2.2.2.2⟩⟩
  · simp [cCell, cCell0, sI, kI, va_up, kI, kW, kN, kO, kB]
  · intro k2 i2 _ hne
    match k2 with
    | 0 => rfl
    | 1 => rfl
    | 2 => rfl
    | 3 => simp [cCell, cCell0, sI, va_up, kI, kW, kN, kO, kB, hne rfl]
    | 4 => rfl
    | 5 => rfl
    | 6 => rfl
    | n + 7 => rfl
  · exact hC.2.2.2.1
theorem p_task6 (hC : CRep c df P h0 L σ h) {i : Nat} (hi : i < kN σ 62 2) (x : Bool) : mFp h (L 3 i) 6 6 (.int (bI x)) (CRep c df P h0 L (sB σ 36 (va_up (kB σ 36) i x))) := by
  obtain ⟨R, hC⟩ := hC
  refine ⟨_, hC.at (k := 3) hi, Nat.le_of_ble_eq_true rfl, ⟨R, hC.upd (k := 3) hi ?_ ?_ (fun _ _ => Iff.rfl) ?_ hC.2.2.2.2⟩⟩
  · simp [cCell, cCell0, sB, kB, va_up, kI, kW, kN, kO, kB]
  · intro k2 i2 _ hne
    match k2 with
    | 0 => rfl
    | 1 => rfl
    | 2 => rfl
    | 3 => simp [cCell, cCell0, sB, va_up, kI, kW, kN, kO, kB, hne rfl]
    | 4 => rfl
    | 5 => rfl
    | 6 => rfl
    | n + 7 => rfl
  · exact hC.2.2.2.1
theorem p_task7 (hC : CRep c df P h0 L σ h) {i : Nat} (hi : i < kN σ 62 2) (x : Int32) : mFp h (L 3 i) 6 7 (.int x) (CRep c df P h0 L (sI σ 37 (va_up (kI σ 37) i x))) := by
  obtain ⟨R, hC⟩ := hC
  refine ⟨_, hC.at (k := 3) hi, Nat.le_of_ble_eq_true rfl, ⟨R, hC.upd (k := 3) hi ?_ ?_ (fun _ _ => Iff.rfl) ?_ hC.2.2.2.2⟩⟩
  · simp [cCell, cCell0, sI, kI, va_up, kI, kW, kN, kO, kB]
  · intro k2 i2 _ hne
    match k2 with
    | 0 => rfl
    | 1 => rfl
    | 2 => rfl
    | 3 => simp [cCell, cCell0, sI, va_up, kI, kW, kN, kO, kB, hne rfl]
    | 4 => rfl
    | 5 => rfl
    | 6 => rfl
    | n + 7 => rfl
  · exact hC.2.2.2.1
theorem p_task8 (hC : CRep c df P h0 L σ h) {i : Nat} (hi : i < kN σ 62 2) (x : Int32) : mFp h (L 3 i) 6 8 (.int x) (CRep c df P h0 L (sI σ 38 (va_up (kI σ 38) i x))) := by
  obtain ⟨R, hC⟩ := hC
  refine ⟨_, hC.at (k := 3) hi, Nat.le_of_ble_eq_true rfl, ⟨R, hC.upd (k := 3) hi ?_ ?_ (fun _ _ => Iff.rfl) ?_ hC.2.2.2.2⟩⟩
  · simp [cCell, cCell0, sI, kI, va_up, kI, kW, kN, kO, kB]
  · intro k2 i2 _ hne
    match k2 with
    | 0 => rfl
    | 1 => rfl
    | 2 => rfl
    | 3 => simp [cCell, cCell0, sI, va_up, kI, kW, kN, kO, kB, hne rfl]
    | 4 => rfl
    | 5 => rfl
    | 6 => rfl
    | n + 7 => rfl
  · exact hC.2.2.2.1
theorem p_task9 (hC : CRep c df P h0 L σ h) {i : Nat} (hi : i < kN σ 62 2) (x : Int32) : mFp h (L 3 i) 6 9 (.int x) (CRep c df P h0 L (sI σ 39 (va_up (kI σ 39) i x))) := by
  obtain ⟨R, hC⟩ := hC
  refine ⟨_, hC.at (k := 3) hi, Nat.le_of_ble_eq_true rfl, ⟨R, hC.upd (k := 3) hi ?_ ?_ (fun _ _ => Iff.rfl) ?_ hC.2.2.2.2⟩⟩
  · simp [cCell, cCell0, sI, kI, va_up, kI, kW, kN, kO, kB]
  · intro k2 i2 _ hne
    match k2 with
    | 0 => rfl
    | 1 => rfl
    | 2 => rfl
    | 3 => simp [cCell, cCell0, sI, va_up, kI, kW, kN, kO, kB, hne rfl]
    | 4 => rfl
    | 5 => rfl
    | 6 => rfl
    | n + 7 => rfl
  · exact hC.2.2.2.1
theorem p_task10 (hC : CRep c df P h0 L σ h) {i : Nat} (hi : i < kN σ 62 2) (x : Int32) : mFp h (L 3 i) 6 10 (.int x) (CRep c df P h0 L (sI σ 40 (va_up (kI σ 40) i x))) := by
  obtain ⟨R, hC⟩ := hC
  refine ⟨_, hC.at (k := 3) hi, Nat.le_of_ble_eq_true rfl, ⟨R, hC.upd (k := 3) hi ?_ ?_ (fun _ _ => Iff.rfl) ?_ hC.2.2.2.2⟩⟩
  · simp [cCell, cCell0, sI, kI, va_up, kI, kW, kN, kO, kB]
  · intro k2 i2 _ hne
    match k2 with
    | 0 => rfl
    | 1 => rfl
    | 2 => rfl
    | 3 => simp [cCell, cCell0, sI, va_up, kI, kW, kN, kO, kB, hne rfl]
    | 4 => rfl
    | 5 => rfl
    | 6 => rfl
    | n + 7 => rfl
  · exact hC.2.2.2.1
theorem p_task11 (hC : CRep c df P h0 L σ h) {i : Nat} (hi : i < kN σ 62 2) (x : Int32) : mFp h (L 3 i) 6 11 (.int x) (CRep c df P h0 L (sI σ 41 (va_up (kI σ 41) i x))) := by
  obtain ⟨R, hC⟩ := hC
  refine ⟨_, hC.at (k := 3) hi, Nat.le_of_ble_eq_true rfl, ⟨R, hC.upd (k := 3) hi ?_ ?_ (fun _ _ => Iff.rfl) ?_ hC.2.2.2.2⟩⟩
  · simp [cCell, cCell0, sI, kI, va_up, kI, kW, kN, kO, kB]
  · intro k2 i2 _ hne
    match k2 with
    | 0 => rfl
    | 1 => rfl
    | 2 => rfl
    | 3 => simp [cCell, cCell0, sI, va_up, kI, kW, kN, kO, kB, hne rfl]
    | 4 => rfl
    | 5 => rfl
    | 6 => rfl
    | n + 7 => rfl
  · exact hC.2.2.2.1
theorem p_task12 (hC : CRep c df P h0 L σ h) {i : Nat} (hi : i < kN σ 62 2) (x : Option Nat) (hx : ∀ t, x = some t → t < 4) : mFp h (L 3 i) 6 12 (va_rf (x.map (L 4))) (CRep c df P h0 L (sO σ 42 (va_up (kO σ 42) i x))) := by
  obtain ⟨R, hC⟩ := hC
  refine ⟨_, hC.at (k := 3) hi, Nat.le_of_ble_eq_true rfl, ⟨R, hC.upd (k := 3) hi ?_ ?_ (fun _ _ => Iff.rfl) ?_ hC.2.2.2.2⟩⟩
  · simp [cCell, cCell0, sO, kO, va_up, kI, kW, kN, kO, kB]
  · intro k2 i2 _ hne
    match k2 with
    | 0 => rfl
    | 1 => rfl
    | 2 => rfl
    | 3 => simp [cCell, cCell0, sO, va_up, kI, kW, kN, kO, kB, hne rfl]
    | 4 => rfl
    | 5 => rfl
    | 6 => rfl
    | n + 7 => rfl
  · obtain ⟨w1, w2, w3, w4, w5, w6, w7, w8, w9⟩ := hC.2.2.2.1
    refine ⟨w1, w2, w3, w4, w5, w6, ?_, w8, w9⟩
    intro j hj t ht
    by_cases e : j = i
    · subst e
      exact hx t (by simpa [sO, kO, va_up] using ht)
    · exact w7 j hj t (by simpa [sO, kO, va_up, e] using ht)
theorem p_task13 (hC : CRep c df P h0 L σ h) {i : Nat} (hi : i < kN σ 62 2) (x : Option Nat) (hx : ∀ t, x = some t → t < kN σ 62 0) : mFp h (L 3 i) 6 13 (va_rf (x.map (L 1))) (CRep c df P h0 L (sO σ 43 (va_up (kO σ 43) i x))) := by
  obtain ⟨R, hC⟩ := hC
  refine ⟨_, hC.at (k := 3) hi, Nat.le_of_ble_eq_true rfl, ⟨R, hC.upd (k := 3) hi ?_ ?_ (fun _ _ => Iff.rfl) ?_ hC.2.2.2.2⟩⟩
  · simp [cCell, cCell0, sO, kO, va_up, kI, kW, kN, kO, kB]
  · intro k2 i2 _ hne
    match k2 with
    | 0 => rfl
    | 1 => rfl
    | 2 => rfl
    | 3 => simp [cCell, cCell0, sO, va_up, kI, kW, kN, kO, kB, hne rfl]
    | 4 => rfl
    | 5 => rfl
    | 6 => rfl
    | n + 7 => rfl
  · obtain ⟨w1, w2, w3, w4, w5, w6, w7, w8, w9⟩ := hC.2.2.2.1
    refine ⟨w1, w2, w3, w4, w5, w6, w7, ?_, w9⟩
    intro j hj t ht
    by_cases e : j = i
    · subst e
      exact hx t (by simpa [sO, kO, va_up] using ht)
    · exact w8 j hj t (by simpa [sO, kO, va_up, e] using ht)
theorem p_task14 (hC : CRep c df P h0 L σ h) {i : Nat} (hi : i < kN σ 62 2) (x : Int32) : mFp h (L 3 i) 6 14 (.int x) (CRep c df P h0 L (sI σ 44 (va_up (kI σ 44) i x))) := by
  obtain ⟨R, hC⟩ := hC
  refine ⟨_, hC.at (k := 3) hi, Nat.le_of_ble_eq_true rfl, ⟨R, hC.upd (k := 3) hi ?_ ?_ (fun _ _ => Iff.rfl) ?_ hC.2.2.2.2⟩⟩
  · simp [cCell, cCell0, sI, kI, va_up, kI, kW, kN, kO, kB]
  · intro k2 i2 _ hne
    match k2 with
    | 0 => rfl
    | 1 => rfl
    | 2 => rfl
    | 3 => simp [cCell, cCell0, sI, va_up, kI, kW, kN, kO, kB, hne rfl]
    | 4 => rfl
    | 5 => rfl
    | 6 => rfl
    | n + 7 => rfl
  · exact hC.2.2.2.1
theorem p_task15 (hC : CRep c df P h0 L σ h) {i : Nat} (hi : i < kN σ 62 2) (x : Bool) : mFp h (L 3 i) 6 15 (.int (bI x)) (CRep c df P h0 L (sB σ 45 (va_up (kB σ 45) i x))) := by
  obtain ⟨R, hC⟩ := hC
  refine ⟨_, hC.at (k := 3) hi, Nat.le_of_ble_eq_true rfl, ⟨R, hC.upd (k := 3) hi ?_ ?_ (fun _ _ => Iff.rfl) ?_ hC.2.2.2.2⟩⟩
  · simp [cCell, cCell0, sB, kB, va_up, kI, kW, kN, kO, kB]
  · intro k2 i2 _ hne
    match k2 with
    | 0 => rfl
    | 1 => rfl
    | 2 => rfl
    | 3 => simp [cCell, cCell0, sB, va_up, kI, kW, kN, kO, kB, hne rfl]
    | 4 => rfl
    | 5 => rfl
    | 6 => rfl
    | n + 7 => rfl
  · exact hC.2.2.2.1
theorem p_lock0 (hC : CRep c df P h0 L σ h) {i : Nat} (hi : i < 4) (x : Option Nat) (hx : ∀ t, x = some t → t < kN σ 62 2) : mFp h (L 4 i) 5 0 (va_rf (x.map (L 3))) (CRep c df P h0 L (sO σ 50 (va_up (kO σ 50) i x))) := by
  obtain ⟨R, hC⟩ := hC
  refine ⟨_, hC.at (k := 4) hi, Nat.le_of_ble_eq_true rfl, ⟨R, hC.upd (k := 4) hi ?_ ?_ (fun _ _ => Iff.rfl) ?_ hC.2.2.2.2⟩⟩
  · simp [cCell, cCell0, sO, kO, va_up, kI, kW, kN, kO, kB]
  · intro k2 i2 _ hne
    match k2 with
    | 0 => rfl
    | 1 => rfl
    | 2 => rfl
    | 3 => rfl
    | 4 => simp [cCell, cCell0, sO, va_up, kI, kW, kN, kO, kB, hne rfl]
    | 5 => rfl
    | 6 => rfl
    | n + 7 => rfl
  · obtain ⟨w1, w2, w3, w4, w5, w6, w7, w8, w9⟩ := hC.2.2.2.1
    refine ⟨w1, w2, w3, w4, w5, w6, w7, w8, ?_⟩
    intro j hj t ht
    by_cases e : j = i
    · subst e
      exact hx t (by simpa [sO, kO, va_up] using ht)
    · exact w9 j hj t (by simpa [sO, kO, va_up, e] using ht)
end CR
