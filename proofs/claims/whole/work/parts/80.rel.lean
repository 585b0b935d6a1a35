/-! BOTH SIDES' STATES, side by side: n calls after the beginning -/
def rS (σ μ : KS) : Prop := kI σ 0 0 = kI μ 4 0 ∧ kI σ 1 0 = kI μ 5 0 ∧ kI σ 2 0 = kI μ 0 0 ∧ kI σ 3 0 = kI μ 27 0 ∧ kI σ 4 0 = kI μ 28 0 ∧ kI σ 5 0 = kI μ 29 0
def rN (σ μ : KS) : Prop := kN σ 62 0 = kN μ 3 0 ∧ kN σ 62 1 = kN μ 9 0 ∧ kN σ 62 2 = kN μ 24 0
/-- the present tick, and the core ticks -/
def rB (μ : KS) : Prop := 0 ≤ (kI μ 0 0).toInt ∧ (kI μ 0 0).toInt ≤ 900 ∧ 0 ≤ (kI μ 29 0).toInt ∧ (kI μ 29 0).toInt ≤ 3 * (kI μ 0 0).toInt
def rC (σ μ : KS) : Prop := ∀ c, c < kN μ 3 0 → kI σ 10 c = kI μ 1 c ∧ kI σ 11 c = kI μ 2 c ∧ (1 ≤ (kI μ 1 c).toInt ∧ (kI μ 1 c).toInt ≤ 4) ∧ 0 ≤ (kI μ 2 c).toInt ∧ (kI μ 2 c).toInt ≤ 4 * (kI μ 0 0).toInt
def rG (σ μ : KS) : Prop := ∀ g, 0 < g → g < kN μ 9 0 → kO σ 20 g = some (kN μ 6 g) ∧ kI σ 22 g = 2520 / kI μ 7 g ∧ kW σ 23 g = kW μ 8 g ∧ (1 ≤ (kI μ 7 g).toInt ∧ (kI μ 7 g).toInt ≤ 9) ∧ 0 ≤ (kW μ 8 g).toInt ∧ (kW μ 8 g).toInt ≤ 30240 * (kI μ 0 0).toInt
/-- what lies under a group has been done in it -/
def rD (σ μ : KS) : Prop := ∀ g, g < kN μ 9 0 → kI σ 24 g = sumI (diF μ g) (kN μ 24 0)
def rT (σ μ : KS) : Prop := ∀ t, t < kN μ 24 0 → (kN σ 31 t = kN μ 10 t ∧ kI σ 32 t = 2520 / kI μ 11 t ∧ kW σ 33 t = kW μ 12 t ∧ kI σ 34 t = kI μ 13 t ∧ kI σ 35 t = kI μ 19 t ∧ kB σ 36 t = kB μ 21 t ∧ kI σ 37 t = kI μ 14 t ∧ kI σ 41 t = kI μ 18 t ∧ kO σ 42 t = kO μ 22 t ∧ kO σ 43 t = kO μ 20 t) ∧
  (1 ≤ (kI μ 11 t).toInt ∧ (kI μ 11 t).toInt ≤ 9) ∧ (0 ≤ (kW μ 12 t).toInt ∧ (kW μ 12 t).toInt ≤ 30240 * (kI μ 0 0).toInt) ∧ (0 ≤ (kI μ 13 t).toInt ∧ (kI μ 13 t).toInt ≤ 500) ∧
  ((kI μ 14 t = 0 ∧ kI σ 39 t = 0) ∨ ((2 ≤ (kI μ 14 t).toInt ∧ (kI μ 14 t).toInt ≤ 60) ∧ kI σ 38 t = kI μ 15 t ∧ kI σ 39 t = shM (kI μ 15 t) (kI μ 14 t) ∧ kI σ 40 t = kI μ 16 t ∧ (1 ≤ (kI μ 15 t).toInt ∧ (kI μ 15 t).toInt ≤ 40) ∧ 0 ≤ (kI μ 17 t).toInt ∧ (kI μ 17 t).toInt < (kI μ 16 t).toInt ∧ (kI μ 16 t).toInt ≤ 960))
/-- the locks: who holds them, and who waits for them, in what order -/
def rW (σ μ : KS) (l : Nat) : Prop := kO σ 50 l = kO μ 26 l ∧ (∀ t, t ∈ kL σ (4 + l) ↔ t < kN μ 24 0 ∧ kO μ 22 t = some l) ∧ (kL σ (4 + l)).Pairwise (fun a b => (kI μ 23 a).toInt < (kI μ 23 b).toInt) ∧ (kL σ (4 + l)).length = kN σ 62 (4 + l)
def rL (n : Nat) (σ μ : KS) : Prop := (∀ l, l < 4 → rW σ μ l) ∧ (∀ t, t < kN μ 24 0 → kO μ 22 t ≠ none → (kI μ 23 t).toInt < (kI μ 25 0).toInt) ∧ 0 ≤ (kI μ 25 0).toInt ∧ (kI μ 25 0).toInt ≤ n
/-- cores that are not there yet are cold -/
def rZ (μ : KS) : Prop := ∀ c, kN μ 3 0 ≤ c → kI μ 2 c = 0
def Rel (n : Nat) (σ μ : KS) : Prop := rS σ μ ∧ rN σ μ ∧ rB μ ∧ rC σ μ ∧ rG σ μ ∧ rD σ μ ∧ rT σ μ ∧ rL n σ μ ∧ rZ μ
/-- the answer fits, and the states go on side by side -/
def okR (n : Nat) (r : Int32) (v b : Int64) (σ1 μ1 : KS) : Prop := kI μ1 33 0 = r ∧ (r = 0 → v = b) ∧ Rel (n + 1) σ1 μ1
theorem Rel.mono {n k : Nat} {σ μ : KS} (h : Rel n σ μ) (hk : n ≤ k) : Rel k σ μ := by
  obtain ⟨a, b, c, d, e, f, g, ⟨l1, l2, l3, l4⟩, z⟩ := h
  exact ⟨a, b, c, d, e, f, g, ⟨l1, l2, l3, by omega⟩, z⟩
theorem kI_at (σ : KS) (f : Nat) (g : Nat → Int32) (j : Nat) (x : Int32) : kI (sI σ f (va_up g j x)) f j = x := by
  show va_up (kI σ) f (va_up g j x) f j = x
  rw [vu_s, vu_s]
theorem kN_at (σ : KS) (f : Nat) (g : Nat → Nat) (j : Nat) (x : Nat) : kN (sN σ f (va_up g j x)) f j = x := by
  show va_up (kN σ) f (va_up g j x) f j = x
  rw [vu_s, vu_s]
theorem kO_at (σ : KS) (f : Nat) (g : Nat → Option Nat) (j : Nat) (x : Option Nat) : kO (sO σ f (va_up g j x)) f j = x := by
  show va_up (kO σ) f (va_up g j x) f j = x
  rw [vu_s, vu_s]
theorem th33 (μ : KS) (v : Int32) : kI (thS μ v) 33 0 = v := kI_at μ 33 _ 0 v
theorem iuM_c {μ ν : KS} (h : kN ν 6 = kN μ 6) (r f a : Nat) : iuM ν r f a = iuM μ r f a := by
  induction f generalizing a with
  | zero => rfl
  | succ f ih => rw [iuM, iuM, h, ih]
theorem diF_c {μ ν : KS} (h6 : kN ν 6 = kN μ 6) (h10 : kN ν 10 = kN μ 10) (h19 : kI ν 19 = kI μ 19) : diF ν = diF μ := by
  funext g t
  unfold diF
  rw [iuM_c h6, h10, h19]
theorem sumI_c {f g : Nat → Int32} {n : Nat} (h : ∀ t, t < n → f t = g t) : sumI f n = sumI g n := by
  induction n with
  | zero => rfl
  | succ n ih => rw [sumI, sumI, ih (fun t ht => h t (by omega)), h n (by omega)]
theorem rD.c {σ μ τ ν : KS} (h : rD σ μ) (h6 : kN ν 6 = kN μ 6) (h10 : kN ν 10 = kN μ 10) (h19 : kI ν 19 = kI μ 19) (h9 : kN ν 9 0 = kN μ 9 0) (hn : kN ν 24 0 = kN μ 24 0) (hs : kI τ 24 = kI σ 24) : rD τ ν := by
  intro g hg
  rw [h9] at hg
  rw [hs, h g hg, diF_c h6 h10 h19, hn]
/-- the code of a throw stands in nothing else -/
theorem Rel.th {n : Nat} {σ μ : KS} (h : Rel n σ μ) (v : Int32) : Rel n σ (thS μ v) := by
  obtain ⟨a, b, c, d, e, f, g, l, z⟩ := h
  exact ⟨a, b, c, d, e, f.c rfl rfl rfl rfl rfl rfl, g, l, z⟩
theorem rL.c {n : Nat} {σ μ τ ν : KS} (h : rL n σ μ) (hL : kL τ = kL σ) (hO : kO τ 50 = kO σ 50) (hz : ∀ l, l < 4 → kN τ 62 (4 + l) = kN σ 62 (4 + l)) (h24 : kN ν 24 0 = kN μ 24 0) (h22 : kO ν 22 = kO μ 22) (h26 : kO ν 26 = kO μ 26) (h23 : kI ν 23 = kI μ 23) (h25 : kI ν 25 0 = kI μ 25 0) : rL n τ ν := by
  obtain ⟨a, b, c, d⟩ := h
  refine ⟨fun l hl => ?_, fun t ht hn => ?_, ?_, ?_⟩
  · obtain ⟨w1, w2, w3, w4⟩ := a l hl
    unfold rW
    rw [hO, hL, hz l hl, h26, h24, h22, h23]
    exact ⟨w1, w2, w3, w4⟩
  · rw [h24] at ht
    rw [h22] at hn
    rw [h23, h25]
    exact b t ht hn
  · rw [h25]
    exact c
  · rw [h25]
    exact d
theorem rg_t {x lo hi : Int32} : rg x lo hi = true ↔ lo ≤ x ∧ x ≤ hi := by
  unfold rg
  exact decide_eq_true_iff
theorem rg_f {x lo hi : Int32} : rg x lo hi = false ↔ x < lo ∨ hi < x := by
  unfold rg
  rw [decide_eq_false_iff_not]
  constructor
  · intro h
    by_cases q : x < lo
    · exact Or.inl q
    · exact Or.inr (Int32.not_le.mp (fun z => h ⟨Int32.not_lt.mp q, z⟩))
  · rintro (h | h) ⟨a, b⟩
    · exact absurd a (Int32.not_le.mpr h)
    · exact absurd b (Int32.not_le.mpr h)
theorem rg_n {x lo hi : Int32} (h : ¬ (x < lo ∨ hi < x)) : rg x lo hi = true := by
  cases e : rg x lo hi with
  | true => rfl
  | false => exact absurd (rg_f.mp e) h
theorem rg_p {x lo hi : Int32} (h : x < lo ∨ hi < x) : ¬ rg x lo hi = true := fun z => by
  rw [rg_f.mpr h] at z
  cases z
/-- what is done to locks alone -/
theorem Rel.lk {n k : Nat} {σ μ τ ν : KS} (R : Rel n σ μ) (hI : ∀ f, f < 60 → kI τ f = kI σ f) (hW : kW τ = kW σ) (hN : ∀ f, f < 60 → kN τ f = kN σ f) (h62 : ∀ j, j < 4 → kN τ 62 j = kN σ 62 j) (hO : ∀ f, f ≠ 42 → f ≠ 50 → kO τ f = kO σ f) (hB : kB τ = kB σ)
    (mI : ∀ f, f ≠ 23 → f ≠ 25 → f ≠ 33 → kI ν f = kI μ f) (mW : kW ν = kW μ) (mN : kN ν = kN μ) (mO : ∀ f, f ≠ 22 → f ≠ 26 → kO ν f = kO μ f) (mB : kB ν = kB μ) (h42 : ∀ t, t < kN μ 24 0 → kO τ 42 t = kO ν 22 t) (hL : rL k τ ν) : Rel k τ ν := by
  obtain ⟨a1, a2, a3, a4, a5, a6, a7, a8, a9⟩ := R
  refine ⟨?_, ?_, ?_, fun c hc => ?_, fun g h0 hg => ?_, ?_, fun t ht => ?_, hL, fun c hc => ?_⟩
  · unfold rS
    rw [hI 0 (by decide), hI 1 (by decide), hI 2 (by decide), hI 3 (by decide), hI 4 (by decide), hI 5 (by decide), mI 4 (by decide) (by decide) (by decide), mI 5 (by decide) (by decide) (by decide), mI 0 (by decide) (by decide) (by decide), mI 27 (by decide) (by decide) (by decide), mI 28 (by decide) (by decide) (by decide), mI 29 (by decide) (by decide) (by decide)]
    exact a1
  · unfold rN
    rw [h62 0 (by decide), h62 1 (by decide), h62 2 (by decide), mN]
    exact a2
  · unfold rB
    rw [mI 0 (by decide) (by decide) (by decide), mI 29 (by decide) (by decide) (by decide)]
    exact a3
  · rw [hI 10 (by decide), hI 11 (by decide), mI 1 (by decide) (by decide) (by decide), mI 2 (by decide) (by decide) (by decide), mI 0 (by decide) (by decide) (by decide)]
    rw [mN] at hc
    exact a4 c hc
  · rw [hO 20 (by decide) (by decide), hI 22 (by decide), hW, mN, mI 7 (by decide) (by decide) (by decide), mW, mI 0 (by decide) (by decide) (by decide)]
    rw [mN] at hg
    exact a5 g h0 hg
  · exact a6.c (by rw [mN]) (by rw [mN]) (mI 19 (by decide) (by decide) (by decide)) (by rw [mN]) (by rw [mN]) (hI 24 (by decide))
  · rw [mN] at ht
    rw [hN 31 (by decide), hI 32 (by decide), hW, hI 34 (by decide), hI 35 (by decide), hB, hI 37 (by decide), hI 41 (by decide), hO 43 (by decide) (by decide), hI 38 (by decide), hI 39 (by decide), hI 40 (by decide), mN, mI 11 (by decide) (by decide) (by decide), mW, mI 13 (by decide) (by decide) (by decide), mI 19 (by decide) (by decide) (by decide), mB, mI 14 (by decide) (by decide) (by decide), mI 18 (by decide) (by decide) (by decide), mO 20 (by decide) (by decide), mI 15 (by decide) (by decide) (by decide), mI 16 (by decide) (by decide) (by decide), mI 17 (by decide) (by decide) (by decide), mI 0 (by decide) (by decide) (by decide)]
    obtain ⟨⟨c1, c2, c3, c4, c5, c6, c7, c8, c9, c10⟩, c11⟩ := a7 t ht
    exact ⟨⟨c1, c2, c3, c4, c5, c6, c7, c8, h42 t ht, c10⟩, c11⟩
  · rw [mI 2 (by decide) (by decide) (by decide)]
    rw [mN] at hc
    exact a9 c hc
