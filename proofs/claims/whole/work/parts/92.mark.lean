/-! THE LIVE GROUPS, and the way down the tree -/
theorem sB_sB (σ : KS) (f : Nat) (g h : Nat → Bool) : sB (sB σ f g) f h = sB σ f h := by
  unfold sB
  have e : va_up (va_up σ.2.2.2.2.1 f g) f h = va_up σ.2.2.2.2.1 f h := by
    funext i
    by_cases q : i = f
    · subst q; rw [vu_s, vu_s]
    · rw [vu_n _ _ q, vu_n _ _ q, vu_n _ _ q]
  show (σ.1, σ.2.1, σ.2.2.1, σ.2.2.2.1, va_up (va_up σ.2.2.2.2.1 f g) f h, σ.2.2.2.2.2) = _
  rw [e]
def sameB (σ τ : KS) : Prop := ∃ f, τ = sB σ 25 f
theorem sameB.rf (σ : KS) : sameB σ σ := ⟨kB σ 25, by
  have : va_up σ.2.2.2.2.1 25 (kB σ 25) = σ.2.2.2.2.1 := by
    funext i
    by_cases q : i = 25
    · subst q; exact vu_s _ _ _
    · exact vu_n _ _ q
  unfold sB
  rw [this]⟩
theorem sameB.st {σ τ : KS} (h : sameB σ τ) (g : Nat → Bool) : sameB σ (sB τ 25 g) := by
  obtain ⟨f, rfl⟩ := h
  exact ⟨g, sB_sB σ 25 f g⟩
theorem clrS_B {σ : KS} : ∀ m, sameB σ (clrS m σ) ∧ ∀ g, g < m → kB (clrS m σ) 25 g = false := by
  intro m
  induction m with
  | zero => exact ⟨sameB.rf σ, fun g h => absurd h (Nat.not_lt_zero _)⟩
  | succ m ih =>
    rw [clrS]
    refine ⟨ih.1.st _, fun g hg => ?_⟩
    show va_up (kB (clrS m σ)) 25 (va_up (kB (clrS m σ) 25) m false) 25 g = false
    rw [vu_s]
    by_cases q : g = m
    · subst q; rw [vu_s]
    · rw [vu_n _ _ q]; exact ih.2 g (by omega)
theorem chS_B {σ : KS} : ∀ (c : Nat) (o : Option Nat) (τ : KS), sameB σ τ → sameB σ (chS c o τ) := by
  intro c
  induction c with
  | zero => intro o τ h; cases o <;> exact h
  | succ c ih =>
    intro o τ h
    cases o with
    | none => exact h
    | some k => rw [chS]; exact ih _ _ (h.st _)
theorem chS_iu {ν : KS} {G : Nat} {g : Nat} (h6 : ∀ a, 0 < a → a < G → kN ν 6 a < a) : ∀ (f a : Nat) (τ : KS), a ≤ f → a < G → kO τ 20 0 = none → (∀ a, 0 < a → a < G → kO τ 20 a = some (kN ν 6 a)) → ∀ f2, a ≤ f2 → kB (chS (f + 1) (some a) τ) 25 g = (kB τ 25 g || iuM ν g f2 a) := by
  intro f
  induction f with
  | zero =>
    intro a τ ha hG h0 h1 f2 h2
    obtain rfl : a = 0 := by omega
    rw [chS, h0, chS_none]
    show va_up (kB τ) 25 (va_up (kB τ 25) 0 true) 25 g = _
    rw [vu_s]
    by_cases q : g = 0
    · subst q; rw [vu_s, iuM_e, Bool.or_true]
    · rw [vu_n _ _ q]
      cases f2 with
      | zero => rw [iuM, decide_eq_false (fun z => q z.symm), Bool.or_false]
      | succ f2 => rw [iuM, if_neg (fun z => q z.symm), if_pos rfl, Bool.or_false]
  | succ f ih =>
    intro a τ ha hG h0 h1 f2 h2
    rw [chS]
    have e1 : kB (sB τ 25 (va_up (kB τ 25) a true)) 25 g = (if g = a then true else kB τ 25 g) := by
      show va_up (kB τ) 25 (va_up (kB τ 25) a true) 25 g = _
      rw [vu_s]
      by_cases q : g = a
      · subst q; rw [vu_s, if_pos rfl]
      · rw [vu_n _ _ q, if_neg q]
    by_cases z : a = 0
    · subst z
      rw [h0, chS_none, e1]
      by_cases q : g = 0
      · subst q; rw [if_pos rfl, iuM_e, Bool.or_true]
      · rw [if_neg q]
        cases f2 with
        | zero => rw [iuM, decide_eq_false (fun z => q z.symm), Bool.or_false]
        | succ f2 => rw [iuM, if_neg (fun z => q z.symm), if_pos rfl, Bool.or_false]
    · rw [h1 a (by omega) hG]
      have l6 := h6 a (by omega) hG
      obtain ⟨f3, rfl⟩ : ∃ f3, f2 = f3 + 1 := ⟨f2 - 1, by omega⟩
      rw [ih (kN ν 6 a) (sB τ 25 (va_up (kB τ 25) a true)) (by omega) (by omega) h0 h1 f3 (by omega), e1, iuM]
      by_cases q : g = a
      · subst q
        rw [if_pos rfl, if_pos rfl, Bool.or_true, Bool.true_or]
      · rw [if_neg q, if_neg (fun z => q z.symm), if_neg z]
theorem mkS_hu {σ ν : KS} {g : Nat} (hd : dWF ν) (h0 : kO σ 20 0 = none) (h1 : ∀ a, 0 < a → a < kN ν 9 0 → kO σ 20 a = some (kN ν 6 a)) (h31 : ∀ t, t < kN ν 24 0 → kN σ 31 t = kN ν 10 t ∧ kB σ 45 t = kB ν 32 t) {τ : KS} (hτ : sameB σ τ) (hg : kB τ 25 g = false) : ∀ m, m ≤ kN ν 24 0 → sameB σ (mkS m τ) ∧ kB (mkS m τ) 25 g = huM ν g m := by
  intro m
  induction m with
  | zero => intro _; exact ⟨hτ, hg⟩
  | succ m ih =>
    intro hm
    obtain ⟨i1, i2⟩ := ih (by omega)
    obtain ⟨f, hf⟩ := i1
    obtain ⟨g1, g2⟩ := h31 m (by omega)
    have a1 := hd.2.2.1 m (by omega)
    have G6 := hd.1.2.2.1
    rw [mkS, huM]
    have e45 : kB (mkS m τ) 45 m = kB ν 32 m := by rw [hf]; exact g2
    have e31 : kN (mkS m τ) 31 m = kN ν 10 m := by rw [hf]; exact g1
    rw [e45, e31]
    by_cases q : kB ν 32 m = true
    · rw [if_pos q, q, Bool.true_and]
      refine ⟨chS_B _ _ _ ⟨f, hf⟩, ?_⟩
      rw [chS_iu (ν := ν) (G := kN ν 9 0) (fun a h2 h3 => hd.2.1 a h2 h3) 5 (kN ν 10 m) (mkS m τ) (by omega) a1 (by rw [hf]; exact h0) (fun a h2 h3 => by rw [hf]; exact h1 a h2 h3) 6 (by omega), i2]
    · rw [if_neg q]
      have q2 : kB ν 32 m = false := by simpa using q
      rw [q2, Bool.false_and, Bool.or_false]
      exact ⟨⟨f, hf⟩, i2⟩
theorem markS_hu {σ ν : KS} (hd : dWF ν) (e1 : kN σ 62 1 = kN ν 9 0) (e2 : kN σ 62 2 = kN ν 24 0) (h0 : kO σ 20 0 = none) (h1 : ∀ a, 0 < a → a < kN ν 9 0 → kO σ 20 a = some (kN ν 6 a)) (h31 : ∀ t, t < kN ν 24 0 → kN σ 31 t = kN ν 10 t ∧ kB σ 45 t = kB ν 32 t) : sameB σ (markS σ) ∧ ∀ g, g < kN ν 9 0 → kB (markS σ) 25 g = huM ν g (kN ν 24 0) := by
  obtain ⟨c1, c2⟩ := clrS_B (σ := σ) (kN σ 62 1)
  unfold markS
  rw [e2]
  refine ⟨(mkS_hu (g := kN σ 62 1 - 1) hd h0 h1 h31 c1 (c2 _ (by have := hd.1.2.1; omega)) (kN ν 24 0) (Nat.le_refl _)).1, fun g hg => ?_⟩
  exact (mkS_hu (g := g) hd h0 h1 h31 c1 (c2 g (by rw [e1]; exact hg)) (kN ν 24 0) (Nat.le_refl _)).2
theorem pd_eq {τ ν : KS} (hG : 1 ≤ kN ν 9 0) (h12 : kN ν 24 0 ≤ 12) (eN : kN τ 62 1 = kN ν 9 0) (eT : kN τ 62 2 = kN ν 24 0) (hp : kO τ 20 0 = none) (h20 : ∀ g, 0 < g → g < kN ν 9 0 → kO τ 20 g = some (kN ν 6 g) ∧ kW τ 23 g = kW ν 8 g ∧ 0 ≤ (kW ν 8 g).toInt) (hl : ∀ g, 0 < g → g < kN ν 9 0 → kB τ 25 g = huM ν g (kN ν 24 0)) (h31 : ∀ t, t < kN ν 24 0 → kN τ 31 t = kN ν 10 t ∧ kW τ 33 t = kW ν 12 t ∧ 0 ≤ (kW ν 12 t).toInt ∧ kB τ 45 t = kB ν 32 t) : ∀ d p, pdL τ d p = dnM ν d p := by
  intro d
  induction d with
  | zero => intro p; rfl
  | succ d ih =>
    intro p
    obtain ⟨l1, l2⟩ := lg_eq (p := p) hp h20 hl (kN ν 9 0 - 1) (by omega)
    rw [show kN ν 9 0 - 1 + 1 = kN ν 9 0 by omega] at l1 l2
    have lt := lt_eq (p := p) h31 (lgS τ p (kN ν 9 0)) (by rw [l1]; cases lgS τ p (kN ν 9 0) <;> rfl) (fun c h => (h20 c (l2 c h).1 (by have := (l2 c h).2; omega)).2.2) (kN ν 24 0) (Nat.le_refl _)
    rw [pdL, dnM, eN, eT]
    unfold dnE
    rw [lt]
    cases eb : lgS τ p (kN ν 9 0) with
    | none =>
      cases et : ltS τ p (kN ν 24 0) with
      | none => rfl
      | some t =>
        have := ltS_lt et
        show some t = if 100 ≤ t then _ else _
        rw [if_neg (by omega)]
    | some c =>
      have hc := l2 c eb
      obtain ⟨_, k2, _⟩ := h20 c hc.1 (by omega)
      cases et : ltS τ p (kN ν 24 0) with
      | none =>
        show pdL τ d c = if 100 ≤ 100 + c then dnM ν d (100 + c - 100) else _
        rw [if_pos (by omega), show 100 + c - 100 = c by omega]
        exact ih c
      | some t =>
        have ht := ltS_lt et
        obtain ⟨_, k3, _⟩ := h31 t ht
        by_cases w : kW ν 12 t < kW ν 8 c
        · rw [dnV_p w]
          show (if kW τ 33 t < kW τ 23 c then some t else pdL τ d c) = if 100 ≤ t then _ else _
          rw [if_pos (by rw [k2, k3]; exact w), if_neg (by omega)]
        · rw [dnV_n w]
          show (if kW τ 33 t < kW τ 23 c then some t else pdL τ d c) = if 100 ≤ 100 + c then dnM ν d (100 + c - 100) else _
          rw [if_neg (by rw [k2, k3]; exact w), if_pos (by omega), show 100 + c - 100 = c by omega]
          exact ih c
