/-! NOBODY WAITS FOR HIMSELF -/
def NW (μ : KS) : Prop := ∀ t, t < kN μ 24 0 → ∀ l, kO μ 22 t = some l → kO μ 26 l ≠ some t
theorem NW.c {μ ν : KS} (h : NW μ) (h24 : kN ν 24 0 = kN μ 24 0) (h22 : kO ν 22 = kO μ 22) (h26 : kO ν 26 = kO μ 26) : NW ν := by
  intro t ht l e
  rw [h24] at ht
  rw [h22] at e
  rw [h26]
  exact h t ht l e
theorem NW.th {μ : KS} (h : NW μ) (v : Int32) : NW (thS μ v) := h
theorem NW.pn {μ : KS} (h : NW μ) (l : Nat) : NW (pnM μ l) := by
  intro t ht k e2 e3
  rw [pnM_N] at ht
  unfold pnM at e2 e3
  cases e : wtT μ l 0 with
  | none =>
    rw [e] at e2 e3
    replace e2 : kO μ 22 t = some k := e2
    replace e3 : va_up (kO μ 26) l none k = some t := e3
    by_cases q : k = l
    · rw [q, vu_s] at e3
      exact nomatch e3
    · rw [vu_n _ _ q] at e3
      exact h t ht k e2 e3
  | some w =>
    rw [e] at e2 e3
    replace e2 : va_up (kO μ 22) w none t = some k := e2
    replace e3 : va_up (kO μ 26) l (some w) k = some t := e3
    by_cases r : t = w
    · rw [r, vu_s] at e2
      exact nomatch e2
    · rw [vu_n _ _ r] at e2
      by_cases q : k = l
      · rw [q, vu_s] at e3
        exact r (Option.some.inj e3).symm
      · rw [vu_n _ _ q] at e3
        exact h t ht k e2 e3
theorem NW.em {μ : KS} (h : NW μ) (t : Nat) : NW (emM μ t) := by
  have h0 : NW (em0 μ t) := by
    intro x hx k e2 e3
    replace hx : x < kN μ 24 0 := hx
    replace e2 : va_up (kO μ 22) t none x = some k := e2
    replace e3 : kO μ 26 k = some x := e3
    by_cases r : x = t
    · rw [r, vu_s] at e2
      exact nomatch e2
    · rw [vu_n _ _ r] at e2
      exact h x hx k e2 e3
  have key : ∀ n, NW (emL t n (em0 μ t)) := by
    intro n
    induction n with
    | zero => exact h0
    | succ n ih =>
      rw [emL]
      split
      · exact ih.pn n
      · exact ih
  exact key 4
theorem NW.ad {μ : KS} (h : NW μ) (g : Nat) (w u p : Int32) : NW (adM μ g w u p) := by
  intro x hx k e2 e3
  replace hx : x < va_up (kN μ 24) 0 (kN μ 24 0 + 1) 0 := hx
  replace e2 : va_up (kO μ 22) (kN μ 24 0) none x = some k := e2
  replace e3 : kO μ 26 k = some x := e3
  rw [vu_s] at hx
  by_cases r : x = kN μ 24 0
  · rw [r, vu_s] at e2
    exact nomatch e2
  · rw [vu_n _ _ r] at e2
    exact h x (by omega) k e2 e3
theorem NW.ta {μ : KS} (h : NW μ) {t w : Nat} (hb : ¬ brM μ t w) : NW (taM μ t w) := by
  intro x hx k e2 e3
  replace hx : x < kN μ 24 0 := hx
  replace e2 : kO μ 22 x = some k := e2
  replace e3 : va_up (kO μ 26) w (some t) k = some x := e3
  by_cases q : k = w
  · rw [q, vu_s] at e3
    have r : x = t := (Option.some.inj e3).symm
    rw [r] at e2
    exact hb (Or.inr (Or.inl (fun z => nomatch z.symm.trans e2)))
  · rw [vu_n _ _ q] at e3
    exact h x hx k e2 e3
theorem NW.tb {μ : KS} (h : NW μ) {t w : Nat} (hb : ¬ brM μ t w) : NW (tbM μ t w) := by
  intro x hx k e2 e3
  replace hx : x < kN μ 24 0 := hx
  replace e2 : va_up (kO μ 22) t (some w) x = some k := e2
  replace e3 : kO μ 26 k = some x := e3
  by_cases r : x = t
  · rw [r, vu_s] at e2
    rw [r, ← Option.some.inj e2] at e3
    exact hb (Or.inr (Or.inr e3))
  · rw [vu_n _ _ r] at e2
    exact h x hx k e2 e3
theorem NW.cs {μ : KS} (h : NW μ) : NW (csM μ) := by
  have e : kO (cm0 μ) = kO μ := by unfold cm0; rw [rdM_O, (fuM_U μ).O]
  refine h.c (by rw [csM_N]) ?_ ?_
  · unfold csM
    rw [(cmS_O _ _).1, e]
  · unfold csM
    rw [(cmS_O _ _).2, e]
theorem NW.fu {μ : KS} (h : NW μ) : NW (fuM μ) := h.c (by rw [(fuM_U μ).N]) (by rw [(fuM_U μ).O]) (by rw [(fuM_U μ).O])
theorem no_self {n : Nat} {σ μ : KS} (R : Rel n σ μ) (hd : dWF μ) (h : NW μ) (k : Nat) : ∀ t, t < kN (bwS k σ) 62 2 → hbS (bwS k σ) t ≠ some t := by
  intro t ht e
  have s := SF.bw σ k
  rw [s.2.2.1, R.2.1.2.2] at ht
  have c9 := (R.2.2.2.2.2.2.1 t ht).1.2.2.2.2.2.2.2.2.1
  unfold hbS at e
  rw [s.2.2.2.1 42 (by decide), s.2.2.2.1 50 (by decide), c9] at e
  cases e2 : kO μ 22 t with
  | none =>
    rw [e2] at e
    exact nomatch (show (none : Option Nat) = some t from e)
  | some l =>
    rw [e2] at e
    replace e : kO σ 50 l = some t := e
    have hl := hd.2.2.2.1 t ht l e2
    rw [(R.2.2.2.2.2.2.2.1.1 l hl).1] at e
    exact h t ht l e2 e
theorem NW.pa {n : Nat} {σ μ : KS} {x0 b : Int32} {μ1 : KS} (h : NW μ) (hc : cWF σ) (hd : dWF μ) (R : Rel n σ μ) (h2 : om_pass μ x0 b μ1) : NW μ1 := by
  have T0 := R.2.2.1.1
  have T9 := R.2.2.1.2.1
  have o900 : (900 : Int32).toInt = 900 := by decide
  rcases h2 with ⟨q1, rfl⟩ | ⟨q1, q2, rfl⟩ | ⟨k, q1, q2, q3, rfl, rfl⟩
  · exact h
  · exact h
  · obtain ⟨f1, f2⟩ := inR_some q1
    have t : x0.toInt = k := by
      rw [f1]
      exact nI_toInt (by omega)
    have l := toI_le q3
    have sx : (kI μ 0 0 + x0).toInt = (kI μ 0 0).toInt + x0.toInt := i32_add (by omega) (by omega)
    rw [sx, t, o900] at l
    obtain ⟨g1, g2, ⟨g3, g4, g5⟩, _⟩ := pass_all (R.th 0) (μ := thS μ 0) hd hc.2.2.2.2.1.1 k l k (Nat.le_refl _)
    exact NW.c (μ := thS μ 0) h (by rw [g3]) g4 g5
