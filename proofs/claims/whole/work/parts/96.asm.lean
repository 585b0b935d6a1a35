/-! WHAT A STEP OWES, in the law's order; all that is done adds up -/
theorem okR.law {n : Nat} {r : Int32} {v b : Int64} {σ1 μ1 : KS} (h : okR n r v b σ1 μ1) : Rel (n + 1) σ1 μ1 ∧ kI μ1 33 0 = r ∧ (r = 0 → v = b) := ⟨h.2.2, h.1, h.2.1⟩
theorem s_th {n : Nat} {σ μ : KS} (R : Rel n σ μ) : Rel (n + 1) σ (thS μ 0) := (R.th 0).mono (Nat.le_succ n)
theorem s_up {n : Nat} {σ μ : KS} (R : Rel n σ μ) : Rel (n + 1) σ μ := R.mono (Nat.le_succ n)
theorem e_promise {n : Nat} {σ μ : KS} (R : Rel n σ μ) : (if kI σ 1 0 < sumI (fun t => kI σ 10 t) (kN σ 62 0) then kI σ 1 0 else sumI (fun t => kI σ 10 t) (kN σ 62 0)) = prM μ := prm_eq R
theorem iu_root {μ : KS} (hd : dWF μ) : ∀ (f a : Nat), a ≤ f → a < kN μ 9 0 → iuM μ 0 f a = true := by
  intro f
  induction f with
  | zero =>
    intro a ha _
    obtain rfl : a = 0 := by omega
    exact iuM_e μ 0 0
  | succ f ih =>
    intro a ha hg
    rw [iuM]
    by_cases q : a = 0
    · rw [if_pos q]
    · rw [if_neg q, if_neg q]
      have := hd.2.1 a (by omega) hg
      exact ih _ (by omega) (by omega)
theorem done_sum {n : Nat} {σ μ : KS} (R : Rel n σ μ) (hd : dWF μ) : sumI (fun t => kI σ 35 t) (kN σ 62 2) = kI σ 24 0 := by
  have g1 := hd.1.2.1
  rw [R.2.2.2.2.2.1 0 (by omega), R.2.1.2.2]
  refine sumI_c (fun t ht => ?_)
  have a1 := hd.2.2.1 t ht
  have a2 := hd.1.2.2.1
  unfold diF
  rw [if_pos (iu_root hd 6 (kN μ 10 t) (by omega) a1)]
  exact (R.2.2.2.2.2.2.1 t ht).1.2.2.2.2.1
