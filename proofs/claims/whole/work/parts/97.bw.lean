/-! BOTH WAYS OF CHOOSING LEAVE THE REST AS IT WAS -/
theorem pickSt_B (b : Bool) (τ : KS) : sameB τ (pickSt b τ) := by
  cases b with
  | false => exact sameB.rf τ
  | true => exact pdSt_sf τ (markS_B τ)
theorem SF.cof (b : Bool) (q : Int32 × KS) (k : Nat) : SF q.2 (cof1 b q k).2 := by
  unfold cof1
  split
  · exact SF.o _ _
  · split
    · exact (SF.m (pickSt_B b q.2)).tr (SF.o _ _)
    · exact ((SF.m (pickSt_B b q.2)).tr (SF.o _ _)).tr (SF.b _ _)
theorem sf_cofS (b : Bool) (τ : KS) : ∀ k, SF τ (cofS b τ k).2 := by
  intro k
  induction k with
  | zero =>
    rw [cofS]
    exact SF.rf τ
  | succ k ih =>
    rw [cofS]
    exact ih.tr (SF.cof b _ k)
theorem SF.cho (b : Bool) (σ : KS) : SF σ (choS b σ) := by
  have h : SF σ (cho0 σ) := (SF.u (urgS_U σ)).tr (rdS_spec (urgS σ) (kN σ 62 2)).1
  unfold choS
  exact h.tr (sf_cofS b _ _)
theorem SF.bw (σ : KS) : ∀ n, SF σ (bwS n σ) := by
  intro n
  induction n with
  | zero =>
    rw [bwS]
    exact SF.rf σ
  | succ n ih =>
    rw [bwS]
    exact (ih.tr (SF.cho true _)).tr (SF.cho false _)
theorem s_isSound {n : Nat} {σ μ : KS} (R : Rel n σ μ) (k : Nat) : Rel n (bwS k σ) μ := R.sf (SF.bw σ k) (MF.rf μ)
theorem hDs_sound {n : Nat} {σ μ : KS} (R : Rel n σ μ) (hd : dWF μ) (k : Nat) : sumI (fun t => kI (bwS k σ) 35 t) (kN (bwS k σ) 62 2) = kI (bwS k σ) 24 0 := done_sum (s_isSound R k) hd
