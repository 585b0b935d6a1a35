/-! THE BEGINNING, and small duties -/
theorem Rel.init : Rel 0 init0 minit := by
  refine ⟨⟨rfl, rfl, rfl, rfl, rfl, rfl⟩, ⟨rfl, rfl, rfl⟩, by unfold rB; decide, fun c hc => absurd hc (Nat.not_lt_zero _), fun g h0 hg => ?_, fun g hg => ?_, fun t ht => absurd ht (Nat.not_lt_zero _), ⟨fun l hl => ?_, fun t ht => absurd ht (Nat.not_lt_zero _), by decide, by decide⟩, fun c _ => rfl⟩
  · have : kN minit 9 0 = 1 := rfl
    omega
  · rfl
  · refine ⟨?_, fun t => ⟨fun h => (nomatch h), fun h => absurd h.1 (Nat.not_lt_zero _)⟩, List.Pairwise.nil, ?_⟩
    · show none = (if l < 4 then none else some 0)
      rw [if_pos hl]
    · rcases (by omega : l = 0 ∨ l = 1 ∨ l = 2 ∨ l = 3) with rfl | rfl | rfl | rfl <;> rfl
theorem e_misses {n : Nat} {σ μ : KS} (R : Rel n σ μ) : (sumI (fun t => kI σ 41 t) (kN σ 62 2)) = (sumI (fun t => kI μ 18 t) (kN μ 24 0)) := by
  rw [R.2.1.2.2]
  exact sumI_c (fun t ht => (R.2.2.2.2.2.2.1 t ht).1.2.2.2.2.2.2.2.1)
theorem e_now {n : Nat} {σ μ : KS} (R : Rel n σ μ) : kI σ 2 0 = kI μ 0 0 := R.1.2.2.1
theorem e_moves {n : Nat} {σ μ : KS} (R : Rel n σ μ) : kI σ 3 0 = kI μ 27 0 := R.1.2.2.2.1
theorem hz_take {n : Nat} {σ μ : KS} (R : Rel n σ μ) (hd : dWF μ) : ∀ w, w < 4 → kN σ 62 (4 + w) ≤ 50 := fun w hw => Nat.le_trans (list_le R hd hw) (by decide)
theorem dI_pass {n : Nat} {σ μ : KS} (R : Rel n σ μ) (hc : cWF σ) : dI μ := by
  have h0 : (0 : Int32).toInt = 0 := by decide
  refine ⟨fun t ht z => ?_, fun g g0 g1 z => ?_, fun t i ht h => ?_⟩
  · have := (R.2.2.2.2.2.2.1 t ht).2.1.1
    rw [z, h0] at this
    omega
  · have := (R.2.2.2.2.1 g g0 g1).2.2.2.1.1
    rw [z, h0] at this
    omega
  · have e := (R.2.2.2.2.2.2.1 t ht).1.2.2.2.2.2.2.2.2.2
    have := hc.2.2.2.2.2.2.2.1 t (by rw [R.2.1.2.2]; exact ht) i (e.trans h)
    have := hc.1.1
    omega
theorem e_admitted {n : Nat} {σ μ : KS} (R : Rel n σ μ) : (sumI (fun t => if kB σ 36 t = true then 0 else kI σ 39 t) (kN σ 62 2)) = shsM μ := adm_eq R
