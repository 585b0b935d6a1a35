/-! urgencyOf, side by side -/
theorem sI_sI (σ : KS) (f : Nat) (g h : Nat → Int32) : sI (sI σ f g) f h = sI σ f h := by
  unfold sI
  have e : va_up (va_up σ.1 f g) f h = va_up σ.1 f h := by
    funext i
    by_cases q : i = f
    · subst q; rw [vu_s, vu_s]
    · rw [vu_n _ _ q, vu_n _ _ q, vu_n _ _ q]
  show (va_up (va_up σ.1 f g) f h, σ.2) = _
  rw [e]
def sameS (σ τ : KS) : Prop := ∃ f, τ = sI σ 44 f
theorem sameS.rf (σ : KS) : sameS σ σ := ⟨kI σ 44, by
  have : va_up σ.1 44 (kI σ 44) = σ.1 := by
    funext i
    by_cases q : i = 44
    · subst q; exact vu_s _ _ _
    · exact vu_n _ _ q
  unfold sI
  rw [this]⟩
theorem sameS.st {σ τ : KS} (h : sameS σ τ) (g : Nat → Int32) : sameS σ (sI τ 44 g) := by
  obtain ⟨f, rfl⟩ := h
  exact ⟨g, sI_sI σ 44 f g⟩
theorem ownAll_U (σ : KS) : ∀ m, sameS σ (ownAll m σ) := by
  intro m
  induction m with
  | zero => exact sameS.rf σ
  | succ m ih => rw [ownAll]; exact ih.st _
theorem lendS_U {σ : KS} (u : Int32) : ∀ (c : Nat) (o : Option Nat) (τ : KS), sameS σ τ → sameS σ (lendS u c o τ) := by
  intro c
  induction c with
  | zero => intro o τ h; cases o <;> exact h
  | succ c ih =>
    intro o τ h
    cases o with
    | none => exact h
    | some k => rw [lendS]; exact ih _ _ (h.st _)
theorem lendAll_U {σ : KS} {τ : KS} (h : sameS σ τ) : ∀ m, sameS σ (lendAll m τ) := by
  intro m
  induction m with
  | zero => exact h
  | succ m ih => rw [lendAll]; exact lendS_U _ _ _ _ ih
theorem urgS_U (σ : KS) : sameS σ (urgS σ) := lendAll_U (ownAll_U σ _) _
theorem Rel.u {n : Nat} {σ μ τ ν : KS} (R : Rel n σ μ) (hs : sameS σ τ) (hu : sameU μ ν) : Rel n τ ν := by
  obtain ⟨f, rfl⟩ := hs
  obtain ⟨g, rfl⟩ := hu
  obtain ⟨a1, a2, a3, a4, a5, a6, a7, a8, a9⟩ := R
  exact ⟨a1, a2, a3, a4, a5, a6.c rfl rfl rfl rfl rfl rfl, a7, a8, a9⟩
theorem s_urgencyOf {n : Nat} {σ μ : KS} {x0 : Int32} {r : Int32} {v : Int64} {σ1 : KS} {b : Int32} {μ1 : KS} (hd : dWF μ) (R : Rel n σ μ) (h1 : oc_urgencyOf σ x0 r v σ1) (h2 : om_urgencyOf μ x0 b μ1) : okR n r v b.toInt64 σ1 μ1 := by
  have eT : kN σ 62 2 = kN μ 24 0 := R.2.1.2.2
  have RU : Rel n (urgS σ) (fuM μ) := R.u (urgS_U σ) (fuM_U μ)
  have R0 : Rel n σ (fuM μ) := R.u (sameS.rf σ) (fuM_U μ)
  have m1 : (2147483647 : Int32).toInt = 2147483647 := by decide
  have m2 : (1000000 : Int32).toInt = 1000000 := by decide
  rcases h1 with ⟨t, rfl, ⟨p1, p2⟩, rfl, rfl⟩ | ⟨rfl, p1, rfl⟩ | ⟨t, rfl, ⟨p1, p2⟩, rfl⟩ <;> rw [eT] at p1
  · have ht := (inR_some p1).2
    rcases h2 with ⟨q1, rfl⟩ | ⟨u, q1, q2, rfl⟩ | ⟨u, q1, q2, rfl, rfl⟩
    · exact nomatch p1.symm.trans q1
    · cases p1.symm.trans q1
      rcases urg_src R hd ht with ⟨x1, x2⟩ | ⟨x1, x2, x3⟩
      · exact absurd x1 p2
      · rw [q2, m2] at x3
        omega
    · cases p1.symm.trans q1
      rcases urg_src R hd ht with ⟨x1, x2⟩ | ⟨x1, x2, x3⟩
      · exact absurd x1 p2
      · exact ⟨th33 _ _, fun _ => by rw [x1], (RU.th 0).mono (Nat.le_succ n)⟩
  · rcases h2 with ⟨q1, rfl⟩ | ⟨u, q1, q2, rfl⟩ | ⟨u, q1, q2, rfl, rfl⟩
    · exact ⟨th33 _ _, fun z => absurd z (by decide), (R0.th 1).mono (Nat.le_succ n)⟩
    · exact nomatch p1.symm.trans q1
    · exact nomatch p1.symm.trans q1
  · have ht := (inR_some p1).2
    rcases h2 with ⟨q1, rfl⟩ | ⟨u, q1, q2, rfl⟩ | ⟨u, q1, q2, rfl, rfl⟩
    · exact nomatch p1.symm.trans q1
    · exact ⟨th33 _ _, fun z => absurd z (by decide), (RU.th 1).mono (Nat.le_succ n)⟩
    · cases p1.symm.trans q1
      rcases urg_src R hd ht with ⟨x1, x2⟩ | ⟨x1, x2, x3⟩
      · exact absurd x2 q2
      · rw [← x1, p2, m1] at x3
        omega
