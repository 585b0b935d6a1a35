/-! BOTH WAYS CHOOSE ALIKE -/
theorem pickS_eq {n : Nat} {τ ν : KS} (b : Bool) (R : Rel n τ ν) (hd : dWF ν) (hp : kO τ 20 0 = none) (Q : rQ τ ν) : pickS b τ = chM ν := by
  cases b with
  | false => exact pc_eq R hd hp Q
  | true => exact pick_eq R hd hp Q
set_option maxRecDepth 100000 in
theorem cho_eqb {n : Nat} {σ μ : KS} (b : Bool) (R : Rel n σ μ) (hd : dWF μ) (hp : kO σ 20 0 = none) : SF σ (choS b σ) ∧ MF μ (csM μ) ∧ ∀ i, i < kN μ 3 0 → kO (choS b σ) 12 i = kO (csM μ) 30 i := by
  obtain ⟨z1, z2, z3⟩ := rQ_0 R hd
  have L : ∀ k, k ≤ kN μ 3 0 → (cofS b (cho0 σ) k).1 = (cmS (cm0 μ) k).1 ∧ SF σ (cofS b (cho0 σ) k).2 ∧ MF μ (cmS (cm0 μ) k).2 ∧ rQ (cofS b (cho0 σ) k).2 (cmS (cm0 μ) k).2 ∧ ∀ i, i < k → kO (cofS b (cho0 σ) k).2 12 i = kO (cmS (cm0 μ) k).2 30 i := by
    intro k
    induction k with
    | zero =>
      intro _
      rw [cofS, cmS]
      exact ⟨rfl, z1, z2, z3, fun i h => absurd h (Nat.not_lt_zero _)⟩
    | succ k ih =>
      intro hk
      obtain ⟨i1, i2, i3, i4, i5⟩ := ih (by omega)
      rw [cofS, cmS]
      generalize cofS b (cho0 σ) k = q at i1 i2 i4 i5 ⊢
      generalize cmS (cm0 μ) k = u at i1 i3 i4 i5 ⊢
      have RQ := R.sf i2 i3
      have hdu := hd.mf i3
      have hc : k < kN u.2 3 0 := by rw [i3.2.2.1]; omega
      obtain ⟨b1, b2, b3, b4⟩ := RQ.2.2.2.1 k hc
      have ep : paceS (kI q.2 10 k) (kI q.2 11 k) (kI q.2 0 0) = paM u.2 k := by
        unfold paM
        rw [b1, b2, RQ.1.1]
      have ec : kI q.2 1 0 = kI u.2 5 0 := RQ.1.2.1
      have e2 : pickS b q.2 = chM u.2 := pickS_eq b RQ hdu (by rw [i2.2.2.2.1 20 (by decide)]; exact hp) i4
      have sb : sameB q.2 (pickSt b q.2) := pickSt_B b q.2
      unfold cof1 cm1
      rw [ep, ec, i1]
      have fin : ∀ (o : Option Nat) (τ ν : KS), kO τ 12 = va_up (kO q.2 12) k o → kO ν 30 = va_up (kO u.2 30) k o → ∀ i, i < k + 1 → kO τ 12 i = kO ν 30 i := by
        intro o τ ν h1 h2 i hi
        rw [h1, h2]
        by_cases e : i = k
        · subst e; rw [vu_s, vu_s]
        · rw [vu_n _ _ e, vu_n _ _ e]; exact i5 i (by omega)
      by_cases w : u.1 + paM u.2 k ≤ kI u.2 5 0
      · rw [if_neg (Int32.not_lt.mpr w), if_pos w]
        rw [e2]
        obtain ⟨f, hf⟩ := sb
        cases e : chM u.2 with
        | none =>
          dsimp only
          rw [hf]
          refine ⟨rfl, (i2.tr (SF.m ⟨f, rfl⟩)).tr (SF.o _ _), i3.tr (MF.o _ _), i4, fin none _ _ (kO_w (sB q.2 25 f) 12 _) (kO_w u.2 30 _)⟩
        | some t =>
          dsimp only
          rw [hf]
          refine ⟨rfl, ((i2.tr (SF.m ⟨f, rfl⟩)).tr (SF.o _ _)).tr (SF.b _ _), (i3.tr (MF.o _ _)).tr (MF.b _ _), fun x hx => ?_, fin (some t) _ _ (kO_w (sB q.2 25 f) 12 _) (kO_w u.2 30 _)⟩
          refine ⟨?_, (i4 x hx).2⟩
          show va_up (kB q.2 45) t false x = va_up (kB u.2 32) t false x
          by_cases e : x = t
          · subst e; rw [vu_s, vu_s]
          · rw [vu_n _ _ e, vu_n _ _ e]; exact (i4 x hx).1
      · rw [if_pos (Int32.not_le.mp w), if_neg w]
        exact ⟨rfl, i2.tr (SF.o _ _), i3.tr (MF.o _ _), i4, fin none _ _ (kO_w q.2 12 _) (kO_w u.2 30 _)⟩
  obtain ⟨_, l2, l3, _, l5⟩ := L (kN μ 3 0) (Nat.le_refl _)
  unfold choS csM
  rw [R.2.1.1]
  exact ⟨l2, l3, l5⟩
theorem s_choiceByComparing {n : Nat} {σ μ : KS} {x0 : Int32} {r : Int32} {v : Int64} {σ1 : KS} {b : Int32} {μ1 : KS} (hc : cWF σ) (hd : dWF μ) (R : Rel n σ μ) (h1 : oc_choiceByComparing σ x0 r v σ1) (h2 : om_choiceByComparing μ x0 b μ1) : okR n r v b.toInt64 σ1 μ1 := by
  have eT : kN σ 62 0 = kN μ 3 0 := R.2.1.1
  rcases h1 with ⟨t, rfl, p1, rfl, rfl⟩ | ⟨rfl, p1, rfl⟩ <;> rw [eT] at p1
  · rcases h2 with ⟨q1, rfl⟩ | ⟨u, q1, rfl, rfl⟩
    · exact nomatch p1.symm.trans q1
    · cases p1.symm.trans q1
      obtain ⟨g1, g2, g3⟩ := cho_eqb false (R.th 0) (μ := thS μ 0) hd hc.2.2.2.2.1.1
      refine ⟨by rw [g2.1 33 (by decide)]; exact th33 μ 0, fun _ => by rw [g3 t (inR_some q1).2], ((R.th 0).sf g1 g2).mono (Nat.le_succ n)⟩
  · rcases h2 with ⟨q1, rfl⟩ | ⟨u, q1, rfl, rfl⟩
    · exact ⟨th33 _ _, fun z => absurd z (by decide), (R.th 1).mono (Nat.le_succ n)⟩
    · exact nomatch p1.symm.trans q1
theorem alike {n : Nat} {σ μ : KS} (hc : cWF σ) (hd : dWF μ) (R : Rel n σ μ) (k i : Nat) (hi : i < kN σ 62 0) : kO (choS true (bwS k σ)) 12 i = kO (choS false (choS true (bwS k σ))) 12 i := by
  have s1 := SF.bw σ k
  have s2 := s1.tr (SF.cho true (bwS k σ))
  have p0 : kO σ 20 0 = none := hc.2.2.2.2.1.1
  have i3 : i < kN μ 3 0 := by rw [← R.2.1.1]; exact hi
  obtain ⟨_, _, g3⟩ := cho_eqb true (R.sf s1 (MF.rf μ)) hd (by rw [s1.2.2.2.1 20 (by decide)]; exact p0)
  obtain ⟨_, _, k3⟩ := cho_eqb false (R.sf s2 (MF.rf μ)) hd (by rw [s2.2.2.2.1 20 (by decide)]; exact p0)
  rw [g3 i i3, k3 i i3]
