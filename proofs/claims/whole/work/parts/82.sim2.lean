theorem s_setLimit {n : Nat} {σ μ : KS} {x0 : Int32} {r : Int32} {v : Int64} {σ1 : KS} {b : Int32} {μ1 : KS} (R : Rel n σ μ) (h1 : oc_setLimit σ x0 r v σ1) (h2 : om_setLimit μ x0 b μ1) : okR n r v b.toInt64 σ1 μ1 := by
  obtain ⟨a1, a2, a3, a4, a5, a6, a7, a8, a9⟩ := id R
  rcases h1 with ⟨rfl, p1, rfl, rfl⟩ | ⟨rfl, p1, rfl⟩
  · rcases h2 with ⟨q1, rfl, rfl⟩ | ⟨q1, rfl⟩
    · refine ⟨th33 μ 0, fun _ => by rw [a1.1], ?_⟩
      exact Rel.mono (n := n) ⟨⟨(kI_at _ _ _ _ _).trans (kI_at _ _ _ _ _).symm, a1.2⟩, a2, a3, a4, a5, a6.c rfl rfl rfl rfl rfl rfl, a7, a8, a9⟩ (Nat.le_succ n)
    · rw [rg_t.mpr p1] at q1
      cases q1
  · rcases h2 with ⟨q1, rfl, rfl⟩ | ⟨q1, rfl⟩
    · exact absurd q1 (rg_p p1)
    · refine ⟨th33 μ 1, fun z => absurd z (by decide), ?_⟩
      exact Rel.mono (n := n) ⟨⟨a1.1.trans (kI_at _ _ _ _ _).symm, a1.2⟩, a2, a3, a4, a5, a6.c rfl rfl rfl rfl rfl rfl, a7, a8, a9⟩ (Nat.le_succ n)
theorem s_setCap {n : Nat} {σ μ : KS} {x0 : Int32} {r : Int32} {v : Int64} {σ1 : KS} {b : Int32} {μ1 : KS} (R : Rel n σ μ) (h1 : oc_setCap σ x0 r v σ1) (h2 : om_setCap μ x0 b μ1) : okR n r v b.toInt64 σ1 μ1 := by
  obtain ⟨a1, a2, a3, a4, a5, a6, a7, a8, a9⟩ := id R
  rcases h1 with ⟨rfl, p1, rfl, rfl⟩ | ⟨rfl, p1, rfl⟩
  · rcases h2 with ⟨q1, rfl, rfl⟩ | ⟨q1, rfl⟩
    · refine ⟨th33 μ 0, fun _ => by rw [a1.2.1], ?_⟩
      exact Rel.mono (n := n) ⟨⟨a1.1, (kI_at _ _ _ _ _).trans (kI_at _ _ _ _ _).symm, a1.2.2⟩, a2, a3, a4, a5, a6.c rfl rfl rfl rfl rfl rfl, a7, a8, a9⟩ (Nat.le_succ n)
    · rw [rg_t.mpr p1] at q1
      cases q1
  · rcases h2 with ⟨q1, rfl, rfl⟩ | ⟨q1, rfl⟩
    · exact absurd q1 (rg_p p1)
    · refine ⟨th33 μ 1, fun z => absurd z (by decide), ?_⟩
      exact Rel.mono (n := n) ⟨⟨a1.1, a1.2.1.trans (kI_at _ _ _ _ _).symm, a1.2.2⟩, a2, a3, a4, a5, a6.c rfl rfl rfl rfl rfl rfl, a7, a8, a9⟩ (Nat.le_succ n)
theorem toI_le {x y : Int32} (h : x ≤ y) : x.toInt ≤ y.toInt := Int32.le_iff_toInt_le.mp h
/-- adding -/
theorem s_addCore {n : Nat} {σ μ : KS} {x0 : Int32} {r : Int32} {v : Int64} {σ1 : KS} {b : Int32} {μ1 : KS} (hc : cWF σ) (hn : n < 512) (R : Rel n σ μ) (h1 : oc_addCore σ x0 r v σ1) (h2 : om_addCore μ x0 b μ1) : okR n r v b.toInt64 σ1 μ1 := by
  obtain ⟨a1, a2, a3, a4, a5, a6, a7, a8, a9⟩ := id R
  have c3 : kN μ 3 0 ≤ 3 := a2.1 ▸ hc.1.1
  rcases h1 with ⟨rfl, ⟨p1, p2⟩, rfl, rfl⟩ | ⟨rfl, p1, rfl⟩ | ⟨rfl, ⟨p1, p2⟩, rfl⟩
  · rcases h2 with ⟨q1, rfl⟩ | ⟨q1, q2, rfl⟩ | ⟨q1, q2, rfl, rfl⟩
    · rw [rg_t.mpr p1] at q1
      cases q1
    · rw [a2.1] at p2
      omega
    · refine ⟨th33 μ 0, fun _ => by rw [a2.1], ?_⟩
      refine Rel.mono (n := n) ⟨a1, ⟨?_, a2.2⟩, a3, ?_, a5, a6.c rfl rfl rfl rfl rfl rfl, a7, a8.c rfl rfl (fun l hl => by show va_up (kN σ 62) 0 _ (4 + l) = _; rw [vu_n _ _ (by omega)]) rfl rfl rfl rfl rfl, ?_⟩ (Nat.le_succ n)
      · show va_up (kN σ 62) 0 (kN σ 62 0 + 1) 0 = va_up (kN μ 3) 0 (kN μ 3 0 + 1) 0
        rw [vu_s, vu_s, a2.1]
      · intro c hc1
        replace hc1 : c < va_up (kN μ 3) 0 (kN μ 3 0 + 1) 0 := hc1
        rw [vu_s] at hc1
        show va_up (kI σ 10) (kN σ 62 0) x0 c = va_up (kI μ 1) (kN μ 3 0) x0 c ∧ va_up (kI σ 11) (kN σ 62 0) 0 c = kI μ 2 c ∧ (1 ≤ (va_up (kI μ 1) (kN μ 3 0) x0 c).toInt ∧ (va_up (kI μ 1) (kN μ 3 0) x0 c).toInt ≤ 4) ∧ 0 ≤ (kI μ 2 c).toInt ∧ (kI μ 2 c).toInt ≤ 4 * (kI μ 0 0).toInt
        rw [a2.1]
        by_cases q : c = kN μ 3 0
        · subst q
          rw [vu_s, vu_s, vu_s, a9 _ (Nat.le_refl _)]
          have e1 := toI_le p1.1
          have e2 := toI_le p1.2
          have z : (0 : Int32).toInt = 0 := by decide
          have o1 : (1 : Int32).toInt = 1 := by decide
          have o4 : (4 : Int32).toInt = 4 := by decide
          rw [o1] at e1
          rw [o4] at e2
          have := a3.1
          exact ⟨rfl, rfl, ⟨e1, e2⟩, by omega, by omega⟩
        · rw [vu_n _ _ q, vu_n _ _ q, vu_n _ _ q]
          exact a4 c (by omega)
      · intro c hc1
        replace hc1 : va_up (kN μ 3) 0 (kN μ 3 0 + 1) 0 ≤ c := hc1
        rw [vu_s] at hc1
        exact a9 c (by omega)
  · rcases h2 with ⟨q1, rfl⟩ | ⟨q1, q2, rfl⟩ | ⟨q1, q2, rfl, rfl⟩
    · exact ⟨th33 _ _, fun z => absurd z (by decide), (R.th 1).mono (Nat.le_succ n)⟩
    · exact absurd q1 (rg_p p1)
    · exact absurd q1 (rg_p p1)
  · rcases h2 with ⟨q1, rfl⟩ | ⟨q1, q2, rfl⟩ | ⟨q1, q2, rfl, rfl⟩
    · rw [rg_n p1] at q1
      cases q1
    · exact ⟨th33 _ _, fun z => absurd z (by decide), (R.th 2).mono (Nat.le_succ n)⟩
    · rw [a2.1] at p2
      omega
/-- the least time: 'none yet' is the greatest number here, -1 there -/
def lr (x y : Int64) : Prop := (x = 9223372036854775807 ∧ y = -1) ∨ (x = y ∧ 0 ≤ y.toInt ∧ y.toInt < 2 ^ 62)
theorem lr.step {x y w : Int64} (h : lr x y) (h0 : 0 ≤ w.toInt) (h1 : w.toInt < 2 ^ 62) : lr (if w < x then w else x) (if y < 0 ∨ w < y then w else y) := by
  have z : (0 : Int64).toInt = 0 := by decide
  have M : (9223372036854775807 : Int64).toInt = 9223372036854775807 := by decide
  rcases h with ⟨rfl, rfl⟩ | ⟨rfl, h2, h3⟩
  · rw [if_pos (Int64.lt_iff_toInt_lt.mpr (by rw [M]; omega)), if_pos (Or.inl (by decide))]
    exact Or.inr ⟨rfl, h0, h1⟩
  · have n0 : ¬ x < 0 := fun q => by
      have := Int64.lt_iff_toInt_lt.mp q
      rw [z] at this
      omega
    by_cases q : w < x
    · rw [if_pos q, if_pos (Or.inr q)]
      exact Or.inr ⟨rfl, h0, h1⟩
    · rw [if_neg q, if_neg (fun o => o.elim n0 q)]
      exact Or.inr ⟨rfl, h2, h3⟩
theorem least_eq {σ μ : KS} (hc : cWF σ) (a2 : rN σ μ) (a3 : rB μ) (a5 : rG σ μ) (a7 : rT σ μ) {g : Nat} (hg : g < kN μ 9 0) : leastS σ g = lsM μ g := by
  have g1 : ∀ j, j + 1 ≤ kN μ 9 0 → lr (lmG σ g (j + 1)) (lgM μ g j) := by
    intro j
    induction j with
    | zero =>
      intro _
      rw [lmG, if_neg (by rw [hc.2.2.2.2.1.1]; exact (fun z => nomatch z))]
      exact Or.inl ⟨rfl, rfl⟩
    | succ j ih =>
      intro hj
      obtain ⟨b1, b2, b3, b4, b5, b6⟩ := a5 (j + 1) (by omega) (by omega)
      have st := (ih (by omega)).step b5 (by have := a3.2.1; omega)
      rw [lmG, lgM, b1, b3]
      by_cases q : kN μ 6 (j + 1) = g
      · rw [if_pos (show some (kN μ 6 (j + 1)) = some g from by rw [q])]
        by_cases w : lgM μ g j < 0 ∨ kW μ 8 (j + 1) < lgM μ g j
        · rw [if_pos (show kN μ 6 (j + 1) = g ∧ (lgM μ g j < 0 ∨ kW μ 8 (j + 1) < lgM μ g j) from ⟨q, w⟩)]
          rw [if_pos w] at st
          exact st
        · rw [if_neg (show ¬ (kN μ 6 (j + 1) = g ∧ (lgM μ g j < 0 ∨ kW μ 8 (j + 1) < lgM μ g j)) from fun z => w z.2)]
          rw [if_neg w] at st
          exact st
      · rw [if_neg (show ¬ (some (kN μ 6 (j + 1)) = some g) from fun z => q (Option.some.inj z)), if_neg (show ¬ (kN μ 6 (j + 1) = g ∧ (lgM μ g j < 0 ∨ kW μ 8 (j + 1) < lgM μ g j)) from fun z => q z.1)]
        exact ih (by omega)
  have g2 : ∀ m, m ≤ kN μ 24 0 → lr (lmT σ g m) (ltM μ g m) := by
    intro m
    induction m with
    | zero =>
      intro _
      have h1 : 1 ≤ kN μ 9 0 := by omega
      have := g1 (kN μ 9 0 - 1) (by omega)
      rw [show kN μ 9 0 - 1 + 1 = kN μ 9 0 by omega] at this
      show lr (lmG σ g (kN σ 62 1)) _
      rw [a2.2.1]
      exact this
    | succ m ih =>
      intro hm
      obtain ⟨b1, b2, b3, b4, b5⟩ := a7 m (by omega)
      have st := (ih (by omega)).step b3.1 (by have := a3.2.1; omega)
      rw [lmT, ltM, b1.1, b1.2.2.1]
      by_cases q : kN μ 10 m = g
      · rw [if_pos q]
        by_cases w : ltM μ g m < 0 ∨ kW μ 12 m < ltM μ g m
        · rw [if_pos (show kN μ 10 m = g ∧ (ltM μ g m < 0 ∨ kW μ 12 m < ltM μ g m) from ⟨q, w⟩)]
          rw [if_pos w] at st
          exact st
        · rw [if_neg (show ¬ (kN μ 10 m = g ∧ (ltM μ g m < 0 ∨ kW μ 12 m < ltM μ g m)) from fun z => w z.2)]
          rw [if_neg w] at st
          exact st
      · rw [if_neg q, if_neg (show ¬ (kN μ 10 m = g ∧ (ltM μ g m < 0 ∨ kW μ 12 m < ltM μ g m)) from fun z => q z.1)]
        exact ih (by omega)
  have g3 := g2 (kN μ 24 0) (Nat.le_refl _)
  unfold leastS lsM
  rw [a2.2.2]
  rcases g3 with ⟨h1, h2⟩ | ⟨h1, h2, h3⟩
  · rw [h1, h2, if_pos rfl, if_neg (by decide)]
  · have M : (9223372036854775807 : Int64).toInt = 9223372036854775807 := by decide
    have z : (0 : Int64).toInt = 0 := by decide
    rw [if_neg (fun q => by rw [h1] at q; rw [q, M] at h3; omega), h1, if_pos (Int64.le_iff_toInt_le.mpr (by rw [z]; exact h2))]
/-- the least time is in its bounds -/
theorem least_bd {μ : KS} (a3 : rB μ) {σ : KS} (a5 : rG σ μ) (a7 : rT σ μ) (h1 : 1 ≤ kN μ 9 0) (g : Nat) : 0 ≤ (lsM μ g).toInt ∧ (lsM μ g).toInt ≤ 30240 * (kI μ 0 0).toInt := by
  have z : (0 : Int64).toInt = 0 := by decide
  have m1 : (-1 : Int64).toInt = -1 := by decide
  have k0 := a3.1
  have g1 : ∀ j, j + 1 ≤ kN μ 9 0 → -1 ≤ (lgM μ g j).toInt ∧ (lgM μ g j).toInt ≤ 30240 * (kI μ 0 0).toInt := by
    intro j
    induction j with
    | zero => intro _; show -1 ≤ (-1 : Int64).toInt ∧ (-1 : Int64).toInt ≤ _; rw [m1]; omega
    | succ j ih =>
      intro hj
      obtain ⟨_, _, _, _, b5, b6⟩ := a5 (j + 1) (by omega) (by omega)
      rw [lgM]
      split
      · exact ⟨by omega, b6⟩
      · exact ih (by omega)
  have g2 : ∀ m, m ≤ kN μ 24 0 → -1 ≤ (ltM μ g m).toInt ∧ (ltM μ g m).toInt ≤ 30240 * (kI μ 0 0).toInt := by
    intro m
    induction m with
    | zero => intro _; exact g1 _ (by omega)
    | succ m ih =>
      intro hm
      obtain ⟨_, _, b3, _, _⟩ := a7 m (by omega)
      rw [ltM]
      split
      · exact ⟨by have := b3.1; omega, b3.2⟩
      · exact ih (by omega)
  have g3 := g2 _ (Nat.le_refl _)
  unfold lsM
  split
  · rename_i q
    have := Int64.le_iff_toInt_le.mp q
    rw [z] at this
    exact ⟨this, g3.2⟩
  · rw [z]; omega
