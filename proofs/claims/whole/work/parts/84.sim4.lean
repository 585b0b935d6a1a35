theorem i32_add {a b : Int32} (h1 : -2147483648 ≤ a.toInt + b.toInt) (h2 : a.toInt + b.toInt < 2147483648) : (a + b).toInt = a.toInt + b.toInt := by
  rw [Int32.toInt_add]
  exact Int.bmod_eq_of_le (by omega) (by omega)
theorem i32_sub {a b : Int32} (h1 : -2147483648 ≤ a.toInt - b.toInt) (h2 : a.toInt - b.toInt < 2147483648) : (a - b).toInt = a.toInt - b.toInt := by
  rw [Int32.toInt_sub]
  exact Int.bmod_eq_of_le (by omega) (by omega)
theorem i32_mul {a b : Int32} (h1 : -2147483648 ≤ a.toInt * b.toInt) (h2 : a.toInt * b.toInt < 2147483648) : (a * b).toInt = a.toInt * b.toInt := by
  rw [Int32.toInt_mul]
  exact Int.bmod_eq_of_le (by omega) (by omega)
theorem i64_add {a b : Int64} (h1 : -9223372036854775808 ≤ a.toInt + b.toInt) (h2 : a.toInt + b.toInt < 9223372036854775808) : (a + b).toInt = a.toInt + b.toInt := by
  rw [Int64.toInt_add]
  exact Int.bmod_eq_of_le (by omega) (by omega)
theorem i64_mul {a b : Int64} (h1 : -9223372036854775808 ≤ a.toInt * b.toInt) (h2 : a.toInt * b.toInt < 9223372036854775808) : (a * b).toInt = a.toInt * b.toInt := by
  rw [Int64.toInt_mul]
  exact Int.bmod_eq_of_le (by omega) (by omega)
theorem adm_eq {n : Nat} {σ μ : KS} (R : Rel n σ μ) : sumI (fun t => if kB σ 36 t = true then 0 else kI σ 39 t) (kN σ 62 2) = shsM μ := by
  obtain ⟨a1, a2, a3, a4, a5, a6, a7, a8, a9⟩ := R
  unfold shsM
  rw [a2.2.2]
  refine sumI_c (fun t ht => ?_)
  obtain ⟨b1, b2, b3, b4, b5⟩ := a7 t ht
  unfold smF
  rw [b1.2.2.2.2.2.1]
  by_cases q : kB μ 21 t = true
  · rw [if_pos q, if_neg (fun z => by rw [q] at z; exact absurd z.2 (by decide))]
  · rw [if_neg q]
    have q2 : kB μ 21 t = false := by simpa using q
    rcases b5 with b5 | b5
    · rw [b5.2, if_neg (fun z => by rw [b5.1] at z; exact absurd z.1 (by decide))]
    · rw [b5.2.2.1, if_pos ⟨i32_0.mpr (by have := b5.1.1; omega), q2⟩]
theorem prm_eq {n : Nat} {σ μ : KS} (R : Rel n σ μ) : (if kI σ 1 0 < sumI (fun t => kI σ 10 t) (kN σ 62 0) then kI σ 1 0 else sumI (fun t => kI σ 10 t) (kN σ 62 0)) = prM μ := by
  obtain ⟨a1, a2, a3, a4, a5, a6, a7, a8, a9⟩ := R
  have e : sumI (fun t => kI σ 10 t) (kN σ 62 0) = sumI (fun c => kI μ 1 c) (kN μ 3 0) := by
    rw [a2.1]
    exact sumI_c (fun c hc => (a4 c hc).1)
  rw [e, a1.2.1]
  unfold prM
  by_cases q : kI μ 5 0 < sumI (fun c => kI μ 1 c) (kN μ 3 0)
  · rw [if_pos q, if_pos (Int32.le_of_lt q)]
  · rw [if_neg q]
    split
    · rename_i w
      exact Int32.le_antisymm (Int32.not_lt.mp q) w
    · rfl
theorem s_addTimed {n : Nat} {σ μ : KS} {x0 x1 x2 x3 : Int32} {r : Int32} {v : Int64} {σ1 : KS} {b : Int32} {μ1 : KS} (hc : cWF σ) (hd : dWF μ) (R : Rel n σ μ) (h1 : oc_addTimed σ x0 x1 x2 x3 r v σ1) (h2 : om_addTimed μ x0 x1 x2 x3 b μ1) : okR n r v b.toInt64 σ1 μ1 := by
  have eA := adm_eq R
  have eP := prm_eq R
  obtain ⟨a1, a2, a3, a4, a5, a6, a7, a8, a9⟩ := id R
  have bad : (x1 < 1 ∨ 9 < x1 ∨ x2 < 2 ∨ 60 < x2 ∨ x3 < 1 ∨ 40 < x3) ↔ ¬ (rg x1 1 9 = true ∧ rg x2 2 60 = true ∧ rg x3 1 40 = true) := by
    constructor
    · rintro (h | h | h | h | h | h) ⟨z1, z2, z3⟩
      · exact rg_p (Or.inl h) z1
      · exact rg_p (Or.inr h) z1
      · exact rg_p (Or.inl h) z2
      · exact rg_p (Or.inr h) z2
      · exact rg_p (Or.inl h) z3
      · exact rg_p (Or.inr h) z3
    · intro h
      by_cases z1 : x1 < 1 ∨ 9 < x1
      · exact z1.elim Or.inl (fun z => Or.inr (Or.inl z))
      · by_cases z2 : x2 < 2 ∨ 60 < x2
        · exact Or.inr (Or.inr (z2.elim Or.inl (fun z => Or.inr (Or.inl z))))
        · by_cases z3 : x3 < 1 ∨ 40 < x3
          · exact Or.inr (Or.inr (Or.inr (Or.inr z3)))
          · exact absurd ⟨rg_n z1, rg_n z2, rg_n z3⟩ h
  unfold oc_addTimed at h1
  rw [eA, eP] at h1
  rcases h1 with ⟨g, rfl, ⟨p1, p2, p3, p4⟩, rfl, rfl⟩ | ⟨rfl, p1, rfl⟩ | ⟨rfl, ⟨p1, p2⟩, rfl⟩ | ⟨rfl, ⟨p1, p2, p3⟩, rfl⟩ | ⟨rfl, ⟨p1, p2, p3, p4⟩, rfl⟩ <;> rw [a2.2.1] at p1
  · rcases h2 with ⟨q1, rfl⟩ | ⟨q1, q2, rfl⟩ | ⟨q1, q2, q3, rfl⟩ | ⟨q1, q2, q3, q4, rfl⟩ | ⟨u, q1, q2, q3, q4, rfl, rfl⟩
    · exact nomatch p1.symm.trans q1
    · exact absurd (bad.mpr q2) p2
    · exact absurd q3 (Int32.not_lt.mpr p3)
    · rw [a2.2.2] at p4
      omega
    · cases p1.symm.trans q1
      have w1 := rg_t.mp q2.1
      have w2 := rg_t.mp q2.2.1
      have w3 := rg_t.mp q2.2.2
      have u1 := toI_le w2.1
      have u2 := toI_le w2.2
      have u3 := toI_le w3.1
      have u4 := toI_le w3.2
      have o1 : (1 : Int32).toInt = 1 := by decide
      have o2 : (2 : Int32).toInt = 2 := by decide
      have o3 : (60 : Int32).toInt = 60 := by decide
      have o4 : (40 : Int32).toInt = 40 := by decide
      rw [o2] at u1
      rw [o3] at u2
      rw [o1] at u3
      rw [o4] at u4
      have k1 := a3.1
      have k2 := a3.2.1
      have s1 : (kI μ 0 0 + x2).toInt = (kI μ 0 0).toInt + x2.toInt := i32_add (by omega) (by omega)
      refine ⟨th33 μ 0, fun _ => by rw [a2.2.2], ?_⟩
      exact (R.addT hc hd (inR_some q1).2 (p := x2) (bu := x3) ⟨toI_le w1.1, toI_le w1.2⟩ ⟨by omega, by omega⟩ (Or.inr ⟨⟨u1, u2⟩, rfl, rfl, by rw [a1.2.2.1], ⟨u3, u4⟩, by omega, by omega⟩)).mono (Nat.le_succ n)
  · rcases h2 with ⟨q1, rfl⟩ | ⟨q1, q2, rfl⟩ | ⟨q1, q2, q3, rfl⟩ | ⟨q1, q2, q3, q4, rfl⟩ | ⟨u, q1, q2, q3, q4, rfl, rfl⟩
    · exact ⟨th33 _ _, fun z => absurd z (by decide), (R.th 1).mono (Nat.le_succ n)⟩
    · exact absurd p1 q1
    · exact absurd p1 q1
    · exact absurd p1 q1
    · exact nomatch p1.symm.trans q1
  · rcases h2 with ⟨q1, rfl⟩ | ⟨q1, q2, rfl⟩ | ⟨q1, q2, q3, rfl⟩ | ⟨q1, q2, q3, q4, rfl⟩ | ⟨u, q1, q2, q3, q4, rfl, rfl⟩
    · exact absurd q1 p1
    · exact ⟨th33 _ _, fun z => absurd z (by decide), (R.th 2).mono (Nat.le_succ n)⟩
    · exact absurd q2 (bad.mp p2)
    · exact absurd q2 (bad.mp p2)
    · exact absurd q2 (bad.mp p2)
  · rcases h2 with ⟨q1, rfl⟩ | ⟨q1, q2, rfl⟩ | ⟨q1, q2, q3, rfl⟩ | ⟨q1, q2, q3, q4, rfl⟩ | ⟨u, q1, q2, q3, q4, rfl, rfl⟩
    · exact absurd q1 p1
    · exact absurd (bad.mpr q2) p2
    · exact ⟨th33 _ _, fun z => absurd z (by decide), (R.th 3).mono (Nat.le_succ n)⟩
    · exact absurd (Int32.not_lt.mp q3) p3
    · exact absurd (Int32.not_lt.mp q3) p3
  · rcases h2 with ⟨q1, rfl⟩ | ⟨q1, q2, rfl⟩ | ⟨q1, q2, q3, rfl⟩ | ⟨q1, q2, q3, q4, rfl⟩ | ⟨u, q1, q2, q3, q4, rfl, rfl⟩
    · exact absurd q1 p1
    · exact absurd (bad.mpr q2) p2
    · exact absurd q3 (Int32.not_lt.mpr p3)
    · exact ⟨th33 _ _, fun z => absurd z (by decide), (R.th 4).mono (Nat.le_succ n)⟩
    · rw [a2.2.2] at p4
      have := hd.1.2.2.2
      omega
