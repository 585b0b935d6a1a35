theorem s_heat {n : Nat} {σ μ : KS} {x0 : Int32} {r : Int32} {v : Int64} {σ1 : KS} {b : Int32} {μ1 : KS} (R : Rel n σ μ) (h1 : oc_heat σ x0 r v σ1) (h2 : om_heat μ x0 b μ1) : okR n r v b.toInt64 σ1 μ1 := by
  obtain ⟨a1, a2, a3, a4, a5, a6, a7, a8, a9⟩ := id R
  rcases h1 with ⟨t, rfl, p1, rfl, rfl⟩ | ⟨rfl, p1, rfl⟩ <;> rw [a2.1] at p1
  · rcases h2 with ⟨u, q1, rfl, rfl⟩ | ⟨q1, rfl⟩
    · cases p1.symm.trans q1
      have ht := (inR_some q1).2
      exact ⟨th33 _ _, fun _ => by rw [(a4 t ht).2.1], (R.th 0).mono (Nat.le_succ n)⟩
    · exact nomatch p1.symm.trans q1
  · rcases h2 with ⟨u, q1, rfl, rfl⟩ | ⟨q1, rfl⟩
    · exact nomatch p1.symm.trans q1
    · exact ⟨th33 _ _, fun z => absurd z (by decide), (R.th 1).mono (Nat.le_succ n)⟩

theorem s_pace {n : Nat} {σ μ : KS} {x0 : Int32} {r : Int32} {v : Int64} {σ1 : KS} {b : Int32} {μ1 : KS} (R : Rel n σ μ) (h1 : oc_pace σ x0 r v σ1) (h2 : om_pace μ x0 b μ1) : okR n r v b.toInt64 σ1 μ1 := by
  obtain ⟨a1, a2, a3, a4, a5, a6, a7, a8, a9⟩ := id R
  rcases h1 with ⟨t, rfl, p1, rfl, rfl⟩ | ⟨rfl, p1, rfl⟩ <;> rw [a2.1] at p1
  · rcases h2 with ⟨u, q1, rfl, rfl⟩ | ⟨q1, rfl⟩
    · cases p1.symm.trans q1
      have ht := (inR_some q1).2
      exact ⟨th33 _ _, fun _ => by unfold paM; rw [(a4 t ht).1, (a4 t ht).2.1, a1.1], (R.th 0).mono (Nat.le_succ n)⟩
    · exact nomatch p1.symm.trans q1
  · rcases h2 with ⟨u, q1, rfl, rfl⟩ | ⟨q1, rfl⟩
    · exact nomatch p1.symm.trans q1
    · exact ⟨th33 _ _, fun z => absurd z (by decide), (R.th 1).mono (Nat.le_succ n)⟩

theorem s_left {n : Nat} {σ μ : KS} {x0 : Int32} {r : Int32} {v : Int64} {σ1 : KS} {b : Int32} {μ1 : KS} (R : Rel n σ μ) (h1 : oc_left σ x0 r v σ1) (h2 : om_left μ x0 b μ1) : okR n r v b.toInt64 σ1 μ1 := by
  obtain ⟨a1, a2, a3, a4, a5, a6, a7, a8, a9⟩ := id R
  rcases h1 with ⟨t, rfl, p1, rfl, rfl⟩ | ⟨rfl, p1, rfl⟩ <;> rw [a2.2.2] at p1
  · rcases h2 with ⟨u, q1, rfl, rfl⟩ | ⟨q1, rfl⟩
    · cases p1.symm.trans q1
      have ht := (inR_some q1).2
      exact ⟨th33 _ _, fun _ => by rw [(a7 t ht).1.2.2.2.1], (R.th 0).mono (Nat.le_succ n)⟩
    · exact nomatch p1.symm.trans q1
  · rcases h2 with ⟨u, q1, rfl, rfl⟩ | ⟨q1, rfl⟩
    · exact nomatch p1.symm.trans q1
    · exact ⟨th33 _ _, fun z => absurd z (by decide), (R.th 1).mono (Nat.le_succ n)⟩

theorem s_timeOf {n : Nat} {σ μ : KS} {x0 : Int32} {r : Int32} {v : Int64} {σ1 : KS} {b : Int64} {μ1 : KS} (R : Rel n σ μ) (h1 : oc_timeOf σ x0 r v σ1) (h2 : om_timeOf μ x0 b μ1) : okR n r v b σ1 μ1 := by
  obtain ⟨a1, a2, a3, a4, a5, a6, a7, a8, a9⟩ := id R
  rcases h1 with ⟨t, rfl, p1, rfl, rfl⟩ | ⟨rfl, p1, rfl⟩ <;> rw [a2.2.2] at p1
  · rcases h2 with ⟨u, q1, rfl, rfl⟩ | ⟨q1, rfl⟩
    · cases p1.symm.trans q1
      have ht := (inR_some q1).2
      exact ⟨th33 _ _, fun _ => by rw [(a7 t ht).1.2.2.1], (R.th 0).mono (Nat.le_succ n)⟩
    · exact nomatch p1.symm.trans q1
  · rcases h2 with ⟨u, q1, rfl, rfl⟩ | ⟨q1, rfl⟩
    · exact nomatch p1.symm.trans q1
    · exact ⟨th33 _ _, fun z => absurd z (by decide), (R.th 1).mono (Nat.le_succ n)⟩

theorem s_doneBy {n : Nat} {σ μ : KS} {x0 : Int32} {r : Int32} {v : Int64} {σ1 : KS} {b : Int32} {μ1 : KS} (R : Rel n σ μ) (h1 : oc_doneBy σ x0 r v σ1) (h2 : om_doneBy μ x0 b μ1) : okR n r v b.toInt64 σ1 μ1 := by
  obtain ⟨a1, a2, a3, a4, a5, a6, a7, a8, a9⟩ := id R
  rcases h1 with ⟨t, rfl, p1, rfl, rfl⟩ | ⟨rfl, p1, rfl⟩ <;> rw [a2.2.2] at p1
  · rcases h2 with ⟨u, q1, rfl, rfl⟩ | ⟨q1, rfl⟩
    · cases p1.symm.trans q1
      have ht := (inR_some q1).2
      exact ⟨th33 _ _, fun _ => by rw [(a7 t ht).1.2.2.2.2.1], (R.th 0).mono (Nat.le_succ n)⟩
    · exact nomatch p1.symm.trans q1
  · rcases h2 with ⟨u, q1, rfl, rfl⟩ | ⟨q1, rfl⟩
    · exact nomatch p1.symm.trans q1
    · exact ⟨th33 _ _, fun z => absurd z (by decide), (R.th 1).mono (Nat.le_succ n)⟩

theorem s_missesOf {n : Nat} {σ μ : KS} {x0 : Int32} {r : Int32} {v : Int64} {σ1 : KS} {b : Int32} {μ1 : KS} (R : Rel n σ μ) (h1 : oc_missesOf σ x0 r v σ1) (h2 : om_missesOf μ x0 b μ1) : okR n r v b.toInt64 σ1 μ1 := by
  obtain ⟨a1, a2, a3, a4, a5, a6, a7, a8, a9⟩ := id R
  rcases h1 with ⟨t, rfl, p1, rfl, rfl⟩ | ⟨rfl, p1, rfl⟩ <;> rw [a2.2.2] at p1
  · rcases h2 with ⟨u, q1, rfl, rfl⟩ | ⟨q1, rfl⟩
    · cases p1.symm.trans q1
      have ht := (inR_some q1).2
      exact ⟨th33 _ _, fun _ => by rw [(a7 t ht).1.2.2.2.2.2.2.2.1], (R.th 0).mono (Nat.le_succ n)⟩
    · exact nomatch p1.symm.trans q1
  · rcases h2 with ⟨u, q1, rfl, rfl⟩ | ⟨q1, rfl⟩
    · exact nomatch p1.symm.trans q1
    · exact ⟨th33 _ _, fun z => absurd z (by decide), (R.th 1).mono (Nat.le_succ n)⟩

theorem st_eq {σ μ : KS} {t : Nat} (h1 : kI σ 34 t = kI μ 13 t) (h2 : kB σ 36 t = kB μ 21 t) (h3 : kO σ 42 t = kO μ 22 t) : stS σ t = stM μ t := by
  unfold stS stM readyS
  rw [h1, h2, h3]
  by_cases q : kB μ 21 t = true
  · rw [if_pos q, if_pos q]
  · rw [if_neg q, if_neg q]
    cases e : kO μ 22 t with
    | some l => rw [if_neg (show ¬ (some l = none) from fun z => nomatch z)] <;> rfl
    | none =>
      have q2 : kB μ 21 t = false := by simpa using q
      rw [if_pos rfl]
      by_cases w : 0 < kI μ 13 t
      · dsimp only
        rw [if_pos w, if_pos (decide_eq_true ⟨q2, rfl, w⟩)]
      · dsimp only
        rw [if_neg w, if_neg (by rw [decide_eq_false (fun z => w z.2.2)]; decide)]

theorem s_stateOf {n : Nat} {σ μ : KS} {x0 : Int32} {r : Int32} {v : Int64} {σ1 : KS} {b : Int32} {μ1 : KS} (R : Rel n σ μ) (h1 : oc_stateOf σ x0 r v σ1) (h2 : om_stateOf μ x0 b μ1) : okR n r v b.toInt64 σ1 μ1 := by
  obtain ⟨a1, a2, a3, a4, a5, a6, a7, a8, a9⟩ := id R
  rcases h1 with ⟨t, rfl, p1, rfl, rfl⟩ | ⟨rfl, p1, rfl⟩ <;> rw [a2.2.2] at p1
  · rcases h2 with ⟨u, q1, rfl, rfl⟩ | ⟨q1, rfl⟩
    · cases p1.symm.trans q1
      have ht := (inR_some q1).2
      exact ⟨th33 _ _, fun _ => by rw [st_eq (a7 t ht).1.2.2.2.1 (a7 t ht).1.2.2.2.2.2.1 (a7 t ht).1.2.2.2.2.2.2.2.2.1], (R.th 0).mono (Nat.le_succ n)⟩
    · exact nomatch p1.symm.trans q1
  · rcases h2 with ⟨u, q1, rfl, rfl⟩ | ⟨q1, rfl⟩
    · exact nomatch p1.symm.trans q1
    · exact ⟨th33 _ _, fun z => absurd z (by decide), (R.th 1).mono (Nat.le_succ n)⟩

theorem s_doneIn {n : Nat} {σ μ : KS} {x0 : Int32} {r : Int32} {v : Int64} {σ1 : KS} {b : Int32} {μ1 : KS} (R : Rel n σ μ) (h1 : oc_doneIn σ x0 r v σ1) (h2 : om_doneIn μ x0 b μ1) : okR n r v b.toInt64 σ1 μ1 := by
  obtain ⟨a1, a2, a3, a4, a5, a6, a7, a8, a9⟩ := id R
  rcases h1 with ⟨t, rfl, p1, rfl, rfl⟩ | ⟨rfl, p1, rfl⟩ <;> rw [a2.2.1] at p1
  · rcases h2 with ⟨q1, rfl⟩ | ⟨u, q1, rfl, rfl⟩
    · exact nomatch p1.symm.trans q1
    · cases p1.symm.trans q1
      exact ⟨th33 _ _, fun _ => by rw [a6 t (inR_some q1).2], (R.th 0).mono (Nat.le_succ n)⟩
  · rcases h2 with ⟨q1, rfl⟩ | ⟨u, q1, rfl, rfl⟩
    · exact ⟨th33 _ _, fun z => absurd z (by decide), (R.th 1).mono (Nat.le_succ n)⟩
    · exact nomatch p1.symm.trans q1

theorem s_timeOfGroup {n : Nat} {σ μ : KS} {x0 : Int32} {r : Int32} {v : Int64} {σ1 : KS} {b : Int64} {μ1 : KS} (R : Rel n σ μ) (h1 : oc_timeOfGroup σ x0 r v σ1) (h2 : om_timeOfGroup μ x0 b μ1) : okR n r v b σ1 μ1 := by
  obtain ⟨a1, a2, a3, a4, a5, a6, a7, a8, a9⟩ := id R
  rcases h1 with ⟨t, rfl, ⟨p1, p2⟩, rfl, rfl⟩ | ⟨rfl, p1, rfl⟩ <;> rw [a2.2.1] at p1
  · rcases h2 with ⟨u, q1, q2, rfl, rfl⟩ | ⟨q1, rfl⟩
    · cases p1.symm.trans q1
      exact ⟨th33 _ _, fun _ => (a5 t (by omega) (inR_some q1).2).2.2.1, (R.th 0).mono (Nat.le_succ n)⟩
    · exfalso
      rcases q1 with q1 | q1
      · exact nomatch p1.symm.trans q1
      · exact p2 (Option.some.inj (p1.symm.trans q1))
  · rcases h2 with ⟨u, q1, q2, rfl, rfl⟩ | ⟨q1, rfl⟩
    · exfalso
      rcases p1 with p1 | p1
      · exact nomatch p1.symm.trans q1
      · exact q2 (Option.some.inj (q1.symm.trans p1))
    · exact ⟨th33 _ _, fun z => absurd z (by decide), (R.th 1).mono (Nat.le_succ n)⟩

theorem i32_0 {x : Int32} : 0 < x ↔ 0 < x.toInt := Int32.lt_iff_toInt_lt
theorem i32_ne {x : Int32} (h : 0 < x.toInt) : ¬ x = 0 := fun z => by
  rw [z] at h
  exact absurd h (by decide)
theorem per_0 {σ μ : KS} {t : Nat} (R : rT σ μ) (ht : t < kN μ 24 0) : 0 < kI σ 37 t ↔ ¬ kI μ 14 t = 0 := by
  obtain ⟨b1, b2, b3, b4, b5⟩ := R t ht
  rw [b1.2.2.2.2.2.2.1]
  rcases b5 with b5 | b5
  · rw [b5.1]
    exact ⟨fun h => absurd h (by decide), fun h => absurd rfl h⟩
  · have h0 : 0 < (kI μ 14 t).toInt := by omega
    exact ⟨fun _ => i32_ne h0, fun _ => i32_0.mpr h0⟩

theorem s_deadlineOf {n : Nat} {σ μ : KS} {x0 : Int32} {r : Int32} {v : Int64} {σ1 : KS} {b : Int32} {μ1 : KS} (R : Rel n σ μ) (h1 : oc_deadlineOf σ x0 r v σ1) (h2 : om_deadlineOf μ x0 b μ1) : okR n r v b.toInt64 σ1 μ1 := by
  obtain ⟨a1, a2, a3, a4, a5, a6, a7, a8, a9⟩ := id R
  rcases h1 with ⟨t, rfl, ⟨p1, p2⟩, rfl, rfl⟩ | ⟨rfl, p1, rfl⟩ | ⟨rfl, ⟨t, p1, p2⟩, rfl⟩ <;> rw [a2.2.2] at p1
  · rcases h2 with ⟨q1, rfl⟩ | ⟨u, q1, q2, rfl⟩ | ⟨u, q1, q2, rfl, rfl⟩
    · exact nomatch p1.symm.trans q1
    · cases p1.symm.trans q1
      exact absurd q2 ((per_0 a7 (inR_some q1).2).mp p2)
    · cases p1.symm.trans q1
      refine ⟨th33 _ _, fun _ => ?_, (R.th 0).mono (Nat.le_succ n)⟩
      rcases (a7 t (inR_some q1).2).2.2.2.2 with b5 | b5
      · exact absurd b5.1 q2
      · rw [b5.2.2.2.1]
  · rcases h2 with ⟨q1, rfl⟩ | ⟨u, q1, q2, rfl⟩ | ⟨u, q1, q2, rfl, rfl⟩
    · exact ⟨th33 _ _, fun z => absurd z (by decide), (R.th 1).mono (Nat.le_succ n)⟩
    · exact nomatch p1.symm.trans q1
    · exact nomatch p1.symm.trans q1
  · rcases h2 with ⟨q1, rfl⟩ | ⟨u, q1, q2, rfl⟩ | ⟨u, q1, q2, rfl, rfl⟩
    · exact nomatch p1.symm.trans q1
    · exact ⟨th33 _ _, fun z => absurd z (by decide), (R.th 2).mono (Nat.le_succ n)⟩
    · cases p1.symm.trans q1
      exact absurd ((per_0 a7 (inR_some q1).2).mpr q2) p2

theorem s_holderOf {n : Nat} {σ μ : KS} {x0 : Int32} {r : Int32} {v : Int64} {σ1 : KS} {b : Int32} {μ1 : KS} (hc : cWF σ) (R : Rel n σ μ) (h1 : oc_holderOf σ x0 r v σ1) (h2 : om_holderOf μ x0 b μ1) : okR n r v b.toInt64 σ1 μ1 := by
  obtain ⟨a1, a2, a3, a4, a5, a6, a7, a8, a9⟩ := id R
  have e4 : kN σ 62 3 = 4 := hc.1.2.2.2.2
  rcases h1 with ⟨t, rfl, p1, rfl, rfl⟩ | ⟨rfl, p1, rfl⟩ <;> rw [e4] at p1
  · rcases h2 with ⟨q1, rfl⟩ | ⟨u, q1, rfl, rfl⟩
    · exact nomatch p1.symm.trans q1
    · cases p1.symm.trans q1
      exact ⟨th33 _ _, fun _ => by rw [(a8.1 t (inR_some q1).2).1], (R.th 0).mono (Nat.le_succ n)⟩
  · rcases h2 with ⟨q1, rfl⟩ | ⟨u, q1, rfl, rfl⟩
    · exact ⟨th33 _ _, fun z => absurd z (by decide), (R.th 1).mono (Nat.le_succ n)⟩
    · exact nomatch p1.symm.trans q1

