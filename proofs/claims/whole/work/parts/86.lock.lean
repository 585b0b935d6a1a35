/-! RELEASING, AND WHO WAITS -/
theorem pnM_I (μ : KS) (l : Nat) : kI (pnM μ l) = kI μ := by
  unfold pnM
  split <;> rfl
theorem s_release {n : Nat} {σ μ : KS} {x0 : Int32} {r : Int32} {v : Int64} {σ1 : KS} {b : Int32} {μ1 : KS} (hc : cWF σ) (hd : dWF μ) (R : Rel n σ μ) (h1 : oc_release σ x0 r v σ1) (h2 : om_release μ x0 b μ1) : okR n r v b.toInt64 σ1 μ1 := by
  obtain ⟨a1, a2, a3, a4, a5, a6, a7, a8, a9⟩ := id R
  have e4 : kN σ 62 3 = 4 := hc.1.2.2.2.2
  rcases h1 with ⟨w, t, rfl, ⟨p1, p2⟩, rfl, rfl⟩ | ⟨rfl, p1, rfl⟩ | ⟨rfl, ⟨w, p1, p2⟩, rfl⟩ <;> rw [e4] at p1
  · have hw : w < 4 := (inR_some p1).2
    rcases h2 with ⟨q1, rfl⟩ | ⟨u, q1, q2, rfl⟩ | ⟨u, q1, q2, rfl, rfl⟩
    · exact nomatch p1.symm.trans q1
    · cases p1.symm.trans q1
      have := (a8.1 w hw).1
      rw [p2, q2] at this
      cases this
    · cases p1.symm.trans q1
      have P := (R.th 0).pass hd.1.2.2.2 hw
      refine ⟨by rw [pnM_I]; exact th33 μ 0, fun _ => by rw [(P.2.2.2.2.2.2.2.1.1 w hw).1], P.mono (Nat.le_succ n)⟩
  · rcases h2 with ⟨q1, rfl⟩ | ⟨u, q1, q2, rfl⟩ | ⟨u, q1, q2, rfl, rfl⟩
    · exact ⟨th33 _ _, fun z => absurd z (by decide), (R.th 1).mono (Nat.le_succ n)⟩
    · exact nomatch p1.symm.trans q1
    · exact nomatch p1.symm.trans q1
  · have hw : w < 4 := (inR_some p1).2
    have e := (a8.1 w hw).1
    rcases h2 with ⟨q1, rfl⟩ | ⟨u, q1, q2, rfl⟩ | ⟨u, q1, q2, rfl, rfl⟩
    · exact nomatch p1.symm.trans q1
    · exact ⟨th33 _ _, fun z => absurd z (by decide), (R.th 2).mono (Nat.le_succ n)⟩
    · cases p1.symm.trans q1
      exact absurd (e.symm.trans p2) q2
theorem s_waiterAt {n : Nat} {σ μ : KS} {x0 x1 : Int32} {r : Int32} {v : Int64} {σ1 : KS} {b : Int32} {μ1 : KS} (hc : cWF σ) (hd : dWF μ) (R : Rel n σ μ) (h1 : oc_waiterAt σ x0 x1 r v σ1) (h2 : om_waiterAt μ x0 x1 b μ1) : okR n r v b.toInt64 σ1 μ1 := by
  obtain ⟨a1, a2, a3, a4, a5, a6, a7, a8, a9⟩ := id R
  have e4 : kN σ 62 3 = 4 := hc.1.2.2.2.2
  rcases h1 with ⟨w, i, rfl, ⟨p1, p2⟩, rfl, rfl⟩ | ⟨rfl, p1, rfl⟩ | ⟨rfl, ⟨w, p1, p2⟩, rfl⟩ <;> rw [e4] at p1
  · have hw : w < 4 := (inR_some p1).2
    obtain ⟨b1, b2, b3, b4⟩ := a8.1 w hw
    obtain ⟨rfl, hi⟩ := inR_some p2
    rw [← b4] at hi
    have eg : (kL σ1 (4 + w))[i]? = some ((kL σ1 (4 + w)).getD i 0) := by
      rw [List.getD_eq_getElem?_getD, List.getElem?_eq_getElem hi]
      rfl
    have ew := wt_at (i := i) b2 b3 hd.1.2.2.2 eg
    have h12 := list_le R hd hw
    rw [← b4] at h12
    rcases h2 with ⟨q1, rfl⟩ | ⟨u, q1, ⟨q2, rfl⟩ | ⟨q2, t, q3, rfl, rfl⟩⟩
    · exact nomatch p1.symm.trans q1
    · cases p1.symm.trans q1
      rcases q2 with q2 | q2
      · exact absurd q2 (nI_pos (by omega))
      · rw [ew] at q2
        cases q2
    · cases p1.symm.trans q1
      rw [ew] at q3
      cases q3
      exact ⟨th33 _ _, fun _ => rfl, (R.th 0).mono (Nat.le_succ n)⟩
  · rcases h2 with ⟨q1, rfl⟩ | ⟨u, q1, ⟨q2, rfl⟩ | ⟨q2, t, q3, rfl, rfl⟩⟩
    · exact ⟨th33 _ _, fun z => absurd z (by decide), (R.th 1).mono (Nat.le_succ n)⟩
    · exact nomatch p1.symm.trans q1
    · exact nomatch p1.symm.trans q1
  · have hw : w < 4 := (inR_some p1).2
    obtain ⟨b1, b2, b3, b4⟩ := a8.1 w hw
    have ew : wtT μ w x1 = none := wt_out b2 b3 hd.1.2.2.2 (by rw [b4]; exact p2)
    rcases h2 with ⟨q1, rfl⟩ | ⟨u, q1, ⟨q2, rfl⟩ | ⟨q2, t, q3, rfl, rfl⟩⟩
    · exact nomatch p1.symm.trans q1
    · exact ⟨th33 _ _, fun z => absurd z (by decide), (R.th 2).mono (Nat.le_succ n)⟩
    · cases p1.symm.trans q1
      rw [ew] at q3
      cases q3
