/-! ENDING A TASK -/
theorem sw_spec (w t : Nat) : ∀ (n : Nat) (τ : KS), (kL τ (4 + w)).length = kN τ 62 (4 + w) → n ≤ (kL τ (4 + w)).length → (∀ i, n ≤ i → (kL τ (4 + w))[i]? ≠ some t) →
    ((∀ f, f < 60 → kI (swS w t n τ) f = kI τ f) ∧ kW (swS w t n τ) = kW τ ∧ kB (swS w t n τ) = kB τ ∧ kO (swS w t n τ) = kO τ ∧ (∀ f, f < 60 → kN (swS w t n τ) f = kN τ f) ∧ (∀ j, j ≠ 4 + w → kN (swS w t n τ) 62 j = kN τ 62 j) ∧ (∀ j, j ≠ 4 + w → kL (swS w t n τ) j = kL τ j)) ∧
    (kL (swS w t n τ) (4 + w)).length = kN (swS w t n τ) 62 (4 + w) ∧ (kL (swS w t n τ) (4 + w)).Sublist (kL τ (4 + w)) ∧ (∀ x, x ≠ t → x ∈ kL τ (4 + w) → x ∈ kL (swS w t n τ) (4 + w)) ∧ ¬ t ∈ kL (swS w t n τ) (4 + w) := by
  intro n
  induction n with
  | zero =>
    intro τ h1 _ h3
    refine ⟨⟨fun _ _ => rfl, rfl, rfl, rfl, fun _ _ => rfl, fun _ _ => rfl, fun _ _ => rfl⟩, h1, List.Sublist.refl _, fun _ _ h => h, fun h => ?_⟩
    obtain ⟨i, hi⟩ := List.mem_iff_getElem?.mp h
    exact h3 i (Nat.zero_le _) hi
  | succ n ih =>
    intro τ h1 h2 h3
    show _ ∧ _
    rw [swS]
    by_cases q : (kL τ (4 + w)).getD n 0 = t
    · rw [if_pos q]
      have eK : kL (lRem τ (4 + w) n) (4 + w) = (kL τ (4 + w)).eraseIdx n := vu_s _ _ _
      have eZ : kN (lRem τ (4 + w) n) 62 (4 + w) = kN τ 62 (4 + w) - 1 := by
        show va_up (kN τ 62) (4 + w) (kN τ 62 (4 + w) - 1) (4 + w) = _
        rw [vu_s]
      have gn : (kL τ (4 + w))[n]? = some t := by
        rw [List.getD_eq_getElem?_getD, List.getElem?_eq_getElem (by omega)] at q
        rw [List.getElem?_eq_getElem (by omega)]
        exact congrArg some q
      have len : ((kL τ (4 + w)).eraseIdx n).length = (kL τ (4 + w)).length - 1 := List.length_eraseIdx_of_lt (by omega)
      obtain ⟨⟨k1, k2, k3, k4, k5, k6, k7⟩, g1, g2, g3, g4⟩ := ih (lRem τ (4 + w) n) (by rw [eK, eZ, len, h1]) (by rw [eK, len]; omega) (fun i hi => by
        rw [eK, List.getElem?_eraseIdx_of_ge hi]
        exact h3 (i + 1) (by omega))
      refine ⟨⟨fun f hf => (k1 f hf).trans (vu_n _ _ (by omega)), k2, k3, k4, fun f hf => (k5 f hf).trans (vu_n _ _ (by omega)), fun j hj => (k6 j hj).trans ?_, fun j hj => (k7 j hj).trans (vu_n _ _ hj)⟩, g1, ?_, fun x hx hm => g3 x hx ?_, g4⟩
      · show va_up (kN τ 62) (4 + w) _ j = _
        rw [vu_n _ _ hj]
      · rw [eK] at g2
        exact g2.trans (List.eraseIdx_sublist _ _)
      · rw [eK, List.mem_eraseIdx_iff_getElem?]
        obtain ⟨i, hi⟩ := List.mem_iff_getElem?.mp hm
        refine ⟨i, fun z => ?_, hi⟩
        rw [z, gn] at hi
        exact hx (Option.some.inj hi).symm
    · rw [if_neg q]
      refine ih τ h1 (by omega) (fun i hi z => ?_)
      by_cases e : i = n
      · subst e
        rw [List.getD_eq_getElem?_getD, z] at q
        exact q rfl
      · exact h3 i (by omega) z
theorem Rel.ended {n : Nat} {σ μ : KS} (R : Rel n σ μ) (t : Nat) : Rel n (sB (sI σ 34 (va_up (kI σ 34) t 0)) 36 (va_up (kB σ 36) t true)) (sB (sI (thS μ 0) 13 (va_up (kI μ 13) t 0)) 21 (va_up (kB μ 21) t true)) := by
  obtain ⟨a1, a2, a3, a4, a5, a6, a7, a8, a9⟩ := id R
  refine ⟨a1, a2, a3, a4, a5, a6.c rfl rfl rfl rfl rfl rfl, fun u hu => ?_, a8, a9⟩
  obtain ⟨⟨c1, c2, c3, c4, c5, c6, c7, c8, c9, c10⟩, d1, d2, d3, d4⟩ := a7 u hu
  refine ⟨⟨c1, c2, c3, ?_, c5, ?_, c7, c8, c9, c10⟩, d1, d2, ?_, d4⟩
  · show va_up (kI σ 34) t 0 u = va_up (kI μ 13) t 0 u
    by_cases q : u = t
    · subst q; rw [vu_s, vu_s]
    · rw [vu_n _ _ q, vu_n _ _ q]; exact c4
  · show va_up (kB σ 36) t true u = va_up (kB μ 21) t true u
    by_cases q : u = t
    · subst q; rw [vu_s, vu_s]
    · rw [vu_n _ _ q, vu_n _ _ q]; exact c6
  · show 0 ≤ (va_up (kI μ 13) t 0 u).toInt ∧ (va_up (kI μ 13) t 0 u).toInt ≤ 500
    by_cases q : u = t
    · subst q; rw [vu_s]; decide
    · rw [vu_n _ _ q]; exact d3
theorem Rel.stops {n : Nat} {σ μ : KS} (R : Rel n σ μ) {t : Nat} (hd : ∀ l, kO μ 22 t = some l → l < 4) (ht : t < kN μ 24 0) : Rel n (stopS σ t) (sO μ 22 (va_up (kO μ 22) t none)) := by
  obtain ⟨a1, a2, a3, a4, a5, a6, a7, ⟨l1, l2, l3, l4⟩, a9⟩ := id R
  have e22 : kO σ 42 t = kO μ 22 t := (a7 t ht).1.2.2.2.2.2.2.2.2.1
  have wt : ∀ a, a < kN μ 24 0 → va_up (kO μ 22) t none a ≠ none → (kI μ 23 a).toInt < (kI μ 25 0).toInt := fun a ha h => by
    by_cases q : a = t
    · subst q; rw [vu_s] at h; exact absurd rfl h
    · rw [vu_n _ _ q] at h; exact l2 a ha h
  unfold stopS
  cases e : kO σ 42 t with
  | none =>
    have e2 : kO μ 22 t = none := e22.symm.trans e
    refine R.lk (fun _ _ => rfl) rfl (fun _ _ => rfl) (fun _ _ => rfl) (fun _ _ _ => rfl) rfl (fun _ _ _ _ => rfl) rfl rfl (fun f h1 h2 => vu_n _ _ h1) rfl (fun a ha => ?_) ⟨fun l hl => ?_, wt, l3, l4⟩
    · show kO σ 42 a = va_up (kO μ 22) t none a
      by_cases q : a = t
      · subst q; rw [vu_s]; exact e
      · rw [vu_n _ _ q]; exact (a7 a ha).1.2.2.2.2.2.2.2.2.1
    · obtain ⟨d1, d2, d3, d4⟩ := l1 l hl
      refine ⟨d1, fun a => ?_, d3, d4⟩
      rw [d2]
      show _ ↔ a < kN μ 24 0 ∧ va_up (kO μ 22) t none a = some l
      by_cases q : a = t
      · subst q; rw [vu_s, e2]
      · rw [vu_n _ _ q]
  | some w =>
    have e2 : kO μ 22 t = some w := e22.symm.trans e
    have hw := hd w e2
    obtain ⟨b1, b2, b3, b4⟩ := l1 w hw
    obtain ⟨⟨k1, k2, k3, k4, k5, k6, k7⟩, g1, g2, g3, g4⟩ := sw_spec w t (kN σ 62 (4 + w)) (sO σ 42 (va_up (kO σ 42) t none)) b4 (Nat.le_of_eq b4.symm) (fun i hi z => by
      have z : (kL σ (4 + w))[i]? = some t := z
      rw [List.getElem?_eq_none (by rw [b4]; exact hi)] at z
      cases z)
    dsimp only
    generalize swS w t (kN σ 62 (4 + w)) (sO σ 42 (va_up (kO σ 42) t none)) = τ at k1 k2 k3 k4 k5 k6 k7 g1 g2 g3 g4 ⊢
    refine R.lk (fun f hf => k1 f hf) k2 (fun f hf => k5 f hf) (fun j hj => k6 j (by omega)) (fun f h1 h2 => by rw [k4]; exact vu_n _ _ h1) k3 (fun _ _ _ _ => rfl) rfl rfl (fun f h1 h2 => vu_n _ _ h1) rfl (fun a ha => ?_) ⟨fun l hl => ?_, wt, l3, l4⟩
    · rw [k4]
      show va_up (kO σ 42) t none a = va_up (kO μ 22) t none a
      by_cases q : a = t
      · subst q; rw [vu_s, vu_s]
      · rw [vu_n _ _ q, vu_n _ _ q]; exact (a7 a ha).1.2.2.2.2.2.2.2.2.1
    · obtain ⟨d1, d2, d3, d4⟩ := l1 l hl
      by_cases q : l = w
      · subst q
        refine ⟨by rw [k4]; exact d1, fun a => ?_, d3.sublist g2, g1⟩
        show _ ↔ a < kN μ 24 0 ∧ va_up (kO μ 22) t none a = some l
        by_cases q : a = t
        · subst q
          rw [vu_s]
          exact ⟨fun z => absurd z g4, fun z => (nomatch z.2)⟩
        · rw [vu_n _ _ q, ← d2]
          exact ⟨fun z => g2.subset z, fun z => g3 a q z⟩
      · have eK : kL τ (4 + l) = kL σ (4 + l) := k7 _ (by omega)
        refine ⟨by rw [k4]; exact d1, fun a => ?_, by rw [eK]; exact d3, by rw [eK, k6 _ (by omega)]; exact d4⟩
        rw [eK, d2]
        show _ ↔ a < kN μ 24 0 ∧ va_up (kO μ 22) t none a = some l
        by_cases q2 : a = t
        · subst q2
          rw [vu_s, e2]
          exact ⟨fun z => absurd (Option.some.inj z.2).symm q, fun z => (nomatch z.2)⟩
        · rw [vu_n _ _ q2]
theorem Rel.ends {n : Nat} {σ μ : KS} (R : Rel n σ μ) (hd : dWF μ) {t : Nat} (ht : t < kN μ 24 0) : Rel n (endS σ t) (emM μ t) := by
  have E : Rel n (eh0 σ t) (em0 μ t) := (R.ended t).stops (t := t) (fun l h => hd.2.2.2.1 t ht l h) ht
  have hN : ∀ j, kN (emL t j (em0 μ t)) = kN μ := fun j => by rw [emL_N]; rfl
  have L : ∀ j, j ≤ 4 → Rel n (ehL t j (eh0 σ t)) (emL t j (em0 μ t)) := by
    intro j
    induction j with
    | zero => intro _; exact E
    | succ j ih =>
      intro hj
      have R2 := ih (by omega)
      have e := (R2.2.2.2.2.2.2.2.1.1 j (by omega)).1
      rw [ehL, emL, e]
      by_cases q : kO (emL t j (em0 μ t)) 26 j = some t
      · rw [if_pos q, if_pos q]
        exact R2.pass (by rw [hN]; exact hd.1.2.2.2) (by omega)
      · rw [if_neg q, if_neg q]
        exact R2
  exact L 4 (Nat.le_refl 4)
theorem emL_I (t n : Nat) (μ : KS) : kI (emL t n μ) = kI μ := by
  induction n with
  | zero => rfl
  | succ n ih =>
    rw [emL]
    split
    · rw [pnM_I, ih]
    · exact ih
theorem s_end {n : Nat} {σ μ : KS} {x0 : Int32} {r : Int32} {v : Int64} {σ1 : KS} {b : Int32} {μ1 : KS} (hd : dWF μ) (R : Rel n σ μ) (h1 : oc_end σ x0 r v σ1) (h2 : om_end μ x0 b μ1) : okR n r v b.toInt64 σ1 μ1 := by
  obtain ⟨a1, a2, a3, a4, a5, a6, a7, a8, a9⟩ := id R
  rcases h1 with ⟨t, rfl, ⟨p1, p2⟩, rfl, rfl⟩ | ⟨rfl, p1, rfl⟩ | ⟨rfl, ⟨t, p1, p2⟩, rfl⟩ <;> rw [a2.2.2] at p1
  · have ht := (inR_some p1).2
    obtain ⟨c1, c2, c3, c4, c5, c6, c7⟩ := (a7 t ht).1
    rcases h2 with ⟨q1, rfl⟩ | ⟨u, q1, q2, rfl⟩ | ⟨u, q1, q2, rfl, rfl⟩
    · exact nomatch p1.symm.trans q1
    · cases p1.symm.trans q1
      rw [c6, q2] at p2
      cases p2
    · cases p1.symm.trans q1
      refine ⟨?_, fun _ => by rw [c4], (R.ends hd ht).mono (Nat.le_succ n)⟩
      unfold emM
      rw [emL_I]
      exact th33 μ 0
  · rcases h2 with ⟨q1, rfl⟩ | ⟨u, q1, q2, rfl⟩ | ⟨u, q1, q2, rfl, rfl⟩
    · exact ⟨th33 _ _, fun z => absurd z (by decide), (R.th 1).mono (Nat.le_succ n)⟩
    · exact nomatch p1.symm.trans q1
    · exact nomatch p1.symm.trans q1
  · have ht := (inR_some p1).2
    obtain ⟨c1, c2, c3, c4, c5, c6, c7⟩ := (a7 t ht).1
    rcases h2 with ⟨q1, rfl⟩ | ⟨u, q1, q2, rfl⟩ | ⟨u, q1, q2, rfl, rfl⟩
    · exact nomatch p1.symm.trans q1
    · exact ⟨th33 _ _, fun z => absurd z (by decide), (R.th 2).mono (Nat.le_succ n)⟩
    · cases p1.symm.trans q1
      rw [c6, q2] at p2
      cases p2
