theorem iu_new {μ ν : KS} {m g : Nat} (hd : ∀ k, 0 < k → k < m → kN μ 6 k < k) (h6 : kN ν 6 = va_up (kN μ 6) m g) (r : Nat) : ∀ f a, a < m → iuM ν r f a = iuM μ r f a := by
  intro f
  induction f with
  | zero => intro a _; rfl
  | succ f ih =>
    intro a ha
    rw [iuM, iuM, h6, vu_n _ _ (by omega)]
    by_cases z : a = 0
    · subst z
      by_cases q : 0 = r
      · rw [if_pos q, if_pos q]
      · rw [if_neg q, if_neg q, if_pos rfl, if_pos rfl]
    · have := hd a (by omega) ha
      rw [ih (kN μ 6 a) (by omega)]
theorem iu_out {μ : KS} {m : Nat} (hd : ∀ k, 0 < k → k < m → kN μ 6 k < k) : ∀ f a, a < m → iuM μ m f a = false := by
  intro f
  induction f with
  | zero => intro a ha; exact decide_eq_false (by omega)
  | succ f ih =>
    intro a ha
    rw [iuM, if_neg (by omega)]
    by_cases z : a = 0
    · rw [if_pos z]
    · have := hd a (by omega) ha
      rw [if_neg z]
      exact ih _ (by omega)
theorem sumI_0 {f : Nat → Int32} {n : Nat} (h : ∀ t, t < n → f t = 0) : sumI f n = 0 := by
  induction n with
  | zero => rfl
  | succ n ih => rw [sumI, ih (fun t ht => h t (by omega)), h n (by omega)]; rfl
theorem s_addGroup {n : Nat} {σ μ : KS} {x0 x1 : Int32} {r : Int32} {v : Int64} {σ1 : KS} {b : Int32} {μ1 : KS} (hc : cWF σ) (hd : dWF μ) (R : Rel n σ μ) (h1 : oc_addGroup σ x0 x1 r v σ1) (h2 : om_addGroup μ x0 x1 b μ1) : okR n r v b.toInt64 σ1 μ1 := by
  obtain ⟨a1, a2, a3, a4, a5, a6, a7, a8, a9⟩ := id R
  rcases h1 with ⟨g, rfl, ⟨p1, p2, p3⟩, rfl, rfl⟩ | ⟨rfl, p1, rfl⟩ | ⟨rfl, ⟨p1, p2⟩, rfl⟩ | ⟨rfl, ⟨p1, p2, p3⟩, rfl⟩ <;> rw [a2.2.1] at p1
  · rcases h2 with ⟨q1, rfl⟩ | ⟨q1, q2, rfl⟩ | ⟨q1, q2, q3, rfl⟩ | ⟨u, q1, q2, q3, rfl, rfl⟩
    · exact nomatch p1.symm.trans q1
    · rw [rg_t.mpr p2] at q2
      cases q2
    · rw [a2.2.1] at p3
      omega
    · cases p1.symm.trans q1
      have hg := (inR_some q1).2
      have eL := least_eq hc a2 a3 a5 a7 hg
      have bL := least_bd a3 a5 a7 hd.1.2.1 g
      refine ⟨th33 μ 0, fun _ => by rw [a2.2.1], ?_⟩
      refine Rel.mono (n := n) ⟨a1, ⟨a2.1, ?_, a2.2.2⟩, a3, a4, fun k h0 hk => ?_, fun k hk => ?_, a7, a8.c rfl rfl (fun l hl => by show va_up (kN σ 62) 1 _ (4 + l) = _; rw [vu_n _ _ (by omega)]) rfl rfl rfl rfl rfl, a9⟩ (Nat.le_succ n)
      · show va_up (kN σ 62) 1 (kN σ 62 1 + 1) 1 = va_up (kN μ 9) 0 (kN μ 9 0 + 1) 0
        rw [vu_s, vu_s, a2.2.1]
      · replace hk : k < va_up (kN μ 9) 0 (kN μ 9 0 + 1) 0 := hk
        rw [vu_s] at hk
        show va_up (kO σ 20) (kN σ 62 1) (some g) k = some (va_up (kN μ 6) (kN μ 9 0) g k) ∧ va_up (kI σ 22) (kN σ 62 1) (2520 / x1) k = 2520 / va_up (kI μ 7) (kN μ 9 0) x1 k ∧ va_up (kW σ 23) (kN σ 62 1) (leastS σ g) k = va_up (kW μ 8) (kN μ 9 0) (lsM μ g) k ∧ (1 ≤ (va_up (kI μ 7) (kN μ 9 0) x1 k).toInt ∧ (va_up (kI μ 7) (kN μ 9 0) x1 k).toInt ≤ 9) ∧ 0 ≤ (va_up (kW μ 8) (kN μ 9 0) (lsM μ g) k).toInt ∧ (va_up (kW μ 8) (kN μ 9 0) (lsM μ g) k).toInt ≤ 30240 * (kI μ 0 0).toInt
        rw [a2.2.1]
        by_cases q : k = kN μ 9 0
        · subst q
          rw [vu_s, vu_s, vu_s, vu_s, vu_s, vu_s, eL]
          exact ⟨rfl, rfl, rfl, ⟨toI_le p2.1, toI_le p2.2⟩, bL⟩
        · rw [vu_n _ _ q, vu_n _ _ q, vu_n _ _ q, vu_n _ _ q, vu_n _ _ q, vu_n _ _ q]
          exact a5 k h0 (by omega)
      · replace hk : k < va_up (kN μ 9) 0 (kN μ 9 0 + 1) 0 := hk
        rw [vu_s] at hk
        show va_up (kI σ 24) (kN σ 62 1) 0 k = sumI (diF (agM μ g x1) k) (kN μ 24 0)
        rw [a2.2.1]
        have e6 : kN (agM μ g x1) 6 = va_up (kN μ 6) (kN μ 9 0) g := rfl
        by_cases q : k = kN μ 9 0
        · subst q
          rw [vu_s]
          refine (sumI_0 (fun t ht => ?_)).symm
          unfold diF
          have h9 : iuM (agM μ g x1) (kN μ 9 0) 6 (kN μ 10 t) = false := by
            rw [iu_new hd.2.1 e6 _ 6 _ (hd.2.2.1 t ht), iu_out hd.2.1 6 _ (hd.2.2.1 t ht)]
          rw [show kN (agM μ g x1) 10 = kN μ 10 from rfl, h9, if_neg (by decide)]
        · rw [vu_n _ _ q, a6 k (by omega)]
          refine sumI_c (fun t ht => ?_)
          unfold diF
          rw [show kN (agM μ g x1) 10 = kN μ 10 from rfl, iu_new hd.2.1 e6 _ 6 _ (hd.2.2.1 t ht)]
          rfl
  · rcases h2 with ⟨q1, rfl⟩ | ⟨q1, q2, rfl⟩ | ⟨q1, q2, q3, rfl⟩ | ⟨u, q1, q2, q3, rfl, rfl⟩
    · exact ⟨th33 _ _, fun z => absurd z (by decide), (R.th 1).mono (Nat.le_succ n)⟩
    · exact absurd p1 q1
    · exact absurd p1 q1
    · exact nomatch p1.symm.trans q1
  · rcases h2 with ⟨q1, rfl⟩ | ⟨q1, q2, rfl⟩ | ⟨q1, q2, q3, rfl⟩ | ⟨u, q1, q2, q3, rfl, rfl⟩
    · exact absurd q1 p1
    · exact ⟨th33 _ _, fun z => absurd z (by decide), (R.th 2).mono (Nat.le_succ n)⟩
    · exact absurd q2 (rg_p p2)
    · exact absurd q2 (rg_p p2)
  · rcases h2 with ⟨q1, rfl⟩ | ⟨q1, q2, rfl⟩ | ⟨q1, q2, q3, rfl⟩ | ⟨u, q1, q2, q3, rfl, rfl⟩
    · exact absurd q1 p1
    · rw [rg_n p2] at q2
      cases q2
    · exact ⟨th33 _ _, fun z => absurd z (by decide), (R.th 3).mono (Nat.le_succ n)⟩
    · rw [a2.2.1] at p3
      have := hd.1.2.2.1
      omega
/-- a task more, on both sides -/
theorem Rel.addT {n : Nat} {σ μ : KS} (hc : cWF σ) (hd : dWF μ) (R : Rel n σ μ) {g : Nat} (hg : g < kN μ 9 0) {w u p bu sh dl : Int32} (hw : 1 ≤ w.toInt ∧ w.toInt ≤ 9) (hu : 0 ≤ u.toInt ∧ u.toInt ≤ 500)
    (hp : (p = 0 ∧ sh = 0) ∨ ((2 ≤ p.toInt ∧ p.toInt ≤ 60) ∧ bu = u ∧ sh = shM u p ∧ dl = kI μ 0 0 + p ∧ (1 ≤ u.toInt ∧ u.toInt ≤ 40) ∧ (kI μ 0 0).toInt < (kI μ 0 0 + p).toInt ∧ (kI μ 0 0 + p).toInt ≤ 960)) :
    Rel n (tskS σ g (2520 / w) (leastS σ g) u p bu sh dl) (adM (thS μ 0) g w u p) := by
  obtain ⟨a1, a2, a3, a4, a5, a6, a7, a8, a9⟩ := id R
  have eL := least_eq hc a2 a3 a5 a7 hg
  have bL := least_bd a3 a5 a7 hd.1.2.1 g
  have eN : kN σ 62 2 = kN μ 24 0 := a2.2.2
  have hN : kN (adM (thS μ 0) g w u p) 24 0 = kN μ 24 0 + 1 := by
    show va_up (kN μ 24) 0 (kN μ 24 0 + 1) 0 = _
    rw [vu_s]
  have e10 : kN (adM (thS μ 0) g w u p) 10 = va_up (kN μ 10) (kN μ 24 0) g := rfl
  have e19 : kI (adM (thS μ 0) g w u p) 19 = va_up (kI μ 19) (kN μ 24 0) 0 := rfl
  have e22 : kO (adM (thS μ 0) g w u p) 22 = va_up (kO μ 22) (kN μ 24 0) none := rfl
  have e12 : kW (adM (thS μ 0) g w u p) 12 = va_up (kW μ 12) (kN μ 24 0) (lsM (thS μ 0) g) := rfl
  refine ⟨a1, ⟨a2.1, a2.2.1, ?_⟩, a3, a4, a5, fun k hk => ?_, fun t ht => ?_, ⟨fun l hl => ?_, fun t ht h => ?_, a8.2.2⟩, a9⟩
  · show va_up (kN σ 62) 2 (kN σ 62 2 + 1) 2 = _
    rw [vu_s, hN, eN]
  · show kI σ 24 k = _
    rw [hN, sumI, a6 k hk]
    have z : diF (adM (thS μ 0) g w u p) k (kN μ 24 0) = 0 := by
      unfold diF
      rw [e19, vu_s]
      split <;> rfl
    rw [z, Int32.add_zero]
    refine sumI_c (fun t ht => ?_)
    unfold diF
    rw [e10, e19, vu_n _ _ (by omega), vu_n _ _ (by omega), iuM_c (μ := μ) (ν := adM (thS μ 0) g w u p) rfl]
  · rw [hN] at ht
    show (va_up (kN σ 31) (kN σ 62 2) g t = va_up (kN μ 10) (kN μ 24 0) g t ∧ va_up (kI σ 32) (kN σ 62 2) (2520 / w) t = 2520 / va_up (kI μ 11) (kN μ 24 0) w t ∧ va_up (kW σ 33) (kN σ 62 2) (leastS σ g) t = va_up (kW μ 12) (kN μ 24 0) (lsM (thS μ 0) g) t ∧ va_up (kI σ 34) (kN σ 62 2) u t = va_up (kI μ 13) (kN μ 24 0) u t ∧ va_up (kI σ 35) (kN σ 62 2) 0 t = va_up (kI μ 19) (kN μ 24 0) 0 t ∧ va_up (kB σ 36) (kN σ 62 2) false t = va_up (kB μ 21) (kN μ 24 0) false t ∧ va_up (kI σ 37) (kN σ 62 2) p t = va_up (kI μ 14) (kN μ 24 0) p t ∧ va_up (kI σ 41) (kN σ 62 2) 0 t = va_up (kI μ 18) (kN μ 24 0) 0 t ∧ va_up (kO σ 42) (kN σ 62 2) none t = va_up (kO μ 22) (kN μ 24 0) none t ∧ va_up (kO σ 43) (kN σ 62 2) none t = va_up (kO μ 20) (kN μ 24 0) none t) ∧
      (1 ≤ (va_up (kI μ 11) (kN μ 24 0) w t).toInt ∧ (va_up (kI μ 11) (kN μ 24 0) w t).toInt ≤ 9) ∧ (0 ≤ (va_up (kW μ 12) (kN μ 24 0) (lsM (thS μ 0) g) t).toInt ∧ (va_up (kW μ 12) (kN μ 24 0) (lsM (thS μ 0) g) t).toInt ≤ 30240 * (kI μ 0 0).toInt) ∧ (0 ≤ (va_up (kI μ 13) (kN μ 24 0) u t).toInt ∧ (va_up (kI μ 13) (kN μ 24 0) u t).toInt ≤ 500) ∧
      ((va_up (kI μ 14) (kN μ 24 0) p t = 0 ∧ va_up (kI σ 39) (kN σ 62 2) sh t = 0) ∨ ((2 ≤ (va_up (kI μ 14) (kN μ 24 0) p t).toInt ∧ (va_up (kI μ 14) (kN μ 24 0) p t).toInt ≤ 60) ∧ va_up (kI σ 38) (kN σ 62 2) bu t = va_up (kI μ 15) (kN μ 24 0) u t ∧ va_up (kI σ 39) (kN σ 62 2) sh t = shM (va_up (kI μ 15) (kN μ 24 0) u t) (va_up (kI μ 14) (kN μ 24 0) p t) ∧ va_up (kI σ 40) (kN σ 62 2) dl t = va_up (kI μ 16) (kN μ 24 0) (kI μ 0 0 + p) t ∧ (1 ≤ (va_up (kI μ 15) (kN μ 24 0) u t).toInt ∧ (va_up (kI μ 15) (kN μ 24 0) u t).toInt ≤ 40) ∧ 0 ≤ (va_up (kI μ 17) (kN μ 24 0) (kI μ 0 0) t).toInt ∧ (va_up (kI μ 17) (kN μ 24 0) (kI μ 0 0) t).toInt < (va_up (kI μ 16) (kN μ 24 0) (kI μ 0 0 + p) t).toInt ∧ (va_up (kI μ 16) (kN μ 24 0) (kI μ 0 0 + p) t).toInt ≤ 960))
    rw [eN, lsM_th]
    by_cases q : t = kN μ 24 0
    · subst q
      simp only [vu_s]
      refine ⟨⟨trivial, trivial, eL, trivial, trivial, trivial, trivial, trivial, trivial, trivial⟩, hw, bL, hu, ?_⟩
      rcases hp with hp | ⟨h1, h2, h3, h4, h5, h6, h7⟩
      · exact Or.inl hp
      · exact Or.inr ⟨h1, h2, h3, h4, h5, a3.1, h6, h7⟩
    · simp only [vu_n _ _ q]
      exact a7 t (by omega)
  · obtain ⟨b1, b2, b3⟩ := a8.1 l hl
    refine ⟨b1, fun t => ?_, ⟨b3.1, by show _ = va_up (kN σ 62) 2 _ (4 + l); rw [vu_n _ _ (by omega)]; exact b3.2⟩⟩
    rw [hN, e22]
    refine (b2 t).trans ?_
    constructor
    · rintro ⟨h1, h2⟩
      exact ⟨by omega, by rw [vu_n _ _ (by omega)]; exact h2⟩
    · rintro ⟨h1, h2⟩
      by_cases q : t = kN μ 24 0
      · rw [q, vu_s] at h2
        cases h2
      · rw [vu_n _ _ q] at h2
        exact ⟨by omega, h2⟩
  · rw [hN] at ht
    rw [e22] at h
    by_cases q : t = kN μ 24 0
    · rw [q, vu_s] at h
      exact absurd rfl h
    · rw [vu_n _ _ q] at h
      exact a8.2.1 t (by omega) h
theorem s_addPlain {n : Nat} {σ μ : KS} {x0 x1 x2 : Int32} {r : Int32} {v : Int64} {σ1 : KS} {b : Int32} {μ1 : KS} (hc : cWF σ) (hd : dWF μ) (R : Rel n σ μ) (h1 : oc_addPlain σ x0 x1 x2 r v σ1) (h2 : om_addPlain μ x0 x1 x2 b μ1) : okR n r v b.toInt64 σ1 μ1 := by
  obtain ⟨a1, a2, a3, a4, a5, a6, a7, a8, a9⟩ := id R
  have bad : (x1 < 1 ∨ 9 < x1 ∨ x2 < 1 ∨ 500 < x2) ↔ ¬ (rg x1 1 9 = true ∧ rg x2 1 500 = true) := by
    constructor
    · rintro (h | h | h | h) ⟨z1, z2⟩
      · exact rg_p (Or.inl h) z1
      · exact rg_p (Or.inr h) z1
      · exact rg_p (Or.inl h) z2
      · exact rg_p (Or.inr h) z2
    · intro h
      by_cases z1 : x1 < 1 ∨ 9 < x1
      · exact z1.elim Or.inl (fun z => Or.inr (Or.inl z))
      · by_cases z2 : x2 < 1 ∨ 500 < x2
        · exact Or.inr (Or.inr z2)
        · exact absurd ⟨rg_n z1, rg_n z2⟩ h
  rcases h1 with ⟨g, rfl, ⟨p1, p2, p3⟩, rfl, rfl⟩ | ⟨rfl, p1, rfl⟩ | ⟨rfl, ⟨p1, p2⟩, rfl⟩ | ⟨rfl, ⟨p1, p2, p3⟩, rfl⟩ <;> rw [a2.2.1] at p1
  · rcases h2 with ⟨q1, rfl⟩ | ⟨q1, q2, rfl⟩ | ⟨q1, q2, q3, rfl⟩ | ⟨u, q1, q2, q3, rfl, rfl⟩
    · exact nomatch p1.symm.trans q1
    · exact absurd ⟨rg_t.mpr p2.1, rg_t.mpr p2.2⟩ q2
    · rw [a2.2.2] at p3
      omega
    · cases p1.symm.trans q1
      have u1 := toI_le p2.2.1
      have u2 := toI_le p2.2.2
      have o1 : (1 : Int32).toInt = 1 := by decide
      have o5 : (500 : Int32).toInt = 500 := by decide
      rw [o1] at u1
      rw [o5] at u2
      refine ⟨th33 μ 0, fun _ => by rw [a2.2.2], ?_⟩
      exact (R.addT hc hd (inR_some q1).2 (p := 0) (bu := 0) (sh := 0) (dl := 0) ⟨toI_le p2.1.1, toI_le p2.1.2⟩ ⟨by omega, u2⟩ (Or.inl ⟨rfl, rfl⟩)).mono (Nat.le_succ n)
  · rcases h2 with ⟨q1, rfl⟩ | ⟨q1, q2, rfl⟩ | ⟨q1, q2, q3, rfl⟩ | ⟨u, q1, q2, q3, rfl, rfl⟩
    · exact ⟨th33 _ _, fun z => absurd z (by decide), (R.th 1).mono (Nat.le_succ n)⟩
    · exact absurd p1 q1
    · exact absurd p1 q1
    · exact nomatch p1.symm.trans q1
  · rcases h2 with ⟨q1, rfl⟩ | ⟨q1, q2, rfl⟩ | ⟨q1, q2, q3, rfl⟩ | ⟨u, q1, q2, q3, rfl, rfl⟩
    · exact absurd q1 p1
    · exact ⟨th33 _ _, fun z => absurd z (by decide), (R.th 2).mono (Nat.le_succ n)⟩
    · exact absurd q2 (bad.mp p2)
    · exact absurd q2 (bad.mp p2)
  · rcases h2 with ⟨q1, rfl⟩ | ⟨q1, q2, rfl⟩ | ⟨q1, q2, q3, rfl⟩ | ⟨u, q1, q2, q3, rfl, rfl⟩
    · exact absurd q1 p1
    · exact absurd (bad.mpr q2) p2
    · exact ⟨th33 _ _, fun z => absurd z (by decide), (R.th 3).mono (Nat.le_succ n)⟩
    · rw [a2.2.2] at p3
      have := hd.1.2.2.2
      omega
