/-! IN THE MIDST OF A TICK: j cores have worked; K bounds the times -/
def mS (j : Nat) (σ μ : KS) : Prop := kI σ 0 0 = kI μ 4 0 ∧ kI σ 1 0 = kI μ 5 0 ∧ kI σ 2 0 = kI μ 0 0 ∧ kI σ 3 0 = kI μ 27 0 ∧ kI σ 4 0 = kI μ 28 0 ∧ kI σ 5 0 + nI j = kI μ 29 0
def mBd (j : Nat) (μ : KS) : Prop := 0 ≤ (kI μ 0 0).toInt ∧ (kI μ 0 0).toInt < 900 ∧ 0 ≤ (kI μ 29 0).toInt ∧ (kI μ 29 0).toInt ≤ 3 * (kI μ 0 0).toInt + j
def mG (K : Int) (σ μ : KS) : Prop := ∀ g, 0 < g → g < kN μ 9 0 → kO σ 20 g = some (kN μ 6 g) ∧ kI σ 22 g = 2520 / kI μ 7 g ∧ kW σ 23 g = kW μ 8 g ∧ (1 ≤ (kI μ 7 g).toInt ∧ (kI μ 7 g).toInt ≤ 9) ∧ 0 ≤ (kW μ 8 g).toInt ∧ (kW μ 8 g).toInt ≤ K
def mTa (K : Int) (σ μ : KS) : Prop := ∀ t, t < kN μ 24 0 → (kN σ 31 t = kN μ 10 t ∧ kI σ 32 t = 2520 / kI μ 11 t ∧ kW σ 33 t = kW μ 12 t ∧ kI σ 34 t = kI μ 13 t ∧ kI σ 35 t = kI μ 19 t ∧ kB σ 36 t = kB μ 21 t ∧ kI σ 37 t = kI μ 14 t ∧ kI σ 41 t = kI μ 18 t ∧ kO σ 42 t = kO μ 22 t ∧ kO σ 43 t = kO μ 20 t) ∧
  (1 ≤ (kI μ 11 t).toInt ∧ (kI μ 11 t).toInt ≤ 9) ∧ (0 ≤ (kW μ 12 t).toInt ∧ (kW μ 12 t).toInt ≤ K) ∧ (0 ≤ (kI μ 13 t).toInt ∧ (kI μ 13 t).toInt ≤ 500) ∧
  ((kI μ 14 t = 0 ∧ kI σ 39 t = 0) ∨ ((2 ≤ (kI μ 14 t).toInt ∧ (kI μ 14 t).toInt ≤ 60) ∧ kI σ 38 t = kI μ 15 t ∧ kI σ 39 t = shM (kI μ 15 t) (kI μ 14 t) ∧ kI σ 40 t = kI μ 16 t ∧ (1 ≤ (kI μ 15 t).toInt ∧ (kI μ 15 t).toInt ≤ 40) ∧ 0 ≤ (kI μ 17 t).toInt ∧ (kI μ 17 t).toInt < (kI μ 16 t).toInt ∧ (kI μ 16 t).toInt ≤ 960))
def Mid (n j : Nat) (K : Int) (σ μ : KS) : Prop := mS j σ μ ∧ rN σ μ ∧ mBd j μ ∧ rC σ μ ∧ mG K σ μ ∧ rD σ μ ∧ mTa K σ μ ∧ rL n σ μ ∧ rZ μ
theorem Rel.mid {n : Nat} {σ μ : KS} (R : Rel n σ μ) (hT : (kI μ 0 0).toInt < 900) : Mid n 0 (30240 * (kI μ 0 0).toInt) σ μ := by
  obtain ⟨⟨b1, b2, b3, b4, b5, b6⟩, a2, ⟨t1, t2, t3, t4⟩, a4, a5, a6, a7, a8, a9⟩ := R
  refine ⟨⟨b1, b2, b3, b4, b5, ?_⟩, a2, ⟨t1, hT, t3, by omega⟩, a4, a5, a6, a7, a8, a9⟩
  rw [(show nI 0 = 0 from by decide), Int32.add_zero]
  exact b6
theorem sumI_add {f g : Nat → Int32} {d : Int32} {t : Nat} (h : ∀ k, ¬ k = t → g k = f k) (h2 : g t = f t + d) : ∀ n, (t < n → sumI g n = sumI f n + d) ∧ (n ≤ t → sumI g n = sumI f n) := by
  intro n
  induction n with
  | zero => exact ⟨fun z => absurd z (Nat.not_lt_zero _), fun _ => rfl⟩
  | succ n ih =>
    rw [sumI, sumI]
    by_cases q : n = t
    · refine ⟨fun _ => ?_, fun z => absurd z (by omega)⟩
      rw [ih.2 (by omega), q, h2, Int32.add_assoc]
    · rw [h n q]
      refine ⟨fun z => ?_, fun z => ?_⟩
      · rw [ih.1 (by omega), Int32.add_assoc, Int32.add_comm d, ← Int32.add_assoc]
      · rw [ih.2 (by omega)]
theorem i32_u4 {x : Int32} (h0 : 0 ≤ x.toInt) (h1 : x.toInt ≤ 4) : x = 0 ∨ x = 1 ∨ x = 2 ∨ x = 3 ∨ x = 4 := by
  have z0 : (0 : Int32).toInt = 0 := by decide
  have z1 : (1 : Int32).toInt = 1 := by decide
  have z2 : (2 : Int32).toInt = 2 := by decide
  have z3 : (3 : Int32).toInt = 3 := by decide
  have z4 : (4 : Int32).toInt = 4 := by decide
  rcases (by omega : x.toInt = 0 ∨ x.toInt = 1 ∨ x.toInt = 2 ∨ x.toInt = 3 ∨ x.toInt = 4) with h | h | h | h | h
  · exact Or.inl (Int32.toInt_inj.mp (h.trans z0.symm))
  · exact Or.inr (Or.inl (Int32.toInt_inj.mp (h.trans z1.symm)))
  · exact Or.inr (Or.inr (Or.inl (Int32.toInt_inj.mp (h.trans z2.symm))))
  · exact Or.inr (Or.inr (Or.inr (Or.inl (Int32.toInt_inj.mp (h.trans z3.symm)))))
  · exact Or.inr (Or.inr (Or.inr (Or.inr (Int32.toInt_inj.mp (h.trans z4.symm)))))
/-- 2520 by a weight -/
theorem wt_q {w : Int32} (h0 : 1 ≤ w.toInt) (h1 : w.toInt ≤ 9) : 0 ≤ (2520 / w).toInt ∧ (2520 / w).toInt ≤ 2520 := by
  have e : (2520 : Int32).toInt = 2520 := by decide
  have m1 : (-1 : Int32).toInt = -1 := by decide
  have ne : ¬ w = -1 := fun z => by
    rw [z, m1] at h0
    omega
  rw [Int32.toInt_div_of_ne_right _ _ ne, e]
  rcases (by omega : w.toInt = 1 ∨ w.toInt = 2 ∨ w.toInt = 3 ∨ w.toInt = 4 ∨ w.toInt = 5 ∨ w.toInt = 6 ∨ w.toInt = 7 ∨ w.toInt = 8 ∨ w.toInt = 9) with h | h | h | h | h | h | h | h | h <;> rw [h] <;> decide
theorem wt_u {u k : Int32} (h0 : 0 ≤ u.toInt) (h1 : u.toInt ≤ 4) (k0 : 0 ≤ k.toInt) (k1 : k.toInt ≤ 2520) : u.toInt64 * k.toInt64 = (u * k).toInt64 ∧ 0 ≤ (u * k).toInt64.toInt ∧ (u * k).toInt64.toInt ≤ 10080 := by
  have b : 0 ≤ u.toInt * k.toInt ∧ u.toInt * k.toInt ≤ 10080 := by
    rcases (by omega : u.toInt = 0 ∨ u.toInt = 1 ∨ u.toInt = 2 ∨ u.toInt = 3 ∨ u.toInt = 4) with h | h | h | h | h <;> rw [h] <;> omega
  have e : (u * k).toInt = u.toInt * k.toInt := i32_mul (by omega) (by omega)
  have e2 : (u.toInt64 * k.toInt64).toInt = u.toInt64.toInt * k.toInt64.toInt := i64_mul (by rw [Int32.toInt_toInt64, Int32.toInt_toInt64]; omega) (by rw [Int32.toInt_toInt64, Int32.toInt_toInt64]; omega)
  rw [Int32.toInt_toInt64, Int32.toInt_toInt64] at e2
  have e3 : (u * k).toInt64.toInt = u.toInt * k.toInt := by rw [Int32.toInt_toInt64, e]
  exact ⟨Int64.toInt_inj.mp (e2.trans e3.symm), by rw [e3]; omega, by rw [e3]; omega⟩
theorem w_add {x d : Int64} {K : Int} (h0 : 0 ≤ x.toInt) (h1 : x.toInt ≤ K) (hK : K ≤ 30000000) (d0 : 0 ≤ d.toInt) (d1 : d.toInt ≤ 10080) : 0 ≤ (x + d).toInt ∧ (x + d).toInt ≤ K + 10080 := by
  have e : (x + d).toInt = x.toInt + d.toInt := i64_add (by omega) (by omega)
  rw [e]
  omega
set_option maxHeartbeats 4000000 in
/-- one core's work -/
theorem Mid.work {n j t c : Nat} {K : Int} {τ ν τ1 ν1 : KS} {u : Int32} (M : Mid n j K τ ν) (hj : j < 3) (hK : K ≤ 30000000) (ht : t < kN ν 24 0) (u0 : 0 ≤ u.toInt) (u4 : u.toInt ≤ 4) (ul : u.toInt ≤ (kI ν 13 t).toInt)
    (s3 : kI τ1 3 0 = kI ν1 27 0) (s4 : kI τ1 4 0 = kI τ 4 0 + 1) (s34 : kI τ1 34 = va_up (kI τ 34) t (kI τ 34 t - u)) (s35 : kI τ1 35 = va_up (kI τ 35) t (kI τ 35 t + u)) (s24 : ∀ g, g < kN ν 9 0 → kI τ1 24 g = if iuM ν g 6 (kN ν 10 t) = true then kI τ 24 g + u else kI τ 24 g) (hI : ∀ f, f ≠ 3 → f ≠ 4 → f ≠ 34 → f ≠ 35 → f ≠ 24 → kI τ1 f = kI τ f)
    (s33 : kW τ1 33 = va_up (kW τ 33) t (kW τ 33 t + u.toInt64 * (kI τ 32 t).toInt64)) (s23 : ∀ g, g < kN ν 9 0 → kW τ1 23 g = if iuM ν g 6 (kN ν 10 t) = true then kW τ 23 g + u.toInt64 * (kI τ 22 g).toInt64 else kW τ 23 g) (hN : kN τ1 = kN τ) (s43 : kO τ1 43 = va_up (kO τ 43) t (some c)) (hO : ∀ f, f ≠ 43 → kO τ1 f = kO τ f) (hB : kB τ1 = kB τ) (hL : kL τ1 = kL τ)
    (m28 : kI ν1 28 0 = kI ν 28 0 + 1) (m29 : kI ν1 29 0 = kI ν 29 0 + 1) (m13 : kI ν1 13 = va_up (kI ν 13) t (kI ν 13 t - u)) (m19 : kI ν1 19 = va_up (kI ν 19) t (kI ν 19 t + u)) (mI : ∀ f, f ≠ 27 → f ≠ 28 → f ≠ 29 → f ≠ 13 → f ≠ 19 → kI ν1 f = kI ν f)
    (m12 : kW ν1 12 = va_up (kW ν 12) t (kW ν 12 t + (u * (2520 / kI ν 11 t)).toInt64)) (m8 : ∀ g, 0 < g → g < kN ν 9 0 → kW ν1 8 g = if iuM ν g 6 (kN ν 10 t) = true then kW ν 8 g + (u * (2520 / kI ν 7 g)).toInt64 else kW ν 8 g) (mN : kN ν1 = kN ν) (m20 : kO ν1 20 = va_up (kO ν 20) t (some c)) (mO : ∀ f, f ≠ 20 → kO ν1 f = kO ν f) (mB : kB ν1 = kB ν) : Mid n (j + 1) (K + 10080) τ1 ν1 := by
  obtain ⟨⟨b1, b2, b3, b4, b5, b6⟩, a2, ⟨t1, t2, t3, t4⟩, a4, a5, a6, a7, a8, a9⟩ := M
  have i0 := hI 0 (by decide) (by decide) (by decide) (by decide) (by decide)
  have i1 := hI 1 (by decide) (by decide) (by decide) (by decide) (by decide)
  have i2 := hI 2 (by decide) (by decide) (by decide) (by decide) (by decide)
  have i5 := hI 5 (by decide) (by decide) (by decide) (by decide) (by decide)
  have i10 := hI 10 (by decide) (by decide) (by decide) (by decide) (by decide)
  have i11 := hI 11 (by decide) (by decide) (by decide) (by decide) (by decide)
  have i22 := hI 22 (by decide) (by decide) (by decide) (by decide) (by decide)
  have i32 := hI 32 (by decide) (by decide) (by decide) (by decide) (by decide)
  have i37 := hI 37 (by decide) (by decide) (by decide) (by decide) (by decide)
  have i38 := hI 38 (by decide) (by decide) (by decide) (by decide) (by decide)
  have i39 := hI 39 (by decide) (by decide) (by decide) (by decide) (by decide)
  have i40 := hI 40 (by decide) (by decide) (by decide) (by decide) (by decide)
  have i41 := hI 41 (by decide) (by decide) (by decide) (by decide) (by decide)
  have k0 := mI 0 (by decide) (by decide) (by decide) (by decide) (by decide)
  have k1 := mI 1 (by decide) (by decide) (by decide) (by decide) (by decide)
  have k2 := mI 2 (by decide) (by decide) (by decide) (by decide) (by decide)
  have k4 := mI 4 (by decide) (by decide) (by decide) (by decide) (by decide)
  have k5 := mI 5 (by decide) (by decide) (by decide) (by decide) (by decide)
  have k7 := mI 7 (by decide) (by decide) (by decide) (by decide) (by decide)
  have k11 := mI 11 (by decide) (by decide) (by decide) (by decide) (by decide)
  have k14 := mI 14 (by decide) (by decide) (by decide) (by decide) (by decide)
  have k15 := mI 15 (by decide) (by decide) (by decide) (by decide) (by decide)
  have k16 := mI 16 (by decide) (by decide) (by decide) (by decide) (by decide)
  have k17 := mI 17 (by decide) (by decide) (by decide) (by decide) (by decide)
  have k18 := mI 18 (by decide) (by decide) (by decide) (by decide) (by decide)
  have k23 := mI 23 (by decide) (by decide) (by decide) (by decide) (by decide)
  have k25 := mI 25 (by decide) (by decide) (by decide) (by decide) (by decide)
  have o1 : (1 : Int32).toInt = 1 := by decide
  have e29 : (kI ν 29 0 + 1).toInt = (kI ν 29 0).toInt + (1 : Int32).toInt := i32_add (by rw [o1]; omega) (by rw [o1]; omega)
  rw [o1] at e29
  refine ⟨⟨?_, ?_, ?_, s3, ?_, ?_⟩, ?_, ⟨?_, ?_, ?_, ?_⟩, fun x hx => ?_, fun g h0 hg => ?_, fun g hg => ?_, fun x hx => ?_, ?_, fun x hx => ?_⟩
  · rw [i0, k4]; exact b1
  · rw [i1, k5]; exact b2
  · rw [i2, k0]; exact b3
  · rw [s4, m28, b5]
  · rw [i5, m29, nI_succ, ← Int32.add_assoc, b6]
  · unfold rN
    rw [hN, mN]
    exact a2
  · rw [k0]; exact t1
  · rw [k0]; exact t2
  · rw [m29, e29]; omega
  · rw [m29, e29, k0]; omega
  · rw [i10, i11, k1, k2, k0]
    rw [mN] at hx
    exact a4 x hx
  · rw [mN] at hg
    obtain ⟨c1, c2, c3, c4, c5, c6⟩ := a5 g h0 hg
    obtain ⟨q1, q2⟩ := wt_q c4.1 c4.2
    obtain ⟨w1, w2, w3⟩ := wt_u u0 u4 q1 q2
    rw [hO 20 (by decide), i22, s23 g hg, mN, k7, m8 g h0 hg]
    refine ⟨c1, c2, ?_, c4, ?_⟩
    · by_cases q : iuM ν g 6 (kN ν 10 t) = true
      · rw [if_pos q, if_pos q, c2, w1, c3]
      · rw [if_neg q, if_neg q]
        exact c3
    · by_cases q : iuM ν g 6 (kN ν 10 t) = true
      · rw [if_pos q]
        exact w_add c5 c6 hK w2 w3
      · rw [if_neg q]
        exact ⟨c5, by omega⟩
  · rw [mN] at hg
    rw [s24 g hg, mN, a6 g hg]
    by_cases q : iuM ν g 6 (kN ν 10 t) = true
    · rw [if_pos q]
      refine ((sumI_add (f := diF ν g) (g := diF ν1 g) (d := u) (t := t) (fun k hk => ?_) ?_ (kN ν 24 0)).1 ht).symm
      · unfold diF
        rw [iuM_c (μ := ν) (ν := ν1) (by rw [mN]), mN, m19, vu_n _ _ hk]
      · unfold diF
        rw [iuM_c (μ := ν) (ν := ν1) (by rw [mN]), mN, m19, vu_s, if_pos q, if_pos q]
    · rw [if_neg q]
      refine sumI_c (fun k hk => ?_)
      unfold diF
      rw [iuM_c (μ := ν) (ν := ν1) (by rw [mN]), mN, m19]
      by_cases w : k = t
      · subst w
        rw [if_neg q, if_neg q]
      · rw [vu_n _ _ w]
  · rw [mN] at hx
    obtain ⟨⟨c1, c2, c3, c4, c5, c6, c7, c8, c9, c10⟩, d1, d2, d3, d4⟩ := a7 x hx
    obtain ⟨q1, q2⟩ := wt_q d1.1 d1.2
    obtain ⟨w1, w2, w3⟩ := wt_u u0 u4 q1 q2
    rw [hN, i32, s33, s34, s35, hB, i37, i41, hO 42 (by decide), s43, i38, i39, i40, mN, k11, m12, m13, m19, mB, k14, k18, mO 22 (by decide), m20, k15, k16, k17]
    by_cases q : x = t
    · subst q
      rw [vu_s, vu_s, vu_s, vu_s, vu_s, vu_s, vu_s, vu_s]
      have e13 : (kI ν 13 x - u).toInt = (kI ν 13 x).toInt - u.toInt := i32_sub (by omega) (by omega)
      exact ⟨⟨c1, c2, by rw [c2, w1, c3], by rw [c4], by rw [c5], c6, c7, c8, c9, rfl⟩, d1, w_add d2.1 d2.2 hK w2 w3, ⟨by rw [e13]; omega, by rw [e13]; omega⟩, d4⟩
    · rw [vu_n _ _ q, vu_n _ _ q, vu_n _ _ q, vu_n _ _ q, vu_n _ _ q, vu_n _ _ q, vu_n _ _ q, vu_n _ _ q]
      exact ⟨⟨c1, c2, c3, c4, c5, c6, c7, c8, c9, c10⟩, d1, ⟨d2.1, by omega⟩, d3, d4⟩
  · exact a8.c hL (hO 50 (by decide)) (fun l hl => by rw [hN]) (by rw [mN]) (mO 22 (by decide)) (mO 26 (by decide)) k23 (by rw [k25])
  · rw [k2]
    rw [mN] at hx
    exact a9 x hx
/-- one core's rest -/
theorem Mid.rest {n j : Nat} {K : Int} {τ ν ν1 : KS} (M : Mid n j K τ ν) (hj : j < 3) (m28 : kI ν1 28 0 = kI ν 28 0 + 0) (m29 : kI ν1 29 0 = kI ν 29 0 + 1) (mI : ∀ f, f ≠ 28 → f ≠ 29 → kI ν1 f = kI ν f) (mW : kW ν1 = kW ν) (mN : kN ν1 = kN ν) (mO : kO ν1 = kO ν) (mB : kB ν1 = kB ν) : Mid n (j + 1) (K + 10080) τ ν1 := by
  obtain ⟨⟨b1, b2, b3, b4, b5, b6⟩, a2, ⟨t1, t2, t3, t4⟩, a4, a5, a6, a7, a8, a9⟩ := M
  have k0 := mI 0 (by decide) (by decide)
  have o1 : (1 : Int32).toInt = 1 := by decide
  have e29 : (kI ν 29 0 + 1).toInt = (kI ν 29 0).toInt + (1 : Int32).toInt := i32_add (by rw [o1]; omega) (by rw [o1]; omega)
  rw [o1] at e29
  refine ⟨⟨?_, ?_, ?_, ?_, ?_, ?_⟩, ?_, ⟨?_, ?_, ?_, ?_⟩, fun x hx => ?_, fun g h0 hg => ?_, ?_, fun x hx => ?_, ?_, fun x hx => ?_⟩
  · rw [mI 4 (by decide) (by decide)]; exact b1
  · rw [mI 5 (by decide) (by decide)]; exact b2
  · rw [k0]; exact b3
  · rw [mI 27 (by decide) (by decide)]; exact b4
  · rw [m28, Int32.add_zero]; exact b5
  · rw [m29, nI_succ, ← Int32.add_assoc, b6]
  · unfold rN
    rw [mN]
    exact a2
  · rw [k0]; exact t1
  · rw [k0]; exact t2
  · rw [m29, e29]; omega
  · rw [m29, e29, k0]; omega
  · rw [mI 1 (by decide) (by decide), mI 2 (by decide) (by decide), k0]
    rw [mN] at hx
    exact a4 x hx
  · rw [mN] at hg
    obtain ⟨c1, c2, c3, c4, c5, c6⟩ := a5 g h0 hg
    rw [mN, mI 7 (by decide) (by decide), mW]
    exact ⟨c1, c2, c3, c4, c5, by omega⟩
  · exact a6.c (by rw [mN]) (by rw [mN]) (mI 19 (by decide) (by decide)) (by rw [mN]) (by rw [mN]) rfl
  · rw [mN] at hx
    obtain ⟨c, d1, d2, d3, d4⟩ := a7 x hx
    rw [mN, mI 11 (by decide) (by decide), mW, mI 13 (by decide) (by decide), mI 19 (by decide) (by decide), mB, mI 14 (by decide) (by decide), mI 18 (by decide) (by decide), mO, mI 15 (by decide) (by decide), mI 16 (by decide) (by decide), mI 17 (by decide) (by decide)]
    exact ⟨c, d1, ⟨d2.1, by omega⟩, d3, d4⟩
  · exact a8.c rfl rfl (fun l hl => rfl) (by rw [mN]) (by rw [mO]) (by rw [mO]) (mI 23 (by decide) (by decide)) (by rw [mI 25 (by decide) (by decide)])
  · rw [mI 2 (by decide) (by decide)]
    rw [mN] at hx
    exact a9 x hx
