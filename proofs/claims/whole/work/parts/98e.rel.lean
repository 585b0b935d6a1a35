/-! RELEASES, side by side -/
theorem vu_self {α : Type} (f : Nat → α) (t : Nat) : va_up f t (f t) = f := by
  funext i
  by_cases q : i = t
  · subst q; exact vu_s _ _ _
  · exact vu_n _ _ q
/-- what the reference's ticks keep, the tick alone apart -/
def PK (μ ν : KS) : Prop := kN ν = kN μ ∧ kO ν 22 = kO μ 22 ∧ kO ν 26 = kO μ 26 ∧ kI ν 33 = kI μ 33 ∧ kI ν 0 = kI μ 0
theorem PK.rf (μ : KS) : PK μ μ := ⟨rfl, rfl, rfl, rfl, rfl⟩
theorem PK.tr {a b c : KS} (h : PK a b) (g : PK b c) : PK a c := ⟨g.1.trans h.1, g.2.1.trans h.2.1, g.2.2.1.trans h.2.2.1, g.2.2.2.1.trans h.2.2.2.1, g.2.2.2.2.trans h.2.2.2.2⟩
theorem PK.wf {μ ν : KS} (h : PK μ ν) (hd : dWF μ) : dWF ν := dWF_same hd h.1 h.2.1 h.2.2.1
theorem MF.pk {μ ν : KS} (h : MF μ ν) : PK μ ν := ⟨h.2.2.1, h.2.2.2.1 22 (by decide), h.2.2.2.1 26 (by decide), h.1 33 (by decide), h.1 0 (by decide)⟩
/-- one task is released -/
theorem Rel.re {n t : Nat} {τ ν τ1 ν1 : KS} {b d m : Int32} (R : Rel n τ ν) (hb : 0 ≤ b.toInt ∧ b.toInt ≤ 500) (hdl : (kI ν 17 t).toInt < d.toInt ∧ d.toInt ≤ 960) (hp : ¬ kI ν 14 t = 0)
    (s41 : kI τ1 41 = va_up (kI τ 41) t m) (s34 : kI τ1 34 = va_up (kI τ 34) t b) (s40 : kI τ1 40 = va_up (kI τ 40) t d) (hI : ∀ f, f ≠ 34 → f ≠ 40 → f ≠ 41 → kI τ1 f = kI τ f) (hW : kW τ1 = kW τ) (hN : kN τ1 = kN τ) (hO : kO τ1 = kO τ) (hB : kB τ1 = kB τ) (hL : kL τ1 = kL τ)
    (m18 : kI ν1 18 = va_up (kI ν 18) t m) (m13 : kI ν1 13 = va_up (kI ν 13) t b) (m16 : kI ν1 16 = va_up (kI ν 16) t d) (mI : ∀ f, f ≠ 13 → f ≠ 16 → f ≠ 18 → kI ν1 f = kI ν f) (mW : kW ν1 = kW ν) (mN : kN ν1 = kN ν) (mO : kO ν1 = kO ν) (mB : kB ν1 = kB ν) : Rel n τ1 ν1 := by
  obtain ⟨a1, a2, a3, a4, a5, a6, a7, a8, a9⟩ := R
  refine ⟨?_, ?_, ?_, fun c hc => ?_, fun g h0 hg => ?_, ?_, fun x hx => ?_, ?_, fun c hc => ?_⟩
  · unfold rS
    rw [hI 0 (by decide) (by decide) (by decide), hI 1 (by decide) (by decide) (by decide), hI 2 (by decide) (by decide) (by decide), hI 3 (by decide) (by decide) (by decide), hI 4 (by decide) (by decide) (by decide), hI 5 (by decide) (by decide) (by decide), mI 4 (by decide) (by decide) (by decide), mI 5 (by decide) (by decide) (by decide), mI 0 (by decide) (by decide) (by decide), mI 27 (by decide) (by decide) (by decide), mI 28 (by decide) (by decide) (by decide), mI 29 (by decide) (by decide) (by decide)]
    exact a1
  · unfold rN
    rw [hN, mN]
    exact a2
  · unfold rB
    rw [mI 0 (by decide) (by decide) (by decide), mI 29 (by decide) (by decide) (by decide)]
    exact a3
  · rw [hI 10 (by decide) (by decide) (by decide), hI 11 (by decide) (by decide) (by decide), mI 1 (by decide) (by decide) (by decide), mI 2 (by decide) (by decide) (by decide), mI 0 (by decide) (by decide) (by decide)]
    rw [mN] at hc
    exact a4 c hc
  · rw [hO, hI 22 (by decide) (by decide) (by decide), hW, mN, mI 7 (by decide) (by decide) (by decide), mW, mI 0 (by decide) (by decide) (by decide)]
    rw [mN] at hg
    exact a5 g h0 hg
  · exact a6.c (by rw [mN]) (by rw [mN]) (mI 19 (by decide) (by decide) (by decide)) (by rw [mN]) (by rw [mN]) (hI 24 (by decide) (by decide) (by decide))
  · rw [mN] at hx
    rw [hN, hI 32 (by decide) (by decide) (by decide), hW, s34, hI 35 (by decide) (by decide) (by decide), hB, hI 37 (by decide) (by decide) (by decide), s41, hO, hI 38 (by decide) (by decide) (by decide), hI 39 (by decide) (by decide) (by decide), s40, mN, mI 11 (by decide) (by decide) (by decide), mW, m13, mI 19 (by decide) (by decide) (by decide), mB, mI 14 (by decide) (by decide) (by decide), m18, mO, mI 15 (by decide) (by decide) (by decide), m16, mI 17 (by decide) (by decide) (by decide), mI 0 (by decide) (by decide) (by decide)]
    obtain ⟨⟨c1, c2, c3, c4, c5, c6, c7, c8, c9, c10⟩, d1, d2, d3, d4⟩ := a7 x hx
    by_cases q : x = t
    · subst q
      rw [vu_s, vu_s, vu_s, vu_s, vu_s, vu_s]
      rcases d4 with d4 | ⟨e1, e2, e3, e4, e5, e6, e7, e8⟩
      · exact absurd d4.1 hp
      · exact ⟨⟨c1, c2, c3, rfl, c5, c6, c7, rfl, c9, c10⟩, d1, d2, hb, Or.inr ⟨e1, e2, e3, rfl, e5, e6, hdl.1, hdl.2⟩⟩
    · rw [vu_n _ _ q, vu_n _ _ q, vu_n _ _ q, vu_n _ _ q, vu_n _ _ q, vu_n _ _ q]
      exact ⟨⟨c1, c2, c3, c4, c5, c6, c7, c8, c9, c10⟩, d1, d2, d3, d4⟩
  · exact a8.c hL (by rw [hO]) (fun l hl => by rw [hN]) (by rw [mN]) (by rw [mO]) (by rw [mO]) (mI 23 (by decide) (by decide) (by decide)) (by rw [mI 25 (by decide) (by decide) (by decide)])
  · rw [mI 2 (by decide) (by decide) (by decide)]
    rw [mN] at hc
    exact a9 c hc
theorem rel_one {n t : Nat} {τ ν : KS} (R : Rel n τ ν) (ht : t < kN ν 24 0) (hT : (kI ν 0 0).toInt < 900) : Rel n (relS1 τ t) (rl1M ν t) := by
  obtain ⟨⟨c1, c2, c3, c4, c5, c6, c7, c8, c9, c10⟩, d1, d2, d3, d4⟩ := R.2.2.2.2.2.2.1 t ht
  have e2 := R.1.2.2.1
  have T0 := R.2.2.1.1
  unfold relS1 rl1M
  rcases d4 with ⟨z, _⟩ | ⟨p1, p2, p3, p4, p5, p6, p7, p8⟩
  · rw [if_neg (fun y => by rw [c7, z] at y; exact absurd y.1 (by decide)), if_neg (fun y => by rw [z] at y; exact absurd y.1 (by decide))]
    exact R
  · by_cases q : kB ν 21 t = false ∧ kI ν 16 t = kI ν 0 0
    · have g0 : 0 < kI ν 14 t := i32_0.mpr (by omega)
      have g1 : ¬ kI ν 17 t = kI ν 0 0 := fun y => by
        rw [q.2, y] at p7
        omega
      have hp : ¬ kI ν 14 t = 0 := fun y => by
        rw [y] at p1
        exact absurd p1.1 (by decide)
      have p78 : (kI ν 17 t).toInt < (kI ν 0 0).toInt := by
        rw [q.2] at p7
        exact p7
      have s1 : (kI ν 16 t + kI ν 14 t).toInt = (kI ν 0 0).toInt + (kI ν 14 t).toInt := by
        rw [q.2]
        exact i32_add (by omega) (by omega)
      have dl : kI τ 2 0 + kI τ 37 t = kI ν 16 t + kI ν 14 t := by rw [e2, c7, q.2]
      rw [if_pos (show 0 < kI τ 37 t ∧ kB τ 36 t = false ∧ kI τ 40 t = kI τ 2 0 from ⟨by rw [c7]; exact g0, by rw [c6]; exact q.1, by rw [p4, e2]; exact q.2⟩), if_pos (show 0 < kI ν 14 t ∧ kB ν 21 t = false ∧ kI ν 16 t = kI ν 0 0 ∧ ¬ kI ν 17 t = kI ν 0 0 from ⟨g0, q.1, q.2, g1⟩), dl, p2]
      by_cases w : 0 < kI ν 13 t
      · rw [if_pos (show 0 < kI τ 34 t by rw [c4]; exact w), if_pos w, c8]
        refine Rel.re (t := t) (b := kI ν 15 t) (d := kI ν 16 t + kI ν 14 t) (m := kI ν 18 t + 1) R ⟨by omega, by omega⟩ ⟨by rw [s1]; omega, by rw [s1]; omega⟩ hp rfl rfl rfl ?_ rfl rfl rfl rfl rfl rfl rfl rfl ?_ rfl rfl rfl rfl
        · intro f h1 h2 h3
          exact (vu_n _ _ h2).trans ((vu_n _ _ h1).trans (vu_n _ _ h3))
        · intro f h1 h2 h3
          exact (vu_n _ _ h2).trans ((vu_n _ _ h1).trans (vu_n _ _ h3))
      · rw [if_neg (show ¬ 0 < kI τ 34 t by rw [c4]; exact w), if_neg w]
        refine Rel.re (t := t) (b := kI ν 15 t) (d := kI ν 16 t + kI ν 14 t) (m := kI ν 18 t + 0) R ⟨by omega, by omega⟩ ⟨by rw [s1]; omega, by rw [s1]; omega⟩ hp ?_ rfl rfl ?_ rfl rfl rfl rfl rfl rfl rfl rfl ?_ rfl rfl rfl rfl
        · show kI τ 41 = _
          rw [Int32.add_zero, ← c8, vu_self]
        · intro f h1 h2 h3
          exact (vu_n _ _ h2).trans (vu_n _ _ h1)
        · intro f h1 h2 h3
          exact (vu_n _ _ h2).trans ((vu_n _ _ h1).trans (vu_n _ _ h3))
    · rw [if_neg (fun y => q ⟨c6.symm.trans y.2.1, p4.symm.trans (y.2.2.trans e2)⟩), if_neg (fun y => q ⟨y.2.1, y.2.2.1⟩)]
      exact R
theorem rl1_pk (ν : KS) (t : Nat) : PK ν (rl1M ν t) := by
  unfold rl1M
  split
  · exact ⟨rfl, rfl, rfl, rfl, rfl⟩
  · exact PK.rf ν
theorem rl_pk (ν : KS) : ∀ m, PK ν (rlM m ν) := by
  intro m
  induction m with
  | zero => exact PK.rf ν
  | succ m ih => exact ih.tr (rl1_pk _ _)
theorem rel_all {n : Nat} {τ ν : KS} (R : Rel n τ ν) (hT : (kI ν 0 0).toInt < 900) : ∀ m, m ≤ kN ν 24 0 → Rel n (relS m τ) (rlM m ν) ∧ kO (relS m τ) = kO τ ∧ kI (relS m τ) 24 = kI τ 24 := by
  intro m
  induction m with
  | zero => intro _; exact ⟨R, rfl, rfl⟩
  | succ m ih =>
    intro hm
    obtain ⟨i1, i2, i3⟩ := ih (by omega)
    have k := rl_pk ν m
    refine ⟨rel_one i1 (by rw [k.1]; omega) (by rw [k.2.2.2.2]; exact hT), ?_, ?_⟩
    · show kO (relS1 (relS m τ) m) = kO τ
      unfold relS1
      split
      · split
        · exact i2
        · exact i2
      · exact i2
    · show kI (relS1 (relS m τ) m) 24 = kI τ 24
      unfold relS1
      split
      · split
        · exact i3
        · exact i3
      · exact i3
