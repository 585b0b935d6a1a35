/-! ALL CORES CHOOSE, side by side -/
theorem an_f {ν : KS} : ∀ m, anM ν m = false → ∀ t, t < m → kB ν 32 t = false := by
  intro m
  induction m with
  | zero => intro _ t h; exact absurd h (Nat.not_lt_zero _)
  | succ m ih =>
    intro h t ht
    rw [anM] at h
    obtain ⟨h1, h2⟩ := Bool.or_eq_false_iff.mp h
    by_cases q : t = m
    · subst q; exact h2
    · exact ih h1 t (by omega)
theorem ch_all (ν : KS) : chM ν = (match cuM ν (kN ν 24 0) with | some u => some u | none => dnM ν 6 0) := by
  unfold chM
  by_cases q : anM ν (kN ν 24 0) = false
  · rw [if_pos q]
    have a := an_f _ q
    have c : ∀ m, m ≤ kN ν 24 0 → cuM ν m = none := by
      intro m
      induction m with
      | zero => intro _; rfl
      | succ m ih =>
        intro hm
        rw [cuM, if_neg (fun z => by rw [a m (by omega)] at z; exact absurd z.1 (by decide))]
        exact ih (by omega)
    have hu : ∀ g m, m ≤ kN ν 24 0 → huM ν g m = false := by
      intro g m
      induction m with
      | zero => intro _; rfl
      | succ m ih =>
        intro hm
        rw [huM, ih (by omega), a m (by omega)]
        rfl
    have g : ∀ p j, dnG ν p j = (-1, none) := by
      intro p j
      induction j with
      | zero => rfl
      | succ j ih =>
        rw [dnG, if_neg (fun z => by rw [hu _ _ (Nat.le_refl _)] at z; exact absurd z.2.1 (by decide))]
        exact ih
    have d : ∀ p m, m ≤ kN ν 24 0 → dnT ν p m = (-1, none) := by
      intro p m
      induction m with
      | zero => intro _; exact g p _
      | succ m ih =>
        intro hm
        exact dnT_out (ih (by omega)) (fun z => by rw [a m (by omega)] at z; exact absurd z.1 (by decide))
    rw [c _ (Nat.le_refl _)]
    have e : dnE ν 0 = none := by
      unfold dnE
      rw [d 0 _ (Nat.le_refl _)]
    show none = dnM ν 6 0
    rw [dnM, e]
  · rw [if_neg q]
    cases cuM ν (kN ν 24 0) <;> rfl
/-- what choosing leaves as it was -/
def SF (σ τ : KS) : Prop := (∀ f, f ≠ 44 → kI τ f = kI σ f) ∧ kW τ = kW σ ∧ kN τ = kN σ ∧ (∀ f, f ≠ 12 → kO τ f = kO σ f) ∧ (∀ f, f ≠ 45 → f ≠ 25 → kB τ f = kB σ f) ∧ kL τ = kL σ
def MF (μ ν : KS) : Prop := (∀ f, f ≠ 31 → kI ν f = kI μ f) ∧ kW ν = kW μ ∧ kN ν = kN μ ∧ (∀ f, f ≠ 30 → kO ν f = kO μ f) ∧ (∀ f, f ≠ 32 → kB ν f = kB μ f)
theorem SF.rf (σ : KS) : SF σ σ := ⟨fun _ _ => rfl, rfl, rfl, fun _ _ => rfl, fun _ _ _ => rfl, rfl⟩
theorem SF.tr {a b c : KS} (h : SF a b) (g : SF b c) : SF a c := ⟨fun f hf => (g.1 f hf).trans (h.1 f hf), g.2.1.trans h.2.1, g.2.2.1.trans h.2.2.1, fun f hf => (g.2.2.2.1 f hf).trans (h.2.2.2.1 f hf), fun f h1 h2 => (g.2.2.2.2.1 f h1 h2).trans (h.2.2.2.2.1 f h1 h2), g.2.2.2.2.2.trans h.2.2.2.2.2⟩
theorem MF.rf (σ : KS) : MF σ σ := ⟨fun _ _ => rfl, rfl, rfl, fun _ _ => rfl, fun _ _ => rfl⟩
theorem MF.tr {a b c : KS} (h : MF a b) (g : MF b c) : MF a c := ⟨fun f hf => (g.1 f hf).trans (h.1 f hf), g.2.1.trans h.2.1, g.2.2.1.trans h.2.2.1, fun f hf => (g.2.2.2.1 f hf).trans (h.2.2.2.1 f hf), fun f h1 => (g.2.2.2.2 f h1).trans (h.2.2.2.2 f h1)⟩
theorem SF.o (σ : KS) (g : Nat → Option Nat) : SF σ (sO σ 12 g) := ⟨fun _ _ => rfl, rfl, rfl, fun f hf => vu_n _ _ hf, fun _ _ _ => rfl, rfl⟩
theorem SF.b (σ : KS) (g : Nat → Bool) : SF σ (sB σ 45 g) := ⟨fun _ _ => rfl, rfl, rfl, fun _ _ => rfl, fun f h1 _ => vu_n _ _ h1, rfl⟩
theorem SF.m {σ τ : KS} (h : sameB σ τ) : SF σ τ := by
  obtain ⟨f, rfl⟩ := h
  exact ⟨fun _ _ => rfl, rfl, rfl, fun _ _ => rfl, fun f _ h1 => vu_n _ _ h1, rfl⟩
theorem MF.o (σ : KS) (g : Nat → Option Nat) : MF σ (sO σ 30 g) := ⟨fun _ _ => rfl, rfl, rfl, fun f hf => vu_n _ _ hf, fun _ _ => rfl⟩
theorem MF.b (σ : KS) (g : Nat → Bool) : MF σ (sB σ 32 g) := ⟨fun _ _ => rfl, rfl, rfl, fun _ _ => rfl, fun f h1 => vu_n _ _ h1⟩
theorem Rel.sf {n : Nat} {σ μ τ ν : KS} (R : Rel n σ μ) (hs : SF σ τ) (hm : MF μ ν) : Rel n τ ν := by
  obtain ⟨a1, a2, a3, a4, a5, a6, a7, a8, a9⟩ := R
  obtain ⟨hI, hW, hN, hO, hB, hL⟩ := hs
  obtain ⟨mI, mW, mN, mO, mB⟩ := hm
  refine ⟨?_, ?_, ?_, fun c hc => ?_, fun g h0 hg => ?_, ?_, fun t ht => ?_, ?_, fun c hc => ?_⟩
  · unfold rS
    rw [hI 0 (by decide), hI 1 (by decide), hI 2 (by decide), hI 3 (by decide), hI 4 (by decide), hI 5 (by decide), mI 4 (by decide), mI 5 (by decide), mI 0 (by decide), mI 27 (by decide), mI 28 (by decide), mI 29 (by decide)]
    exact a1
  · unfold rN
    rw [hN, mN]
    exact a2
  · unfold rB
    rw [mI 0 (by decide), mI 29 (by decide)]
    exact a3
  · rw [hI 10 (by decide), hI 11 (by decide), mI 1 (by decide), mI 2 (by decide), mI 0 (by decide)]
    rw [mN] at hc
    exact a4 c hc
  · rw [hO 20 (by decide), hI 22 (by decide), hW, mN, mI 7 (by decide), mW, mI 0 (by decide)]
    rw [mN] at hg
    exact a5 g h0 hg
  · exact a6.c (by rw [mN]) (by rw [mN]) (mI 19 (by decide)) (by rw [mN]) (by rw [mN]) (hI 24 (by decide))
  · rw [mN] at ht
    rw [hN, hI 32 (by decide), hW, hI 34 (by decide), hI 35 (by decide), hB 36 (by decide) (by decide), hI 37 (by decide), hI 41 (by decide), hO 42 (by decide), hO 43 (by decide), hI 38 (by decide), hI 39 (by decide), hI 40 (by decide), mN, mI 11 (by decide), mW, mI 13 (by decide), mI 19 (by decide), mB 21 (by decide), mI 14 (by decide), mI 18 (by decide), mO 22 (by decide), mO 20 (by decide), mI 15 (by decide), mI 16 (by decide), mI 17 (by decide), mI 0 (by decide)]
    exact a7 t ht
  · exact a8.c hL (hO 50 (by decide)) (fun l hl => by rw [hN]) (by rw [mN]) (mO 22 (by decide)) (mO 26 (by decide)) (mI 23 (by decide)) (by rw [mI 25 (by decide)])
  · rw [mI 2 (by decide)]
    rw [mN] at hc
    exact a9 c hc
theorem dWF.mf {μ ν : KS} (h : dWF μ) (hm : MF μ ν) : dWF ν := by
  obtain ⟨mI, mW, mN, mO, mB⟩ := hm
  unfold dWF
  rw [mN, mO 22 (by decide), mO 26 (by decide)]
  exact h
theorem pick_eq {n : Nat} {τ ν : KS} (R : Rel n τ ν) (hd : dWF ν) (hp : kO τ 20 0 = none) (Q : rQ τ ν) : pdO τ = chM ν := by
  obtain ⟨a1, a2, a3, a4, a5, a6, a7, a8, a9⟩ := id R
  rw [ch_all]
  unfold pdO
  rw [a2.2.2, (mu_eq Q (kN ν 24 0) (Nat.le_refl _)).1]
  cases e : cuM ν (kN ν 24 0) with
  | some u => rfl
  | none =>
    obtain ⟨m1, m2⟩ := markS_hu hd a2.2.1 a2.2.2 hp (fun a h0 h1 => (a5 a h0 h1).1) (fun t ht => ⟨(a7 t ht).1.1, (Q t ht).1⟩)
    obtain ⟨s1, s2, s3, s4, s5, s6⟩ := SF.m m1
    have e45 : kB (markS τ) 45 = kB τ 45 := by
      obtain ⟨f, hf⟩ := m1
      rw [hf]
      rfl
    show pdL (markS τ) 6 0 = dnM ν 6 0
    refine pd_eq hd.1.2.1 hd.1.2.2.2 (by rw [s3]; exact a2.2.1) (by rw [s3]; exact a2.2.2) (by rw [s4 20 (by decide)]; exact hp) (fun g h0 h1 => ?_) (fun g _ h1 => m2 g h1) (fun t ht => ?_) 6 0
    · obtain ⟨b1, b2, b3, b4, b5, b6⟩ := a5 g h0 h1
      rw [s4 20 (by decide), s2]
      exact ⟨b1, b3, b5⟩
    · obtain ⟨⟨c1, c2, c3, c4⟩, d1, d2, d3⟩ := a7 t ht
      rw [s3, s2, e45]
      exact ⟨c1, c3, d2.1, (Q t ht).1⟩
theorem SF.u {σ τ : KS} (h : sameS σ τ) : SF σ τ := by
  obtain ⟨f, rfl⟩ := h
  exact ⟨fun f hf => vu_n _ _ hf, rfl, rfl, fun _ _ => rfl, fun _ _ _ => rfl, rfl⟩
theorem MF.u {σ τ : KS} (h : sameU σ τ) : MF σ τ := by
  obtain ⟨f, rfl⟩ := h
  exact ⟨fun f hf => vu_n _ _ hf, rfl, rfl, fun _ _ => rfl, fun _ _ => rfl⟩
theorem rdS_spec (τ : KS) : ∀ m, SF τ (rdS m τ) ∧ kI (rdS m τ) = kI τ ∧ ∀ t, t < m → kB (rdS m τ) 45 t = readyS τ t := by
  intro m
  induction m with
  | zero => exact ⟨SF.rf τ, rfl, fun t h => absurd h (Nat.not_lt_zero _)⟩
  | succ m ih =>
    obtain ⟨i1, i2, i3⟩ := ih
    rw [rdS]
    refine ⟨i1.tr (SF.b _ _), i2, fun t ht => ?_⟩
    show va_up (kB (rdS m τ)) 45 (va_up (kB (rdS m τ) 45) m (readyS (rdS m τ) m)) 45 t = _
    rw [vu_s]
    by_cases q : t = m
    · subst q
      rw [vu_s]
      unfold readyS
      rw [i1.2.2.2.2.1 36 (by decide) (by decide), i1.2.2.2.1 42 (by decide), i1.1 34 (by decide)]
    · rw [vu_n _ _ q]; exact i3 t (by omega)
theorem rdM_spec (τ : KS) : ∀ m, MF τ (rdM m τ) ∧ kI (rdM m τ) = kI τ ∧ ∀ t, t < m → kB (rdM m τ) 32 t = readyM τ t := by
  intro m
  induction m with
  | zero => exact ⟨MF.rf τ, rfl, fun t h => absurd h (Nat.not_lt_zero _)⟩
  | succ m ih =>
    obtain ⟨i1, i2, i3⟩ := ih
    rw [rdM]
    refine ⟨i1.tr (MF.b _ _), i2, fun t ht => ?_⟩
    show va_up (kB (rdM m τ)) 32 (va_up (kB (rdM m τ) 32) m (readyM (rdM m τ) m)) 32 t = _
    rw [vu_s]
    by_cases q : t = m
    · subst q
      rw [vu_s]
      unfold readyM
      rw [i1.2.2.2.2 21 (by decide), i1.2.2.2.1 22 (by decide), i1.1 13 (by decide)]
    · rw [vu_n _ _ q]; exact i3 t (by omega)
theorem ready_eq {n : Nat} {σ μ : KS} (R : Rel n σ μ) {t : Nat} (ht : t < kN μ 24 0) : readyS σ t = readyM μ t := by
  obtain ⟨c1, c2, c3, c4, c5, c6, c7, c8, c9, c10⟩ := (R.2.2.2.2.2.2.1 t ht).1
  unfold readyS readyM
  rw [c6, c9, c4]
theorem rQ_0 {n : Nat} {σ μ : KS} (R : Rel n σ μ) (hd : dWF μ) : SF σ (cho0 σ) ∧ MF μ (cm0 μ) ∧ rQ (cho0 σ) (cm0 μ) := by
  have s0 := SF.u (urgS_U σ)
  have m0 := MF.u (fuM_U μ)
  obtain ⟨a1, a2, a3⟩ := rdS_spec (urgS σ) (kN σ 62 2)
  obtain ⟨b1, b2, b3⟩ := rdM_spec (fuM μ) (kN μ 24 0)
  refine ⟨s0.tr a1, m0.tr b1, fun t ht => ?_⟩
  have ht : t < kN μ 24 0 := by rw [cm0_N] at ht; exact ht
  refine ⟨?_, ?_⟩
  · show kB (rdS _ _) 45 t = kB (rdM _ _) 32 t
    rw [a3 t (by rw [R.2.1.2.2]; exact ht), b3 t ht]
    exact ready_eq (R.sf s0 m0) (by rw [m0.2.2.1]; exact ht)
  · show (kI (rdS _ _) 44 t = _ ∧ kI (rdM _ _) 31 t = _) ∨ (kI (rdS _ _) 44 t = kI (rdM _ _) 31 t ∧ 0 < (kI (rdM _ _) 31 t).toInt ∧ (kI (rdM _ _) 31 t).toInt ≤ 960)
    rw [a2, b2]
    exact urg_src R hd ht
theorem pdSt_sf (τ : KS) (h : sameB τ (markS τ)) : sameB τ (pdSt τ) := by
  unfold pdSt
  split
  · exact sameB.rf τ
  · exact h
theorem markS_B (τ : KS) : sameB τ (markS τ) := by
  have key : ∀ m (ν : KS), sameB τ ν → sameB τ (mkS m ν) := by
    intro m
    induction m with
    | zero => intro ν h; exact h
    | succ m ih =>
      intro ν h
      rw [mkS]
      split
      · exact chS_B _ _ _ (ih ν h)
      · exact ih ν h
  exact key _ _ (clrS_B _).1
theorem kO_w (σ : KS) (f : Nat) (g : Nat → Option Nat) : kO (sO σ f g) f = g := vu_s _ _ _
set_option maxRecDepth 100000 in
theorem cho_eq {n : Nat} {σ μ : KS} (R : Rel n σ μ) (hd : dWF μ) (hp : kO σ 20 0 = none) : SF σ (choS true σ) ∧ MF μ (csM μ) ∧ ∀ i, i < kN μ 3 0 → kO (choS true σ) 12 i = kO (csM μ) 30 i := by
  obtain ⟨z1, z2, z3⟩ := rQ_0 R hd
  have L : ∀ k, k ≤ kN μ 3 0 → (cofS true (cho0 σ) k).1 = (cmS (cm0 μ) k).1 ∧ SF σ (cofS true (cho0 σ) k).2 ∧ MF μ (cmS (cm0 μ) k).2 ∧ rQ (cofS true (cho0 σ) k).2 (cmS (cm0 μ) k).2 ∧ ∀ i, i < k → kO (cofS true (cho0 σ) k).2 12 i = kO (cmS (cm0 μ) k).2 30 i := by
    intro k
    induction k with
    | zero =>
      intro _
      rw [cofS, cmS]
      exact ⟨rfl, z1, z2, z3, fun i h => absurd h (Nat.not_lt_zero _)⟩
    | succ k ih =>
      intro hk
      obtain ⟨i1, i2, i3, i4, i5⟩ := ih (by omega)
      rw [cofS, cmS]
      generalize cofS true (cho0 σ) k = q at i1 i2 i4 i5 ⊢
      generalize cmS (cm0 μ) k = u at i1 i3 i4 i5 ⊢
      have RQ := R.sf i2 i3
      have hdu := hd.mf i3
      have hc : k < kN u.2 3 0 := by rw [i3.2.2.1]; omega
      obtain ⟨b1, b2, b3, b4⟩ := RQ.2.2.2.1 k hc
      have ep : paceS (kI q.2 10 k) (kI q.2 11 k) (kI q.2 0 0) = paM u.2 k := by
        unfold paM
        rw [b1, b2, RQ.1.1]
      have ec : kI q.2 1 0 = kI u.2 5 0 := RQ.1.2.1
      have pk : pdO q.2 = chM u.2 := pick_eq RQ hdu (by rw [i2.2.2.2.1 20 (by decide)]; exact hp) i4
      unfold cof1 cm1
      rw [ep, ec, i1]
      have fin : ∀ (o : Option Nat) (τ ν : KS), kO τ 12 = va_up (kO q.2 12) k o → kO ν 30 = va_up (kO u.2 30) k o → ∀ i, i < k + 1 → kO τ 12 i = kO ν 30 i := by
        intro o τ ν h1 h2 i hi
        rw [h1, h2]
        by_cases e : i = k
        · subst e; rw [vu_s, vu_s]
        · rw [vu_n _ _ e, vu_n _ _ e]; exact i5 i (by omega)
      by_cases w : u.1 + paM u.2 k ≤ kI u.2 5 0
      · rw [if_neg (Int32.not_lt.mpr w), if_pos w]
        have e2 : pickS true q.2 = chM u.2 := pk
        rw [e2]
        have sb : sameB q.2 (pickSt true q.2) := pdSt_sf q.2 (markS_B q.2)
        cases e : chM u.2 with
        | none =>
          obtain ⟨f, hf⟩ := sb
          dsimp only
          rw [hf]
          refine ⟨rfl, (i2.tr (SF.m ⟨f, rfl⟩)).tr (SF.o _ _), i3.tr (MF.o _ _), i4, fin none _ _ (kO_w (sB q.2 25 f) 12 _) (kO_w u.2 30 _)⟩
        | some t =>
          obtain ⟨f, hf⟩ := sb
          dsimp only
          rw [hf]
          refine ⟨rfl, ((i2.tr (SF.m ⟨f, rfl⟩)).tr (SF.o _ _)).tr (SF.b _ _), (i3.tr (MF.o _ _)).tr (MF.b _ _), fun x hx => ?_, fin (some t) _ _ (kO_w (sB q.2 25 f) 12 _) (kO_w u.2 30 _)⟩
          refine ⟨?_, (i4 x hx).2⟩
          show va_up (kB q.2 45) t false x = va_up (kB u.2 32) t false x
          by_cases e : x = t
          · subst e; rw [vu_s, vu_s]
          · rw [vu_n _ _ e, vu_n _ _ e]; exact (i4 x hx).1
      · rw [if_pos (Int32.not_le.mp w), if_neg w]
        exact ⟨rfl, i2.tr (SF.o _ _), i3.tr (MF.o _ _), i4, fin none _ _ (kO_w q.2 12 _) (kO_w u.2 30 _)⟩
  obtain ⟨_, l2, l3, _, l5⟩ := L (kN μ 3 0) (Nat.le_refl _)
  unfold choS csM
  rw [R.2.1.1]
  exact ⟨l2, l3, l5⟩
theorem s_choice {n : Nat} {σ μ : KS} {x0 : Int32} {r : Int32} {v : Int64} {σ1 : KS} {b : Int32} {μ1 : KS} (hc : cWF σ) (hd : dWF μ) (R : Rel n σ μ) (h1 : oc_choice σ x0 r v σ1) (h2 : om_choice μ x0 b μ1) : okR n r v b.toInt64 σ1 μ1 := by
  have eT : kN σ 62 0 = kN μ 3 0 := R.2.1.1
  rcases h1 with ⟨t, rfl, p1, rfl, rfl⟩ | ⟨rfl, p1, rfl⟩ <;> rw [eT] at p1
  · rcases h2 with ⟨q1, rfl⟩ | ⟨u, q1, rfl, rfl⟩
    · exact nomatch p1.symm.trans q1
    · cases p1.symm.trans q1
      obtain ⟨g1, g2, g3⟩ := cho_eq (R.th 0) (μ := thS μ 0) hd hc.2.2.2.2.1.1
      refine ⟨by rw [g2.1 33 (by decide)]; exact th33 μ 0, fun _ => by rw [g3 t (inR_some q1).2], ((R.th 0).sf g1 g2).mono (Nat.le_succ n)⟩
  · rcases h2 with ⟨q1, rfl⟩ | ⟨u, q1, rfl, rfl⟩
    · exact ⟨th33 _ _, fun z => absurd z (by decide), (R.th 1).mono (Nat.le_succ n)⟩
    · exact nomatch p1.symm.trans q1
