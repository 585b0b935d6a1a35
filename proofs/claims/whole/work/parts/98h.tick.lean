/-! A TICK, side by side -/
theorem wkL_s {τ : KS} {m t : Nat} (e : kO (wkL m τ) 12 m = some t) : wkL (m + 1) τ = workS (wkL m τ) m t := by rw [wkL, e]
theorem wkL_n {τ : KS} {m : Nat} (e : kO (wkL m τ) 12 m = none) : wkL (m + 1) τ = wkL m τ := by rw [wkL, e]
theorem wlM_s {ν : KS} {m t : Nat} (e : kO (wlM ν m).2 30 m = some t) : wlM ν (m + 1) = ((wlM ν m).1 + wuM (wlM ν m).2 m t, sI (sI (wkM (wlM ν m).2 m t) 28 (va_up (kI (wkM (wlM ν m).2 m t) 28) 0 (kI (wkM (wlM ν m).2 m t) 28 0 + 1))) 29 (va_up (kI (wkM (wlM ν m).2 m t) 29) 0 (kI (wkM (wlM ν m).2 m t) 29 0 + 1))) := by
  rw [wlM]
  unfold wl1
  rw [e]
theorem wlM_n {ν : KS} {m : Nat} (e : kO (wlM ν m).2 30 m = none) : wlM ν (m + 1) = ((wlM ν m).1 + 0, sI (sI (wlM ν m).2 28 (va_up (kI (wlM ν m).2 28) 0 (kI (wlM ν m).2 28 0 + 0))) 29 (va_up (kI (wlM ν m).2 29) 0 (kI (wlM ν m).2 29 0 + 1))) := by
  rw [wlM]
  unfold wl1
  rw [e]
theorem work_all {n : Nat} {τ ν : KS} {K : Int} (M : Mid n 0 K τ ν) (hK : K ≤ 27300000) (hd : dWF ν) (hp : kO τ 20 0 = none) (e12 : ∀ i, i < kN ν 3 0 → kO τ 12 i = kO ν 30 i) (h30 : ∀ c, c < kN ν 3 0 → ∀ t, kO ν 30 c = some t → t < kN ν 24 0) : ∀ m, m ≤ kN ν 3 0 → Mid n m (K + 10080 * m) (wkL m τ) (wlM ν m).2 ∧ kI (wkL m τ) 24 0 = kI τ 24 0 + (wlM ν m).1 ∧ kO (wkL m τ) 12 = kO τ 12 ∧ kO (wkL m τ) 20 = kO τ 20 ∧ PK ν (wlM ν m).2 ∧ kO (wlM ν m).2 30 = kO ν 30 := by
  have c3 := hd.1.1
  intro m
  induction m with
  | zero =>
    intro _
    rw [show K + 10080 * ((0 : Nat) : Int) = K by omega]
    exact ⟨M, (Int32.add_zero _).symm, rfl, rfl, PK.rf ν, rfl⟩
  | succ m ih =>
    intro hm
    obtain ⟨i1, i2, i3, i4, i5, i6⟩ := ih (by omega)
    have eK : K + 10080 * ((m + 1 : Nat) : Int) = K + 10080 * (m : Int) + 10080 := by omega
    rw [eK]
    have hc : m < kN (wlM ν m).2 3 0 := by rw [i5.1]; omega
    have E : kO (wkL m τ) 12 m = kO (wlM ν m).2 30 m := by
      rw [i3, i6]
      exact e12 m (by omega)
    cases e : kO (wlM ν m).2 30 m with
    | none =>
      rw [wkL_n (E.trans e), wlM_n e]
      refine ⟨Mid.rest i1 (by omega) ?_ ?_ ?_ rfl rfl rfl rfl, ?_, i3, i4, i5.tr ⟨rfl, rfl, rfl, rfl, rfl⟩, i6⟩
      · exact vu_s (kI (wlM ν m).2 28) 0 (kI (wlM ν m).2 28 0 + 0)
      · exact vu_s (kI (wlM ν m).2 29) 0 (kI (wlM ν m).2 29 0 + 1)
      · intro f h28 h29
        exact (vu_n _ _ h29).trans (vu_n _ _ h28)
      · show kI (wkL m τ) 24 0 = kI τ 24 0 + ((wlM ν m).1 + 0)
        rw [Int32.add_zero]
        exact i2
    | some t =>
      have ht : t < kN (wlM ν m).2 24 0 := by
        rw [i5.1]
        exact h30 m (by omega) t (by rw [← i6]; exact e)
      obtain ⟨j1, j2, j3, j4, j5, j6⟩ := mid_some i1 (by omega) (by omega) (i5.wf hd) (by rw [i4]; exact hp) hc ht
      rw [wkL_s (E.trans e), wlM_s e]
      refine ⟨j1, ?_, j3.trans i3, j4.trans i4, i5.tr ⟨j5.1, j5.2.1, j5.2.2.1, j5.2.2.2.1, j5.2.2.2.2⟩, j6.trans i6⟩
      show kI (workS (wkL m τ) m t) 24 0 = kI τ 24 0 + ((wlM ν m).1 + wuM (wlM ν m).2 m t)
      rw [j2, i2, Int32.add_assoc]
/-- the heat -/
def hnS (σ : KS) (i : Nat) : Int32 := match kO σ 12 i with
  | some _ => kI σ 11 i + paceS (kI σ 10 i) (kI σ 11 i) (kI σ 0 0)
  | none => if kI σ 11 i - 3 < 0 then 0 else kI σ 11 i - 3
def hnM (μ : KS) (c : Nat) : Int32 := match kO μ 30 c with
  | none => if kI μ 2 c ≤ 3 then 0 else kI μ 2 c - 3
  | some _ => kI μ 2 c + paM μ c
theorem heatS_e (σ : KS) (i : Nat) : heatS σ i = sI σ 11 (va_up (kI σ 11) i (hnS σ i)) := by
  unfold heatS hnS
  cases kO σ 12 i <;> rfl
theorem h1M_e (μ : KS) (c : Nat) : h1M μ c = sI μ 2 (va_up (kI μ 2) c (hnM μ c)) := by
  unfold h1M hnM
  cases kO μ 30 c <;> rfl
theorem hnS_c {σ τ : KS} {i : Nat} (h12 : kO τ 12 = kO σ 12) (h11 : kI τ 11 i = kI σ 11 i) (h10 : kI τ 10 = kI σ 10) (h0 : kI τ 0 = kI σ 0) : hnS τ i = hnS σ i := by
  unfold hnS
  rw [h12, h11, h10, h0]
theorem hnM_c {μ ν : KS} {i : Nat} (h30 : kO ν 30 = kO μ 30) (h2 : kI ν 2 i = kI μ 2 i) (h1 : kI ν 1 = kI μ 1) (h4 : kI ν 4 = kI μ 4) : hnM ν i = hnM μ i := by
  unfold hnM paM
  rw [h30, h2, h1, h4]
theorem htL_spec (σ : KS) : ∀ m, ((∀ f, f ≠ 11 → kI (htL m σ) f = kI σ f) ∧ kW (htL m σ) = kW σ ∧ kN (htL m σ) = kN σ ∧ kO (htL m σ) = kO σ ∧ kB (htL m σ) = kB σ ∧ kL (htL m σ) = kL σ) ∧ (∀ c, c < m → kI (htL m σ) 11 c = hnS σ c) ∧ ∀ c, m ≤ c → kI (htL m σ) 11 c = kI σ 11 c := by
  intro m
  induction m with
  | zero => exact ⟨⟨fun _ _ => rfl, rfl, rfl, rfl, rfl, rfl⟩, fun c h => absurd h (Nat.not_lt_zero _), fun _ _ => rfl⟩
  | succ m ih =>
    obtain ⟨⟨i1, i2, i3, i4, i5, i6⟩, i7, i8⟩ := ih
    rw [htL, heatS_e, hnS_c (σ := σ) (τ := htL m σ) (i := m) (by rw [i4]) (i8 m (Nat.le_refl _)) (i1 10 (by decide)) (i1 0 (by decide))]
    refine ⟨⟨fun f hf => (vu_n _ _ hf).trans (i1 f hf), i2, i3, i4, i5, i6⟩, fun c hc => ?_, fun c hc => ?_⟩
    · show va_up (kI (htL m σ)) 11 (va_up (kI (htL m σ) 11) m (hnS σ m)) 11 c = _
      rw [vu_s]
      by_cases q : c = m
      · rw [q, vu_s]
      · rw [vu_n _ _ q]
        exact i7 c (by omega)
    · show va_up (kI (htL m σ)) 11 (va_up (kI (htL m σ) 11) m (hnS σ m)) 11 c = _
      rw [vu_s, vu_n _ _ (by omega)]
      exact i8 c (by omega)
theorem htM_spec (μ : KS) : ∀ m, ((∀ f, f ≠ 2 → kI (htM m μ) f = kI μ f) ∧ kW (htM m μ) = kW μ ∧ kN (htM m μ) = kN μ ∧ kO (htM m μ) = kO μ ∧ kB (htM m μ) = kB μ) ∧ (∀ c, c < m → kI (htM m μ) 2 c = hnM μ c) ∧ ∀ c, m ≤ c → kI (htM m μ) 2 c = kI μ 2 c := by
  intro m
  induction m with
  | zero => exact ⟨⟨fun _ _ => rfl, rfl, rfl, rfl, rfl⟩, fun c h => absurd h (Nat.not_lt_zero _), fun _ _ => rfl⟩
  | succ m ih =>
    obtain ⟨⟨i1, i2, i3, i4, i5⟩, i7, i8⟩ := ih
    rw [htM, h1M_e, hnM_c (μ := μ) (ν := htM m μ) (i := m) (by rw [i4]) (i8 m (Nat.le_refl _)) (i1 1 (by decide)) (i1 4 (by decide))]
    refine ⟨⟨fun f hf => (vu_n _ _ hf).trans (i1 f hf), i2, i3, i4, i5⟩, fun c hc => ?_, fun c hc => ?_⟩
    · show va_up (kI (htM m μ)) 2 (va_up (kI (htM m μ) 2) m (hnM μ m)) 2 c = _
      rw [vu_s]
      by_cases q : c = m
      · rw [q, vu_s]
      · rw [vu_n _ _ q]
        exact i7 c (by omega)
    · show va_up (kI (htM m μ)) 2 (va_up (kI (htM m μ) 2) m (hnM μ m)) 2 c = _
      rw [vu_s, vu_n _ _ (by omega)]
      exact i8 c (by omega)
theorem heat_eq {σ μ : KS} {c : Nat} (R : rC σ μ) (hc : c < kN μ 3 0) (h0 : kI σ 0 0 = kI μ 4 0) (h12 : kO σ 12 c = kO μ 30 c) (hT : (kI μ 0 0).toInt < 900) : hnS σ c = hnM μ c ∧ 0 ≤ (hnM μ c).toInt ∧ (hnM μ c).toInt ≤ 4 * (kI μ 0 0).toInt + 4 := by
  obtain ⟨p1, p2, p3, p4, p5⟩ := R c hc
  have z0 : (0 : Int32).toInt = 0 := by decide
  have z3 : (3 : Int32).toInt = 3 := by decide
  have ep : paceS (kI σ 10 c) (kI σ 11 c) (kI σ 0 0) = paM μ c := by
    unfold paM
    rw [p1, p2, h0]
  have pb : 1 ≤ (paM μ c).toInt ∧ (paM μ c).toInt ≤ 4 := pace_bd p3.1 p3.2
  unfold hnS hnM
  rw [h12, ep, p2]
  cases kO μ 30 c with
  | some t =>
    have s1 : (kI μ 2 c + paM μ c).toInt = (kI μ 2 c).toInt + (paM μ c).toInt := i32_add (by omega) (by omega)
    refine ⟨rfl, ?_⟩
    show 0 ≤ (kI μ 2 c + paM μ c).toInt ∧ (kI μ 2 c + paM μ c).toInt ≤ _
    rw [s1]
    omega
  | none =>
    have s1 : (kI μ 2 c - 3).toInt = (kI μ 2 c).toInt - (3 : Int32).toInt := i32_sub (by rw [z3]; omega) (by rw [z3]; omega)
    rw [z3] at s1
    show (if kI μ 2 c - 3 < 0 then 0 else kI μ 2 c - 3) = (if kI μ 2 c ≤ 3 then 0 else kI μ 2 c - 3) ∧ 0 ≤ (if kI μ 2 c ≤ 3 then 0 else kI μ 2 c - 3).toInt ∧ (if kI μ 2 c ≤ 3 then 0 else kI μ 2 c - 3).toInt ≤ _
    by_cases q : kI μ 2 c ≤ 3
    · have q2 := toI_le q
      rw [z3] at q2
      rw [if_pos q]
      refine ⟨?_, by rw [z0]; omega⟩
      by_cases w : kI μ 2 c - 3 < 0
      · rw [if_pos w]
      · rw [if_neg w]
        have w2 := toI_le (Int32.not_lt.mp w)
        rw [z0, s1] at w2
        exact Int32.toInt_inj.mp (by rw [s1, z0]; omega)
    · have q2 := Int32.lt_iff_toInt_lt.mp (Int32.not_le.mp q)
      rw [z3] at q2
      rw [if_neg q]
      refine ⟨?_, by rw [s1]; omega⟩
      rw [if_neg (fun w => by
        have w2 := Int32.lt_iff_toInt_lt.mp w
        rw [z0, s1] at w2
        omega)]
