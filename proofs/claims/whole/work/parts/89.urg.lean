/-! URGENCIES: along the chain, or round by round -/
theorem hdM_c {μ ν : KS} (h : kO ν = kO μ) : hdM ν = hdM μ := by
  funext t
  unfold hdM
  rw [h]
theorem hbS_c {σ τ : KS} (h : kO τ = kO σ) : hbS τ = hbS σ := by
  funext t
  unfold hbS
  rw [h]
theorem fuT1_spec (ν : KS) (k : Nat) : (kO (fuT1 ν k) = kO ν ∧ ∀ f, f ≠ 31 → kI (fuT1 ν k) f = kI ν f) ∧ (∀ t, kI (fuT1 ν k) 31 t ≤ kI ν 31 t) ∧ (∀ t, hdM ν k = some t → kI (fuT1 ν k) 31 t ≤ kI ν 31 k) ∧ (∀ t, kI (fuT1 ν k) 31 t = kI ν 31 t ∨ (hdM ν k = some t ∧ kI (fuT1 ν k) 31 t = kI ν 31 k)) := by
  unfold fuT1
  cases e : hdM ν k with
  | none => exact ⟨⟨rfl, fun _ _ => rfl⟩, fun t => Int32.le_refl _, fun t h => (nomatch h), fun t => Or.inl rfl⟩
  | some h =>
    dsimp only
    by_cases q : kI ν 31 k < kI ν 31 h
    · rw [if_pos q]
      have eU : ∀ t, kI (sI ν 31 (va_up (kI ν 31) h (kI ν 31 k))) 31 t = va_up (kI ν 31) h (kI ν 31 k) t := fun t => by
        show va_up (kI ν) 31 (va_up (kI ν 31) h (kI ν 31 k)) 31 t = _
        rw [vu_s]
      refine ⟨⟨rfl, fun f hf => vu_n _ _ hf⟩, fun t => ?_, fun t ht => ?_, fun t => ?_⟩
      · rw [eU]
        by_cases z : t = h
        · subst z; rw [vu_s]; exact Int32.le_of_lt q
        · rw [vu_n _ _ z]; exact Int32.le_refl _
      · cases ht
        rw [eU, vu_s]; exact Int32.le_refl _
      · rw [eU]
        by_cases z : t = h
        · subst z; rw [vu_s]; exact Or.inr ⟨rfl, rfl⟩
        · rw [vu_n _ _ z]; exact Or.inl rfl
    · rw [if_neg q]
      refine ⟨⟨rfl, fun _ _ => rfl⟩, fun t => Int32.le_refl _, fun t ht => ?_, fun t => Or.inl rfl⟩
      cases ht
      exact Int32.not_lt.mp q
/-- a task's own urgency comes over the chain, and nothing else does -/
def uA (h : Nat → Option Nat) (own : Nat → Int32) (N : Nat) (U : Nat → Int32) : Prop := ∀ t, t < N → ∃ n, n < N ∧ (∃ i, itO h i (some n) = some t) ∧ U t = own n
theorem itO_end {h : Nat → Option Nat} {n k t i : Nat} (h1 : itO h i (some n) = some k) (h2 : h k = some t) : itO h (1 + i) (some n) = some t := by
  rw [itO_add, h1]
  exact h2
theorem fuT_spec {μ : KS} {own : Nat → Int32} {N : Nat} (hN : ∀ a b, a < N → hdM μ a = some b → b < N) (ν : KS) (hO : kO ν = kO μ) (hA : uA (hdM μ) own N (kI ν 31)) : ∀ m, m ≤ N → kO (fuT m ν) = kO μ ∧ uA (hdM μ) own N (kI (fuT m ν) 31) ∧ (∀ t, kI (fuT m ν) 31 t ≤ kI ν 31 t) ∧ (∀ k, k < m → ∀ t, hdM μ k = some t → kI (fuT m ν) 31 t ≤ kI ν 31 k) := by
  intro m
  induction m with
  | zero => intro _; exact ⟨hO, hA, fun _ => Int32.le_refl _, fun k hk => absurd hk (Nat.not_lt_zero _)⟩
  | succ m ih =>
    intro hm
    obtain ⟨i1, i2, i3, i4⟩ := ih (by omega)
    obtain ⟨⟨s1, _⟩, s2, s3, s4⟩ := fuT1_spec (fuT m ν) m
    have eh : hdM (fuT m ν) = hdM μ := hdM_c i1
    rw [eh] at s3 s4
    rw [fuT]
    refine ⟨s1.trans i1, fun t ht => ?_, fun t => Int32.le_trans (s2 t) (i3 t), fun k hk t h => ?_⟩
    · rcases s4 t with e | ⟨e1, e2⟩
      · rw [e]; exact i2 t ht
      · obtain ⟨n, n1, ⟨i, n2⟩, n3⟩ := i2 m (by omega)
        exact ⟨n, n1, ⟨1 + i, itO_end n2 e1⟩, by rw [e2, n3]⟩
    · by_cases q : k = m
      · subst q
        exact Int32.le_trans (s3 t h) (i3 k)
      · exact Int32.le_trans (s2 t) (i4 k (by omega) t h)
theorem fuR_spec {μ : KS} {own : Nat → Int32} {N : Nat} (hN : ∀ a b, a < N → hdM μ a = some b → b < N) (ν : KS) (hO : kO ν = kO μ) (hA : uA (hdM μ) own N (kI ν 31)) (h0 : ∀ n, n < N → kI ν 31 n ≤ own n) : ∀ r, kO (fuR N r ν) = kO μ ∧ uA (hdM μ) own N (kI (fuR N r ν) 31) ∧ ∀ n, n < N → ∀ i, i ≤ r → ∀ t, itO (hdM μ) i (some n) = some t → kI (fuR N r ν) 31 t ≤ own n := by
  intro r
  induction r with
  | zero =>
    refine ⟨hO, hA, fun n hn i hi t h => ?_⟩
    obtain rfl : i = 0 := by omega
    cases h
    exact h0 n hn
  | succ r ih =>
    obtain ⟨i1, i2, i3⟩ := ih
    obtain ⟨s1, s2, s3, s4⟩ := fuT_spec hN (fuR N r ν) i1 i2 N (Nat.le_refl N)
    rw [fuR]
    refine ⟨s1, s2, fun n hn i hi t h => ?_⟩
    by_cases q : i ≤ r
    · exact Int32.le_trans (s3 t) (i3 n hn i q t h)
    · obtain rfl : i = 1 + r := by omega
      rw [itO_add] at h
      cases e : itO (hdM μ) r (some n) with
      | none => rw [e] at h; cases h
      | some k =>
        rw [e] at h
        exact Int32.le_trans (s4 k (itO_lt hN r n k hn e) t h) (i3 n hn r (Nat.le_refl r) k e)
theorem fuA_spec (μ : KS) : ∀ m, (kO (fuA m μ) = kO μ ∧ ∀ f, f ≠ 31 → kI (fuA m μ) f = kI μ f) ∧ ∀ t, t < m → kI (fuA m μ) 31 t = ownM μ t := by
  intro m
  induction m with
  | zero => exact ⟨⟨rfl, fun _ _ => rfl⟩, fun t h => absurd h (Nat.not_lt_zero _)⟩
  | succ m ih =>
    obtain ⟨⟨i1, i2⟩, i3⟩ := ih
    rw [fuA]
    have eo : ownM (fuA m μ) m = ownM μ m := by
      unfold ownM
      rw [i2 14 (by decide), i2 13 (by decide), i2 16 (by decide)]
    refine ⟨⟨i1, fun f hf => (vu_n _ _ hf).trans (i2 f hf)⟩, fun t ht => ?_⟩
    show va_up (kI (fuA m μ)) 31 (va_up (kI (fuA m μ) 31) m (ownM (fuA m μ) m)) 31 t = _
    rw [vu_s, eo]
    by_cases q : t = m
    · subst q; rw [vu_s]
    · rw [vu_n _ _ q]; exact i3 t (by omega)
theorem fuM_spec {μ : KS} (hd : dWF μ) : uA (hdM μ) (ownM μ) (kN μ 24 0) (kI (fuM μ) 31) ∧ ∀ n, n < kN μ 24 0 → ∀ i t, itO (hdM μ) i (some n) = some t → kI (fuM μ) 31 t ≤ ownM μ n := by
  have hN : ∀ a b, a < kN μ 24 0 → hdM μ a = some b → b < kN μ 24 0 := fun a b ha h => hd_lt hd ha h
  obtain ⟨⟨a1, _⟩, a3⟩ := fuA_spec μ (kN μ 24 0)
  obtain ⟨s1, s2, s3⟩ := fuR_spec (own := ownM μ) hN (fuA (kN μ 24 0) μ) a1 (fun t ht => ⟨t, ht, ⟨0, rfl⟩, a3 t ht⟩) (fun n hn => by rw [a3 n hn]; exact Int32.le_refl _) 12
  refine ⟨s2, fun n hn i t h => ?_⟩
  obtain ⟨j, j1, _, j3⟩ := itO_small hN hn i h
  exact s3 n hn j (by have := hd.1.2.2.2; omega) t j3
/-- the component's way -/
theorem lendS_spec (u : Int32) : ∀ (c : Nat) (o : Option Nat) (τ : KS), (kO (lendS u c o τ) = kO τ ∧ ∀ f, f ≠ 44 → kI (lendS u c o τ) f = kI τ f) ∧ (∀ t, kI (lendS u c o τ) 44 t ≤ kI τ 44 t) ∧ (∀ i, i < c → ∀ t, itO (hbS τ) i o = some t → kI (lendS u c o τ) 44 t ≤ u) ∧ (∀ t, kI (lendS u c o τ) 44 t = kI τ 44 t ∨ (kI (lendS u c o τ) 44 t = u ∧ ∃ i, itO (hbS τ) i o = some t)) := by
  intro c
  induction c with
  | zero =>
    intro o τ
    have e : lendS u 0 o τ = τ := by cases o <;> rfl
    rw [e]
    exact ⟨⟨rfl, fun _ _ => rfl⟩, fun _ => Int32.le_refl _, fun i hi => absurd hi (Nat.not_lt_zero _), fun _ => Or.inl rfl⟩
  | succ c ih =>
    intro o τ
    cases o with
    | none => exact ⟨⟨rfl, fun _ _ => rfl⟩, fun _ => Int32.le_refl _, fun i _ t h => (by rw [itO_none] at h; cases h), fun _ => Or.inl rfl⟩
    | some k =>
      rw [lendS]
      generalize eτ : sI τ 44 (va_up (kI τ 44) k (if u < kI τ 44 k then u else kI τ 44 k)) = τ1
      have eU : ∀ t, kI τ1 44 t = va_up (kI τ 44) k (if u < kI τ 44 k then u else kI τ 44 k) t := fun t => by
        rw [← eτ]
        show va_up (kI τ) 44 (va_up (kI τ 44) k (if u < kI τ 44 k then u else kI τ 44 k)) 44 t = _
        rw [vu_s]
      have eO : kO τ1 = kO τ := by rw [← eτ]; rfl
      have eF : ∀ f, f ≠ 44 → kI τ1 f = kI τ f := fun f hf => by rw [← eτ]; exact vu_n _ _ hf
      have eh : hbS τ1 = hbS τ := hbS_c eO
      obtain ⟨⟨s1, s2⟩, s3, s4, s5⟩ := ih (hbS τ k) τ1
      rw [eh] at s4 s5
      have m1 : ∀ t, kI τ1 44 t ≤ kI τ 44 t := fun t => by
        rw [eU]
        by_cases q : t = k
        · subst q
          rw [vu_s]
          by_cases z : u < kI τ 44 t
          · rw [if_pos z]; exact Int32.le_of_lt z
          · rw [if_neg z]; exact Int32.le_refl _
        · rw [vu_n _ _ q]; exact Int32.le_refl _
      have m2 : kI τ1 44 k ≤ u := by
        rw [eU, vu_s]
        by_cases z : u < kI τ 44 k
        · rw [if_pos z]; exact Int32.le_refl _
        · rw [if_neg z]; exact Int32.not_lt.mp z
      refine ⟨⟨s1.trans eO, fun f hf => (s2 f hf).trans (eF f hf)⟩, fun t => Int32.le_trans (s3 t) (m1 t), fun i hi t h => ?_, fun t => ?_⟩
      · cases i with
        | zero => cases h; exact Int32.le_trans (s3 k) m2
        | succ i => exact s4 i (by omega) t h
      · rcases s5 t with e | ⟨e1, i, e2⟩
        · rw [e, eU]
          by_cases q : t = k
          · subst q
            rw [vu_s]
            by_cases z : u < kI τ 44 t
            · rw [if_pos z]; exact Or.inr ⟨rfl, 0, rfl⟩
            · rw [if_neg z]; exact Or.inl rfl
          · rw [vu_n _ _ q]; exact Or.inl rfl
        · exact Or.inr ⟨e1, i + 1, e2⟩
theorem ownAll_spec (σ : KS) : ∀ m, (kO (ownAll m σ) = kO σ ∧ ∀ f, f ≠ 44 → kI (ownAll m σ) f = kI σ f) ∧ ∀ t, t < m → kI (ownAll m σ) 44 t = ownS σ t := by
  intro m
  induction m with
  | zero => exact ⟨⟨rfl, fun _ _ => rfl⟩, fun t h => absurd h (Nat.not_lt_zero _)⟩
  | succ m ih =>
    obtain ⟨⟨i1, i2⟩, i3⟩ := ih
    rw [ownAll]
    have eo : ownS (ownAll m σ) m = ownS σ m := by
      unfold ownS
      rw [i2 37 (by decide), i2 34 (by decide), i2 40 (by decide)]
    refine ⟨⟨i1, fun f hf => (vu_n _ _ hf).trans (i2 f hf)⟩, fun t ht => ?_⟩
    show va_up (kI (ownAll m σ)) 44 (va_up (kI (ownAll m σ) 44) m (ownS (ownAll m σ) m)) 44 t = _
    rw [vu_s, eo]
    by_cases q : t = m
    · subst q; rw [vu_s]
    · rw [vu_n _ _ q]; exact i3 t (by omega)
theorem lendAll_spec {σ : KS} {N : Nat} (ν : KS) (hO : kO ν = kO σ) (hI : ∀ f, f ≠ 44 → kI ν f = kI σ f) (hA : uA (hbS σ) (ownS σ) N (kI ν 44)) (h0 : ∀ n, n < N → kI ν 44 n ≤ ownS σ n) : ∀ m, m ≤ N → (kO (lendAll m ν) = kO σ ∧ ∀ f, f ≠ 44 → kI (lendAll m ν) f = kI σ f) ∧ uA (hbS σ) (ownS σ) N (kI (lendAll m ν) 44) ∧ (∀ n, n < N → kI (lendAll m ν) 44 n ≤ ownS σ n) ∧ ∀ n, n < m → ∀ i, i < 12 → ∀ t, itO (hbS σ) (i + 1) (some n) = some t → kI (lendAll m ν) 44 t ≤ ownS σ n := by
  intro m
  induction m with
  | zero => intro _; exact ⟨⟨hO, hI⟩, hA, h0, fun n hn => absurd hn (Nat.not_lt_zero _)⟩
  | succ m ih =>
    intro hm
    obtain ⟨⟨i1, i2⟩, i3, i4, i5⟩ := ih (by omega)
    have eh : hbS (lendAll m ν) = hbS σ := hbS_c i1
    have eo : ownS (lendAll m ν) m = ownS σ m := by
      unfold ownS
      rw [i2 37 (by decide), i2 34 (by decide), i2 40 (by decide)]
    obtain ⟨⟨s1, s2⟩, s3, s4, s5⟩ := lendS_spec (ownS σ m) 12 (hbS σ m) (lendAll m ν)
    rw [eh] at s4 s5
    rw [lendAll, eh, eo]
    refine ⟨⟨s1.trans i1, fun f hf => (s2 f hf).trans (i2 f hf)⟩, fun t ht => ?_, fun n hn => Int32.le_trans (s3 n) (i4 n hn), fun n hn i hi t h => ?_⟩
    · rcases s5 t with e | ⟨e1, i, e2⟩
      · rw [e]; exact i3 t ht
      · exact ⟨m, by omega, ⟨i + 1, e2⟩, e1⟩
    · by_cases q : n = m
      · subst q
        exact s4 i hi t h
      · exact Int32.le_trans (s3 t) (i5 n (by omega) i hi t h)
theorem urgS_spec {n : Nat} {σ μ : KS} (R : Rel n σ μ) (hd : dWF μ) : uA (hdM μ) (ownS σ) (kN μ 24 0) (kI (urgS σ) 44) ∧ ∀ n, n < kN μ 24 0 → ∀ i t, itO (hdM μ) i (some n) = some t → kI (urgS σ) 44 t ≤ ownS σ n := by
  have hN : ∀ a b, a < kN μ 24 0 → hdM μ a = some b → b < kN μ 24 0 := fun a b ha h => hd_lt hd ha h
  have c := itO_c (h := hdM μ) (g := hbS σ) (N := kN μ 24 0) hN (fun a ha => (hb_eq R hd ha).symm)
  obtain ⟨⟨a1, a2⟩, a3⟩ := ownAll_spec σ (kN μ 24 0)
  obtain ⟨_, s2, s3, s4⟩ := lendAll_spec (N := kN μ 24 0) (ownAll (kN μ 24 0) σ) a1 a2 (fun t ht => ⟨t, ht, ⟨0, rfl⟩, a3 t ht⟩) (fun n hn => by rw [a3 n hn]; exact Int32.le_refl _) (kN μ 24 0) (Nat.le_refl _)
  unfold urgS
  rw [R.2.1.2.2]
  refine ⟨fun t ht => ?_, fun n hn i t h => ?_⟩
  · obtain ⟨n, n1, ⟨i, n2⟩, n3⟩ := s2 t ht
    exact ⟨n, n1, ⟨i, by rw [c i n n1]; exact n2⟩, n3⟩
  · obtain ⟨j, j1, _, j3⟩ := itO_small hN hn i h
    cases j with
    | zero => cases j3; exact s3 n hn
    | succ j =>
      rw [c (j + 1) n hn] at j3
      exact s4 n hn j (by have := hd.1.2.2.2; omega) t j3
/-- own urgencies, side by side -/
theorem own_rel {n : Nat} {σ μ : KS} (R : Rel n σ μ) {t : Nat} (ht : t < kN μ 24 0) : (ownS σ t = 2147483647 ∧ ownM μ t = 1000000) ∨ (ownS σ t = ownM μ t ∧ 0 < (ownM μ t).toInt ∧ (ownM μ t).toInt ≤ 960) := by
  obtain ⟨⟨c1, c2, c3, c4, c5, c6, c7, c8, c9, c10⟩, d1, d2, d3, d4⟩ := R.2.2.2.2.2.2.1 t ht
  unfold ownS ownM
  rw [c7, c4]
  by_cases q : 0 < kI μ 14 t ∧ 0 < kI μ 13 t
  · rw [if_pos q, if_pos q]
    rcases d4 with ⟨z, _⟩ | ⟨z1, z2, z3, z4, z5, z6, z7, z8⟩
    · rw [z] at q
      exact absurd q.1 (by decide)
    · exact Or.inr ⟨z4, by omega, z8⟩
  · rw [if_neg q, if_neg q]
    exact Or.inl ⟨rfl, rfl⟩
theorem urg_src {n : Nat} {σ μ : KS} (R : Rel n σ μ) (hd : dWF μ) {t : Nat} (ht : t < kN μ 24 0) : (kI (urgS σ) 44 t = 2147483647 ∧ kI (fuM μ) 31 t = 1000000) ∨ (kI (urgS σ) 44 t = kI (fuM μ) 31 t ∧ 0 < (kI (fuM μ) 31 t).toInt ∧ (kI (fuM μ) 31 t).toInt ≤ 960) := by
  obtain ⟨a1, a2⟩ := urgS_spec R hd
  obtain ⟨b1, b2⟩ := fuM_spec hd
  obtain ⟨p, p1, ⟨i, p2⟩, p3⟩ := a1 t ht
  obtain ⟨q, q1, ⟨j, q2⟩, q3⟩ := b1 t ht
  have e1 := Int32.le_iff_toInt_le.mp (a2 q q1 j t q2)
  have e2 := Int32.le_iff_toInt_le.mp (b2 p p1 i t p2)
  rw [p3] at e1 ⊢
  rw [q3] at e2 ⊢
  have m1 : (2147483647 : Int32).toInt = 2147483647 := by decide
  have m2 : (1000000 : Int32).toInt = 1000000 := by decide
  rcases own_rel R p1 with ⟨x1, x2⟩ | ⟨x1, x2, x3⟩
  · rcases own_rel R q1 with ⟨y1, y2⟩ | ⟨y1, y2, y3⟩
    · exact Or.inl ⟨x1, y2⟩
    · rw [x1, y1, m1] at e1
      omega
  · rcases own_rel R q1 with ⟨y1, y2⟩ | ⟨y1, y2, y3⟩
    · rw [y2, m2] at e2
      omega
    · rw [x1, y1] at e1
      refine Or.inr ⟨?_, y2, y3⟩
      rw [x1]
      exact Int32.toInt_inj.mp (by omega)
