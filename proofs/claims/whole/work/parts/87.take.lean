/-! CHAINS, and taking a lock -/
theorem php : ∀ (N : Nat) (f : Nat → Nat), (∀ i, i ≤ N → f i < N) → ∃ i j, i < j ∧ j ≤ N ∧ f i = f j := by
  intro N
  induction N with
  | zero => intro f h; exact absurd (h 0 (Nat.le_refl 0)) (Nat.not_lt_zero _)
  | succ N ih =>
    intro f h
    by_cases q : ∃ i, i ≤ N ∧ f i = f (N + 1)
    · obtain ⟨i, h1, h2⟩ := q
      exact ⟨i, N + 1, by omega, Nat.le_refl _, h2⟩
    · have nq : ∀ i, i ≤ N → f i ≠ f (N + 1) := fun i hi z => q ⟨i, hi, z⟩
      obtain ⟨i, j, h1, h2, h3⟩ := ih (fun i => if f i = N then f (N + 1) else f i) (fun i hi => by
        have a := h i (by omega)
        have b := h (N + 1) (Nat.le_refl _)
        have c := nq i hi
        show (if f i = N then f (N + 1) else f i) < N
        split <;> omega)
      refine ⟨i, j, h1, by omega, ?_⟩
      have ni := nq i (by omega)
      have nj := nq j (by omega)
      have h4 : (if f i = N then f (N + 1) else f i) = (if f j = N then f (N + 1) else f j) := h3
      by_cases a : f i = N
      · by_cases b : f j = N
        · rw [a, b]
        · rw [if_pos a, if_neg b] at h4
          exact absurd h4.symm nj
      · by_cases b : f j = N
        · rw [if_neg a, if_pos b] at h4
          exact absurd h4 ni
        · rw [if_neg a, if_neg b] at h4
          exact h4
def itO (h : Nat → Option Nat) : Nat → Option Nat → Option Nat
  | 0, o => o
  | n + 1, o => itO h n (o.bind h)
theorem itO_none (h : Nat → Option Nat) (n : Nat) : itO h n none = none := by
  induction n with
  | zero => rfl
  | succ n ih => exact ih
theorem itO_add (h : Nat → Option Nat) (m n : Nat) (o : Option Nat) : itO h (m + n) o = itO h m (itO h n o) := by
  induction n generalizing o with
  | zero => rfl
  | succ n ih => exact ih (o.bind h)
theorem itO_lt {h : Nat → Option Nat} {N : Nat} (hN : ∀ a b, a < N → h a = some b → b < N) : ∀ (j k v : Nat), k < N → itO h j (some k) = some v → v < N := by
  intro j
  induction j with
  | zero => intro k v hk e; cases e; exact hk
  | succ j ih =>
    intro k v hk e
    have e2 : itO h j (h k) = some v := e
    cases hq : h k with
    | none => rw [hq, itO_none] at e2; cases e2
    | some b => rw [hq] at e2; exact ih b v (hN k b hk hq) e2
theorem itO_small {h : Nat → Option Nat} {N : Nat} (hN : ∀ a b, a < N → h a = some b → b < N) {k t : Nat} (hk : k < N) : ∀ i, itO h i (some k) = some t → ∃ j, j < N ∧ j ≤ i ∧ itO h j (some k) = some t := by
  intro i
  induction i using Nat.strongRecOn with
  | ind i ih =>
    intro hi
    by_cases q : i < N
    · exact ⟨i, q, Nat.le_refl _, hi⟩
    · have sm : ∀ j, j ≤ i → ∃ v, itO h j (some k) = some v := by
        intro j hj
        have e := itO_add h (i - j) j (some k)
        rw [show i - j + j = i by omega, hi] at e
        cases z : itO h j (some k) with
        | none => rw [z, itO_none] at e; cases e
        | some v => exact ⟨v, rfl⟩
      obtain ⟨a, b, h1, h2, h3⟩ := php N (fun j => (itO h j (some k)).getD 0) (fun j hj => by
        obtain ⟨v, hv⟩ := sm j (by omega)
        show (itO h j (some k)).getD 0 < N
        rw [hv]
        exact itO_lt hN j k v hk hv)
      obtain ⟨va, ha⟩ := sm a (by omega)
      obtain ⟨vb, hb⟩ := sm b (by omega)
      have hab : va = vb := by
        have h4 : (itO h a (some k)).getD 0 = (itO h b (some k)).getD 0 := h3
        rw [ha, hb] at h4
        exact h4
      have e := itO_add h (i - b) b (some k)
      rw [show i - b + b = i by omega, hi, hb, ← hab, ← ha, ← itO_add] at e
      obtain ⟨j, j1, j2, j3⟩ := ih (i - b + a) (by omega) e.symm
      exact ⟨j, j1, by omega, j3⟩
theorem itO_c {h g : Nat → Option Nat} {N : Nat} (hN : ∀ a b, a < N → h a = some b → b < N) (e : ∀ a, a < N → h a = g a) : ∀ (j k : Nat), k < N → itO h j (some k) = itO g j (some k) := by
  intro j
  induction j with
  | zero => intro k _; rfl
  | succ j ih =>
    intro k hk
    show itO h j (h k) = itO g j (g k)
    rw [← e k hk]
    cases hq : h k with
    | none => rw [itO_none, itO_none]
    | some b => exact ih b (hN k b hk hq)
theorem weS_it (r : Nat) (σ : KS) : ∀ (n : Nat) (o : Option Nat), weS r σ n o = true ↔ ∃ i, i < n ∧ itO (hbS σ) i o = some r := by
  intro n
  induction n with
  | zero => intro o; exact ⟨fun z => (by cases o <;> exact (nomatch z)), fun ⟨i, h, _⟩ => absurd h (Nat.not_lt_zero _)⟩
  | succ n ih =>
    intro o
    cases o with
    | none =>
      refine ⟨fun z => (nomatch z), fun ⟨i, _, h⟩ => ?_⟩
      rw [itO_none] at h
      cases h
    | some k =>
      rw [weS]
      by_cases q : k = r
      · rw [if_pos q]
        exact ⟨fun _ => ⟨0, by omega, by rw [q]; rfl⟩, fun _ => rfl⟩
      · rw [if_neg q, ih]
        constructor
        · rintro ⟨i, h1, h2⟩
          exact ⟨i + 1, by omega, h2⟩
        · rintro ⟨i, h1, h2⟩
          cases i with
          | zero => cases h2; exact absurd rfl q
          | succ i => exact ⟨i, by omega, h2⟩
theorem crM_it (μ : KS) (t : Nat) : ∀ (n : Nat) (o : Option Nat) (b : Bool), crM μ t n o b = true ↔ b = true ∨ ∃ i, i < n ∧ itO (hdM μ) i o = some t := by
  intro n
  induction n with
  | zero => intro o b; exact ⟨fun z => Or.inl (by cases o <;> exact z), fun h => h.elim (fun z => by cases o <;> exact z) (fun ⟨i, h, _⟩ => absurd h (Nat.not_lt_zero _))⟩
  | succ n ih =>
    intro o b
    cases o with
    | none =>
      refine ⟨fun z => Or.inl z, fun h => h.elim id (fun ⟨i, _, h⟩ => ?_)⟩
      rw [itO_none] at h
      cases h
    | some k =>
      rw [crM, ih]
      constructor
      · rintro (h | ⟨i, h1, h2⟩)
        · rcases Bool.or_eq_true_iff.mp h with h | h
          · exact Or.inl h
          · exact Or.inr ⟨0, by omega, congrArg some (of_decide_eq_true h)⟩
        · exact Or.inr ⟨i + 1, by omega, h2⟩
      · rintro (h | ⟨i, h1, h2⟩)
        · exact Or.inl (by rw [h]; rfl)
        · cases i with
          | zero =>
            cases h2
            exact Or.inl (by simp)
          | succ i => exact Or.inr ⟨i, by omega, h2⟩
/-- before whom a task waits: the same on both sides -/
theorem hb_eq {n : Nat} {σ μ : KS} (R : Rel n σ μ) (hd : dWF μ) {a : Nat} (ha : a < kN μ 24 0) : hbS σ a = hdM μ a := by
  obtain ⟨a1, a2, a3, a4, a5, a6, a7, a8, a9⟩ := R
  have e := (a7 a ha).1.2.2.2.2.2.2.2.2.1
  unfold hbS hdM
  rw [e]
  cases q : kO μ 22 a with
  | none => rfl
  | some l => exact (a8.1 l (hd.2.2.2.1 a ha l q)).1
theorem hd_lt {μ : KS} (hd : dWF μ) {a b : Nat} (ha : a < kN μ 24 0) (h : hdM μ a = some b) : b < kN μ 24 0 := by
  unfold hdM at h
  cases q : kO μ 22 a with
  | none => rw [q] at h; cases h
  | some l => rw [q] at h; exact hd.2.2.2.2 l (hd.2.2.2.1 a ha l q) b h
theorem ring_eq {n : Nat} {σ μ : KS} (R : Rel n σ μ) (hd : dWF μ) {t w k : Nat} (hk : k < kN μ 24 0) (hw : kO μ 26 w = some k) (hne : k ≠ t) : weS t σ 12 (hbS σ k) = crT μ t w := by
  have c := itO_c (h := hdM μ) (g := hbS σ) (N := kN μ 24 0) (fun a b ha h => hd_lt hd ha h) (fun a ha => (hb_eq R hd ha).symm)
  apply Bool.eq_iff_iff.mpr
  rw [weS_it]
  unfold crT
  rw [hw, crM_it]
  constructor
  · rintro ⟨i, h1, h2⟩
    have h3 : itO (hbS σ) (i + 1) (some k) = some t := h2
    rw [← c (i + 1) k hk] at h3
    obtain ⟨j, j1, _, j3⟩ := itO_small (h := hdM μ) (N := kN μ 24 0) (fun a b ha h => hd_lt hd ha h) hk (i + 1) h3
    exact Or.inr ⟨j, Nat.lt_of_lt_of_le j1 hd.1.2.2.2, j3⟩
  · rintro (h | ⟨i, h1, h2⟩)
    · cases h
    · cases i with
      | zero => cases h2; exact absurd rfl hne
      | succ i =>
        rw [c (i + 1) k hk] at h2
        exact ⟨i, by omega, h2⟩
theorem br_eq {n : Nat} {σ μ : KS} (R : Rel n σ μ) {t w : Nat} (ht : t < kN μ 24 0) (hw : w < 4) : brM μ t w ↔ (kB σ 36 t = true ∨ kO σ 42 t ≠ none ∨ kO σ 50 w = some t) := by
  obtain ⟨a1, a2, a3, a4, a5, a6, a7, a8, a9⟩ := R
  obtain ⟨c1, c2, c3, c4, c5, c6, c7, c8, c9, c10⟩ := (a7 t ht).1
  unfold brM
  rw [c6, c9, (a8.1 w hw).1]
theorem Rel.takes {n : Nat} {σ μ : KS} (R : Rel n σ μ) {t w : Nat} (hw : w < 4) : Rel n (sO σ 50 (va_up (kO σ 50) w (some t))) (taM μ t w) := by
  obtain ⟨a1, a2, a3, a4, a5, a6, a7, ⟨l1, l2, l3, l4⟩, a9⟩ := id R
  refine R.lk (fun _ _ => rfl) rfl (fun _ _ => rfl) (fun _ _ => rfl) (fun f h1 h2 => vu_n _ _ h2) rfl (fun f h1 h2 h3 => vu_n _ _ h3) rfl rfl (fun f h1 h2 => vu_n _ _ h2) rfl (fun t ht => (a7 t ht).1.2.2.2.2.2.2.2.2.1) ⟨fun l hl => ?_, l2, l3, l4⟩
  obtain ⟨d1, d2, d3, d4⟩ := l1 l hl
  refine ⟨?_, d2, d3, d4⟩
  show va_up (kO σ 50) w (some t) l = va_up (kO μ 26) w (some t) l
  by_cases q : l = w
  · subst q; rw [vu_s, vu_s]
  · rw [vu_n _ _ q, vu_n _ _ q]; exact d1
theorem Rel.waits {n : Nat} {σ μ : KS} (R : Rel n σ μ) (hn : n < 512) {t w : Nat} (ht : t < kN μ 24 0) (hw : w < 4) (h22 : kO μ 22 t = none) : Rel (n + 1) (lAdd (sO σ 42 (va_up (kO σ 42) t (some w))) (4 + w) t) (tbM μ t w) := by
  obtain ⟨a1, a2, a3, a4, a5, a6, a7, ⟨l1, l2, l3, l4⟩, a9⟩ := id R
  have e25 : (kI μ 25 0 + 1).toInt = (kI μ 25 0).toInt + 1 := i32_add (by show (-2147483648 : Int) ≤ _ + 1; omega) (by show _ + (1 : Int) < 2147483648; omega)
  have ne : ∀ a, a < kN μ 24 0 → kO μ 22 a ≠ none → a ≠ t := fun a _ h z => h (by rw [z]; exact h22)
  refine R.lk (fun f hf => vu_n _ _ (by omega)) rfl (fun f hf => ?_) (fun j hj => ?_) (fun f h1 h2 => vu_n _ _ h1) rfl (fun f h1 h2 h3 => ?_) rfl rfl (fun f h1 h2 => vu_n _ _ h1) rfl (fun a ha => ?_) ⟨fun l hl => ?_, fun a ha h => ?_, ?_, ?_⟩
  · exact (vu_n _ _ (by omega)).trans (vu_n _ _ (by omega))
  · show va_up (kN σ 62) (4 + w) _ j = _
    rw [vu_n _ _ (by omega)]
  · exact (vu_n _ _ h2).trans ((vu_n _ _ h1).trans (vu_n _ _ h3))
  · show va_up (kO σ 42) t (some w) a = va_up (kO μ 22) t (some w) a
    by_cases q : a = t
    · subst q; rw [vu_s, vu_s]
    · rw [vu_n _ _ q, vu_n _ _ q]; exact (a7 a ha).1.2.2.2.2.2.2.2.2.1
  · obtain ⟨d1, d2, d3, d4⟩ := l1 l hl
    by_cases q : l = w
    · subst q
      have eK : kL (lAdd (sO σ 42 (va_up (kO σ 42) t (some l))) (4 + l) t) (4 + l) = kL σ (4 + l) ++ [t] := vu_s _ _ _
      have eZ : kN (lAdd (sO σ 42 (va_up (kO σ 42) t (some l))) (4 + l) t) 62 (4 + l) = kN σ 62 (4 + l) + 1 := by
        show va_up (kN σ 62) (4 + l) (kN σ 62 (4 + l) + 1) (4 + l) = _
        rw [vu_s]
      refine ⟨d1, fun a => ?_, ?_, ?_⟩
      · rw [eK, List.mem_append, List.mem_singleton, d2]
        show _ ↔ a < kN μ 24 0 ∧ va_up (kO μ 22) t (some l) a = some l
        by_cases q : a = t
        · subst q; rw [vu_s]; exact ⟨fun _ => ⟨ht, rfl⟩, fun _ => Or.inr rfl⟩
        · rw [vu_n _ _ q]; exact ⟨fun h => h.elim id (fun z => absurd z q), Or.inl⟩
      · rw [eK, List.pairwise_append]
        refine ⟨?_, List.pairwise_singleton _ _, fun a ha b hb => ?_⟩
        · refine d3.imp_of_mem (fun {a b} ha hb h => ?_)
          have qa := (d2 a).mp ha
          have qb := (d2 b).mp hb
          show (va_up (kI μ 23) t (kI μ 25 0) a).toInt < (va_up (kI μ 23) t (kI μ 25 0) b).toInt
          rw [vu_n _ _ (ne a qa.1 (by rw [qa.2]; exact nofun)), vu_n _ _ (ne b qb.1 (by rw [qb.2]; exact nofun))]
          exact h
        · rw [List.mem_singleton] at hb
          subst hb
          have qa := (d2 a).mp ha
          show (va_up (kI μ 23) b (kI μ 25 0) a).toInt < (va_up (kI μ 23) b (kI μ 25 0) b).toInt
          rw [vu_n _ _ (ne a qa.1 (by rw [qa.2]; exact nofun)), vu_s]
          exact l2 a qa.1 (by rw [qa.2]; exact nofun)
      · rw [eK, eZ, List.length_append, d4]
        rfl
    · have eK : kL (lAdd (sO σ 42 (va_up (kO σ 42) t (some w))) (4 + w) t) (4 + l) = kL σ (4 + l) := vu_n _ _ (by omega)
      have eZ : kN (lAdd (sO σ 42 (va_up (kO σ 42) t (some w))) (4 + w) t) 62 (4 + l) = kN σ 62 (4 + l) := by
        show va_up (kN σ 62) (4 + w) _ (4 + l) = _
        rw [vu_n _ _ (by omega)]
      refine ⟨d1, fun a => ?_, ?_, ?_⟩
      · rw [eK, d2]
        show _ ↔ a < kN μ 24 0 ∧ va_up (kO μ 22) t (some w) a = some l
        by_cases q2 : a = t
        · subst q2
          rw [vu_s, h22]
          exact ⟨fun z => (nomatch z.2), fun z => absurd (Option.some.inj z.2) (Ne.symm q)⟩
        · rw [vu_n _ _ q2]
      · rw [eK]
        refine d3.imp_of_mem (fun {a b} ha hb h => ?_)
        have qa := (d2 a).mp ha
        have qb := (d2 b).mp hb
        show (va_up (kI μ 23) t (kI μ 25 0) a).toInt < (va_up (kI μ 23) t (kI μ 25 0) b).toInt
        rw [vu_n _ _ (ne a qa.1 (by rw [qa.2]; exact nofun)), vu_n _ _ (ne b qb.1 (by rw [qb.2]; exact nofun))]
        exact h
      · rw [eK, eZ, d4]
  · show (va_up (kI μ 23) t (kI μ 25 0) a).toInt < (va_up (kI μ 25) 0 (kI μ 25 0 + 1) 0).toInt
    rw [vu_s, e25]
    replace ha : a < kN μ 24 0 := ha
    replace h : va_up (kO μ 22) t (some w) a ≠ none := h
    by_cases q : a = t
    · subst q; rw [vu_s]; omega
    · rw [vu_n _ _ q] at h ⊢
      have := l2 a ha h
      omega
  · show 0 ≤ (va_up (kI μ 25) 0 (kI μ 25 0 + 1) 0).toInt
    rw [vu_s, e25]; omega
  · show (va_up (kI μ 25) 0 (kI μ 25 0 + 1) 0).toInt ≤ _
    rw [vu_s, e25]; omega
theorem s_take {n : Nat} {σ μ : KS} {x0 x1 : Int32} {r : Int32} {v : Int64} {σ1 : KS} {b : Int32} {μ1 : KS} (hc : cWF σ) (hd : dWF μ) (hn : n < 512) (R : Rel n σ μ) (h1 : oc_take σ x0 x1 r v σ1) (h2 : om_take μ x0 x1 b μ1) : okR n r v (if b = 0 then 0 else 1) σ1 μ1 := by
  obtain ⟨a1, a2, a3, a4, a5, a6, a7, a8, a9⟩ := id R
  have e4 : kN σ 62 3 = 4 := hc.1.2.2.2.2
  have eT : kN σ 62 2 = kN μ 24 0 := a2.2.2
  unfold oc_take at h1
  rw [e4, eT] at h1
  unfold om_take at h2
  rcases h1 with ⟨t, w, rfl, ⟨p1, p2, p3, p4, p5⟩, p6, rfl, rfl⟩ | ⟨t, w, k, rfl, ⟨p1, p2, p3, p4, p5⟩, ⟨p6, p7⟩, rfl, rfl⟩ | ⟨rfl, p1, rfl⟩ | ⟨rfl, ⟨t, p1, p2⟩, rfl⟩ | ⟨rfl, ⟨t, w, p1, p2, p3⟩, rfl⟩ | ⟨rfl, ⟨t, w, k, p1, p2, p3, p4, p5, p6, p7⟩, rfl⟩
  · have ht := (inR_some p1).2
    have hw := (inR_some p2).2
    have e26 := (a8.1 w hw).1
    have nb : ¬ brM μ t w := fun z => by
      rcases (br_eq R ht hw).mp z with z | z | z
      · rw [p3] at z; cases z
      · exact z p4
      · exact p5 z
    rcases h2 with ⟨q1, rfl⟩ | ⟨q1, q2, rfl⟩ | ⟨t2, w2, q1, q2, ⟨q3, rfl⟩ | ⟨q3, q4, rfl⟩ | ⟨q3, q4, q5, rfl, rfl⟩ | ⟨q3, q4, q5, rfl, rfl⟩⟩
    · exact nomatch p1.symm.trans q1
    · exact nomatch p2.symm.trans q2
    · cases p1.symm.trans q1; cases p2.symm.trans q2
      exact absurd q3 nb
    · cases p1.symm.trans q1; cases p2.symm.trans q2
      unfold crT at q4
      rw [← e26, p6, crM_n] at q4
      cases q4
    · cases p1.symm.trans q1; cases p2.symm.trans q2
      exact ⟨th33 μ 0, fun _ => by rw [if_neg (by decide)], (R.takes hw).mono (Nat.le_succ n)⟩
    · cases p1.symm.trans q1; cases p2.symm.trans q2
      exact absurd (e26.symm.trans p6) q5
  · have ht := (inR_some p1).2
    have hw := (inR_some p2).2
    have e26 := (a8.1 w hw).1
    have k26 : kO μ 26 w = some k := e26.symm.trans p6
    have hk := hd.2.2.2.2 w hw k k26
    have hkt : k ≠ t := fun z => p5 (by rw [p6, z])
    have nb : ¬ brM μ t w := fun z => by
      rcases (br_eq R ht hw).mp z with z | z | z
      · rw [p3] at z; cases z
      · exact z p4
      · exact p5 z
    have er := ring_eq R hd hk k26 hkt
    rcases h2 with ⟨q1, rfl⟩ | ⟨q1, q2, rfl⟩ | ⟨t2, w2, q1, q2, ⟨q3, rfl⟩ | ⟨q3, q4, rfl⟩ | ⟨q3, q4, q5, rfl, rfl⟩ | ⟨q3, q4, q5, rfl, rfl⟩⟩
    · exact nomatch p1.symm.trans q1
    · exact nomatch p2.symm.trans q2
    · cases p1.symm.trans q1; cases p2.symm.trans q2
      exact absurd q3 nb
    · cases p1.symm.trans q1; cases p2.symm.trans q2
      rw [← er, p7] at q4
      cases q4
    · cases p1.symm.trans q1; cases p2.symm.trans q2
      rw [k26] at q5
      cases q5
    · cases p1.symm.trans q1; cases p2.symm.trans q2
      have h22 : kO μ 22 t = none := (a7 t ht).1.2.2.2.2.2.2.2.2.1.symm.trans p4
      exact ⟨th33 μ 0, fun _ => by rw [if_pos rfl], R.waits hn ht hw h22⟩
  · rcases h2 with ⟨q1, rfl⟩ | ⟨q1, q2, rfl⟩ | ⟨t2, w2, q1, q2, q3⟩
    · exact ⟨th33 _ _, fun z => absurd z (by decide), (R.th 1).mono (Nat.le_succ n)⟩
    · exact absurd p1 q1
    · exact nomatch p1.symm.trans q1
  · rcases h2 with ⟨q1, rfl⟩ | ⟨q1, q2, rfl⟩ | ⟨t2, w2, q1, q2, q3⟩
    · exact nomatch p1.symm.trans q1
    · exact ⟨th33 _ _, fun z => absurd z (by decide), (R.th 2).mono (Nat.le_succ n)⟩
    · exact nomatch p2.symm.trans q2
  · have ht := (inR_some p1).2
    have hw := (inR_some p2).2
    have yb : brM μ t w := (br_eq R ht hw).mpr p3
    rcases h2 with ⟨q1, rfl⟩ | ⟨q1, q2, rfl⟩ | ⟨t2, w2, q1, q2, ⟨q3, rfl⟩ | ⟨q3, q4, rfl⟩ | ⟨q3, q4, q5, rfl, rfl⟩ | ⟨q3, q4, q5, rfl, rfl⟩⟩
    · exact nomatch p1.symm.trans q1
    · exact nomatch p2.symm.trans q2
    · exact ⟨th33 _ _, fun z => absurd z (by decide), (R.th 3).mono (Nat.le_succ n)⟩
    all_goals (cases p1.symm.trans q1; cases p2.symm.trans q2; exact absurd yb q3)
  · have ht := (inR_some p1).2
    have hw := (inR_some p2).2
    have e26 := (a8.1 w hw).1
    have k26 : kO μ 26 w = some k := e26.symm.trans p6
    have hk := hd.2.2.2.2 w hw k k26
    have hkt : k ≠ t := fun z => p5 (by rw [p6, z])
    have nb : ¬ brM μ t w := fun z => by
      rcases (br_eq R ht hw).mp z with z | z | z
      · rw [p3] at z; cases z
      · exact z p4
      · exact p5 z
    have er := ring_eq R hd hk k26 hkt
    rcases h2 with ⟨q1, rfl⟩ | ⟨q1, q2, rfl⟩ | ⟨t2, w2, q1, q2, ⟨q3, rfl⟩ | ⟨q3, q4, rfl⟩ | ⟨q3, q4, q5, rfl, rfl⟩ | ⟨q3, q4, q5, rfl, rfl⟩⟩
    · exact nomatch p1.symm.trans q1
    · exact nomatch p2.symm.trans q2
    · cases p1.symm.trans q1; cases p2.symm.trans q2
      exact absurd q3 nb
    · exact ⟨th33 _ _, fun z => absurd z (by decide), (R.th 4).mono (Nat.le_succ n)⟩
    all_goals (cases p1.symm.trans q1; cases p2.symm.trans q2; rw [← er, p7] at q4; cases q4)
