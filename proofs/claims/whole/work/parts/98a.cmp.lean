/-! COMPARING ALL TASKS: what the way down the tree takes goes before every other one -/
theorem ite_or2 {α : Type} {p : Prop} [Decidable p] {a b c : α} (h : (if p then a else b) = c) : (p ∧ a = c) ∨ (¬ p ∧ b = c) := by
  by_cases q : p
  · rw [if_pos q] at h; exact Or.inl ⟨q, h⟩
  · rw [if_neg q] at h; exact Or.inr ⟨q, h⟩
theorem i64_lt_of {x y : Int64} (h : ¬ y < x) (n : ¬ x = y) : x < y := Int64.lt_of_le_of_ne (Int64.not_lt.mp h) n
theorem i32_lt_of {x y : Int32} (h : ¬ y < x) (n : ¬ x = y) : x < y := Int32.lt_of_le_of_ne (Int32.not_lt.mp h) n
theorem ls_spec {σ : KS} {g : Nat} : ∀ n, (ltS σ g n = none → ∀ t, t < n → kN σ 31 t = g → kB σ 45 t = true → False) ∧ ∀ b, ltS σ g n = some b → kN σ 31 b = g ∧ kB σ 45 b = true ∧ ∀ t, t < n → kN σ 31 t = g → kB σ 45 t = true → ¬ kW σ 33 t < kW σ 33 b ∧ (t < b → kW σ 33 b < kW σ 33 t) := by
  intro n
  induction n with
  | zero => exact ⟨fun _ t h => absurd h (Nat.not_lt_zero _), fun b h => by cases h⟩
  | succ n ih =>
    obtain ⟨i1, i2⟩ := ih
    by_cases q : kN σ 31 n = g ∧ kB σ 45 n = true
    · cases e : ltS σ g n with
      | none =>
        have e2 : ltS σ g (n + 1) = some n := by
          rw [ltS, e]
          exact if_pos ⟨q.1, q.2, rfl⟩
        rw [e2]
        refine ⟨fun z => (nomatch z), fun b h => ?_⟩
        cases h
        refine ⟨q.1, q.2, fun t ht h1 h2 => ?_⟩
        by_cases w : t = n
        · subst w
          exact ⟨Int64.lt_irrefl, fun z => absurd z (Nat.lt_irrefl _)⟩
        · exact (i1 e t (by omega) h1 h2).elim
      | some b =>
        obtain ⟨j1, j2, j3⟩ := i2 b e
        have hb := ltS_lt e
        by_cases w : kW σ 33 n < kW σ 33 b
        · have e2 : ltS σ g (n + 1) = some n := by
            rw [ltS, e]
            exact if_pos ⟨q.1, q.2, decide_eq_true w⟩
          rw [e2]
          refine ⟨fun z => (nomatch z), fun c h => ?_⟩
          cases h
          refine ⟨q.1, q.2, fun t ht h1 h2 => ?_⟩
          by_cases y : t = n
          · subst y
            exact ⟨Int64.lt_irrefl, fun z => absurd z (Nat.lt_irrefl _)⟩
          · obtain ⟨k1, k2⟩ := j3 t (by omega) h1 h2
            have l := Int64.lt_of_lt_of_le w (Int64.not_lt.mp k1)
            exact ⟨fun z => Int64.lt_irrefl (Int64.lt_trans z l), fun _ => l⟩
        · have e2 : ltS σ g (n + 1) = some b := by
            rw [ltS, e]
            exact if_neg (fun z => w (of_decide_eq_true z.2.2))
          rw [e2]
          refine ⟨fun z => (nomatch z), fun c h => ?_⟩
          cases h
          refine ⟨j1, j2, fun t ht h1 h2 => ?_⟩
          by_cases y : t = n
          · subst y
            exact ⟨w, fun z => absurd z (by omega)⟩
          · exact j3 t (by omega) h1 h2
    · have e2 : ltS σ g (n + 1) = ltS σ g n := by
        rw [ltS]
        exact if_neg (fun z => q ⟨z.1, z.2.1⟩)
      rw [e2]
      refine ⟨fun z t ht h1 h2 => ?_, fun b h => ?_⟩
      · by_cases y : t = n
        · subst y; exact q ⟨h1, h2⟩
        · exact i1 z t (by omega) h1 h2
      · obtain ⟨j1, j2, j3⟩ := i2 b h
        refine ⟨j1, j2, fun t ht h1 h2 => ?_⟩
        by_cases y : t = n
        · subst y; exact (q ⟨h1, h2⟩).elim
        · exact j3 t (by omega) h1 h2
theorem lg_spec {σ : KS} {p : Nat} : ∀ n, (lgS σ p n = none → ∀ c, c < n → kB σ 25 c = true → kO σ 20 c = some p → False) ∧ ∀ b, lgS σ p n = some b → kB σ 25 b = true ∧ kO σ 20 b = some p ∧ b < n ∧ ∀ c, c < n → kB σ 25 c = true → kO σ 20 c = some p → ¬ kW σ 23 c < kW σ 23 b ∧ (c < b → kW σ 23 b < kW σ 23 c) := by
  intro n
  induction n with
  | zero => exact ⟨fun _ t h => absurd h (Nat.not_lt_zero _), fun b h => by cases h⟩
  | succ n ih =>
    obtain ⟨i1, i2⟩ := ih
    by_cases q : kB σ 25 n = true ∧ kO σ 20 n = some p
    · cases e : lgS σ p n with
      | none =>
        have e2 : lgS σ p (n + 1) = some n := by
          rw [lgS, e]
          exact if_pos ⟨q.1, q.2, rfl⟩
        rw [e2]
        refine ⟨fun z => (nomatch z), fun b h => ?_⟩
        cases h
        refine ⟨q.1, q.2, Nat.lt_succ_self _, fun t ht h1 h2 => ?_⟩
        by_cases w : t = n
        · subst w
          exact ⟨Int64.lt_irrefl, fun z => absurd z (Nat.lt_irrefl _)⟩
        · exact (i1 e t (by omega) h1 h2).elim
      | some b =>
        obtain ⟨j1, j2, hb, j3⟩ := i2 b e
        by_cases w : kW σ 23 n < kW σ 23 b
        · have e2 : lgS σ p (n + 1) = some n := by
            rw [lgS, e]
            exact if_pos ⟨q.1, q.2, decide_eq_true w⟩
          rw [e2]
          refine ⟨fun z => (nomatch z), fun c h => ?_⟩
          cases h
          refine ⟨q.1, q.2, Nat.lt_succ_self _, fun t ht h1 h2 => ?_⟩
          by_cases y : t = n
          · subst y
            exact ⟨Int64.lt_irrefl, fun z => absurd z (Nat.lt_irrefl _)⟩
          · obtain ⟨k1, k2⟩ := j3 t (by omega) h1 h2
            have l := Int64.lt_of_lt_of_le w (Int64.not_lt.mp k1)
            exact ⟨fun z => Int64.lt_irrefl (Int64.lt_trans z l), fun _ => l⟩
        · have e2 : lgS σ p (n + 1) = some b := by
            rw [lgS, e]
            exact if_neg (fun z => w (of_decide_eq_true z.2.2))
          rw [e2]
          refine ⟨fun z => (nomatch z), fun c h => ?_⟩
          cases h
          refine ⟨j1, j2, by omega, fun t ht h1 h2 => ?_⟩
          by_cases y : t = n
          · subst y
            exact ⟨w, fun z => absurd z (by omega)⟩
          · exact j3 t (by omega) h1 h2
    · have e2 : lgS σ p (n + 1) = lgS σ p n := by
        rw [lgS]
        exact if_neg (fun z => q ⟨z.1, z.2.1⟩)
      rw [e2]
      refine ⟨fun z t ht h1 h2 => ?_, fun b h => ?_⟩
      · by_cases y : t = n
        · subst y; exact q ⟨h1, h2⟩
        · exact i1 z t (by omega) h1 h2
      · obtain ⟨j1, j2, hb, j3⟩ := i2 b h
        refine ⟨j1, j2, by omega, fun t ht h1 h2 => ?_⟩
        by_cases y : t = n
        · subst y; exact (q ⟨h1, h2⟩).elim
        · exact j3 t (by omega) h1 h2
theorem i32_max {x : Int32} (h : ¬ x < 2147483647) : x = 2147483647 := by
  have m1 : (2147483647 : Int32).toInt = 2147483647 := by decide
  have h1 := Int32.le_iff_toInt_le.mp (Int32.not_lt.mp h)
  have h2 := Int32.toInt_lt x
  exact Int32.toInt_inj.mp (by rw [m1] at h1 ⊢; omega)
theorem mu_spec {σ : KS} : ∀ n, ((muS σ n).1 = none → (muS σ n).2 = 2147483647 ∧ ∀ t, t < n → kB σ 45 t = true → kI σ 44 t = 2147483647) ∧ ∀ b, (muS σ n).1 = some b → (muS σ n).2 = kI σ 44 b ∧ kB σ 45 b = true ∧ kI σ 44 b < 2147483647 ∧ ∀ t, t < n → kB σ 45 t = true → ¬ kI σ 44 t < kI σ 44 b ∧ (t < b → kI σ 44 b < kI σ 44 t) := by
  intro n
  induction n with
  | zero => exact ⟨fun _ => ⟨rfl, fun t h => absurd h (Nat.not_lt_zero _)⟩, fun b h => by cases h⟩
  | succ n ih =>
    obtain ⟨i1, i2⟩ := ih
    by_cases q : kB σ 45 n = true ∧ kI σ 44 n < (muS σ n).2
    · have e2 : muS σ (n + 1) = (some n, kI σ 44 n) := by
        rw [muS]
        exact if_pos q
      rw [e2]
      refine ⟨fun z => (nomatch z), fun b h => ?_⟩
      cases h
      refine ⟨rfl, q.1, ?_, fun t ht hk => ?_⟩
      · cases e : (muS σ n).1 with
        | none => have := q.2; rw [(i1 e).1] at this; exact this
        | some b => have := q.2; rw [(i2 b e).1] at this; exact Int32.lt_trans this (i2 b e).2.2.1
      · by_cases y : t = n
        · subst y
          exact ⟨Int32.lt_irrefl, fun z => absurd z (Nat.lt_irrefl _)⟩
        · have l : kI σ 44 n < kI σ 44 t := by
            cases e : (muS σ n).1 with
            | none =>
              have := q.2
              rw [(i1 e).1] at this
              rw [(i1 e).2 t (by omega) hk]
              exact this
            | some b =>
              have := q.2
              rw [(i2 b e).1] at this
              exact Int32.lt_of_lt_of_le this (Int32.not_lt.mp ((i2 b e).2.2.2 t (by omega) hk).1)
          exact ⟨fun z => Int32.lt_irrefl (Int32.lt_trans z l), fun _ => l⟩
    · have e2 : muS σ (n + 1) = muS σ n := by
        rw [muS]
        exact if_neg q
      rw [e2]
      refine ⟨fun z => ⟨(i1 z).1, fun t ht hk => ?_⟩, fun b h => ?_⟩
      · by_cases y : t = n
        · subst y
          exact i32_max (fun w => q ⟨hk, by rw [(i1 z).1]; exact w⟩)
        · exact (i1 z).2 t (by omega) hk
      · obtain ⟨j1, j2, j3, j4⟩ := i2 b h
        refine ⟨j1, j2, j3, fun t ht hk => ?_⟩
        by_cases y : t = n
        · subst y
          have := muS_lt h
          exact ⟨fun w => q ⟨hk, by rw [j1]; exact w⟩, fun z => absurd z (by omega)⟩
        · exact j4 t (by omega) hk
/-- who goes before all others is the best at the end -/
theorem pc_win {σ : KS} {N d : Nat} (hd : d < N) (hk : kB σ 45 d = true) (h : ∀ t, t < N → ¬ t = d → kB σ 45 t = true → gbS σ d t = true ∧ gbS σ t d = false) : pcS σ N = some d := by
  have key : ∀ m, m ≤ N → (d < m → pcS σ m = some d) ∧ ∀ b, pcS σ m = some b → kB σ 45 b = true := by
    intro m
    induction m with
    | zero => intro _; exact ⟨fun z => absurd z (Nat.not_lt_zero _), fun b z => by cases z⟩
    | succ m ih =>
      intro hm
      obtain ⟨i1, i2⟩ := ih (by omega)
      by_cases q : d = m
      · have e2 : pcS σ (m + 1) = some m := by
          cases e : pcS σ m with
          | none =>
            rw [pcS, e]
            exact if_pos ⟨by rw [← q]; exact hk, rfl⟩
          | some b =>
            have hb := pcS_lt e
            rw [pcS, e]
            exact if_pos ⟨by rw [← q]; exact hk, by rw [← q]; exact (h b (by omega) (by omega) (i2 b e)).1⟩
        rw [e2]
        exact ⟨fun _ => by rw [q], fun b z => by cases z; rw [← q]; exact hk⟩
      · by_cases r : d < m
        · have e2 : pcS σ (m + 1) = some d := by
            rw [pcS, i1 r]
            refine if_neg (fun z => ?_)
            have z2 : gbS σ m d = true := z.2
            rw [(h m (by omega) (fun y => q y.symm) z.1).2] at z2
            cases z2
          rw [e2]
          exact ⟨fun _ => rfl, fun b z => by cases z; exact hk⟩
        · refine ⟨fun z => absurd z (by omega), fun b z => ?_⟩
          rw [pcS] at z
          rcases ite_or2 z with ⟨w, z2⟩ | ⟨_, z2⟩
          · cases z2
            exact w.1
          · exact i2 b z2
  exact (key N (Nat.le_refl _)).1 hd
theorem pc_none {σ : KS} : ∀ N, (∀ t, t < N → kB σ 45 t = true → False) → pcS σ N = none := by
  intro N
  induction N with
  | zero => intro _; rfl
  | succ N ih =>
    intro h
    rw [pcS]
    exact (if_neg (fun z => h N (Nat.lt_succ_self N) z.1)).trans (ih (fun t ht => h t (by omega)))
