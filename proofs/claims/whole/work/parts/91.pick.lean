/-! CHOOSING, side by side: marks of the ready, and urgencies -/
def rQ (τ ν : KS) : Prop := ∀ t, t < kN ν 24 0 → kB τ 45 t = kB ν 32 t ∧ ((kI τ 44 t = 2147483647 ∧ kI ν 31 t = 1000000) ∨ (kI τ 44 t = kI ν 31 t ∧ 0 < (kI ν 31 t).toInt ∧ (kI ν 31 t).toInt ≤ 960))
theorem mu_eq {τ ν : KS} (Q : rQ τ ν) : ∀ m, m ≤ kN ν 24 0 → (muS τ m).1 = cuM ν m ∧ ((cuM ν m = none ∧ (muS τ m).2 = 2147483647) ∨ ∃ u, cuM ν m = some u ∧ u < m ∧ (muS τ m).2 = kI ν 31 u ∧ 0 < (kI ν 31 u).toInt ∧ (kI ν 31 u).toInt ≤ 960) := by
  have m1 : (2147483647 : Int32).toInt = 2147483647 := by decide
  have m2 : (1000000 : Int32).toInt = 1000000 := by decide
  intro m
  induction m with
  | zero => intro _; exact ⟨rfl, Or.inl ⟨rfl, rfl⟩⟩
  | succ m ih =>
    intro hm
    obtain ⟨i1, i2⟩ := ih (by omega)
    obtain ⟨q1, q2⟩ := Q m (by omega)
    rw [muS, cuM, q1]
    by_cases r : kB ν 32 m = true
    · rcases i2 with ⟨c1, c2⟩ | ⟨u, c1, c2, c3, c4, c5⟩
      · rw [c1, c2]
        rcases q2 with ⟨x1, x2⟩ | ⟨x1, x2, x3⟩
        · rw [if_neg (show ¬ (kB ν 32 m = true ∧ kI τ 44 m < 2147483647) from fun z => by rw [x1] at z; exact absurd z.2 (by decide)), if_neg (show ¬ (kB ν 32 m = true ∧ kI ν 31 m < 1000000 ∧ (match (none : Option Nat) with | none => true | some u => decide (kI ν 31 m < kI ν 31 u)) = true) from fun z => by rw [x2] at z; exact absurd z.2.1 (by decide)), i1, c1]
          exact ⟨rfl, Or.inl ⟨rfl, c2⟩⟩
        · have y1 : kI τ 44 m < 2147483647 := by rw [x1]; exact Int32.lt_iff_toInt_lt.mpr (by rw [m1]; omega)
          have y2 : kI ν 31 m < 1000000 := Int32.lt_iff_toInt_lt.mpr (by rw [m2]; omega)
          rw [if_pos (show kB ν 32 m = true ∧ kI τ 44 m < 2147483647 from ⟨r, y1⟩), if_pos (show kB ν 32 m = true ∧ kI ν 31 m < 1000000 ∧ (match (none : Option Nat) with | none => true | some u => decide (kI ν 31 m < kI ν 31 u)) = true from ⟨r, y2, rfl⟩)]
          exact ⟨rfl, Or.inr ⟨m, rfl, by omega, x1, x2, x3⟩⟩
      · rw [c1, c3]
        rcases q2 with ⟨x1, x2⟩ | ⟨x1, x2, x3⟩
        · rw [if_neg (show ¬ (kB ν 32 m = true ∧ kI τ 44 m < kI ν 31 u) from fun z => by have := Int32.lt_iff_toInt_lt.mp z.2; rw [x1, m1] at this; omega), if_neg (show ¬ (kB ν 32 m = true ∧ kI ν 31 m < 1000000 ∧ (match some u with | none => true | some u => decide (kI ν 31 m < kI ν 31 u)) = true) from fun z => by rw [x2] at z; exact absurd z.2.1 (by decide)), i1, c1]
          exact ⟨rfl, Or.inr ⟨u, rfl, by omega, c3, c4, c5⟩⟩
        · have y2 : kI ν 31 m < 1000000 := Int32.lt_iff_toInt_lt.mpr (by rw [m2]; omega)
          rw [x1]
          by_cases w : kI ν 31 m < kI ν 31 u
          · rw [if_pos (show kB ν 32 m = true ∧ kI ν 31 m < kI ν 31 u from ⟨r, w⟩), if_pos (show kB ν 32 m = true ∧ kI ν 31 m < 1000000 ∧ (match some u with | none => true | some u => decide (kI ν 31 m < kI ν 31 u)) = true from ⟨r, y2, decide_eq_true w⟩)]
            exact ⟨rfl, Or.inr ⟨m, rfl, by omega, rfl, x2, x3⟩⟩
          · rw [if_neg (show ¬ (kB ν 32 m = true ∧ kI ν 31 m < kI ν 31 u) from fun z => w z.2), if_neg (show ¬ (kB ν 32 m = true ∧ kI ν 31 m < 1000000 ∧ (match some u with | none => true | some u => decide (kI ν 31 m < kI ν 31 u)) = true) from fun z => w (of_decide_eq_true z.2.2)), i1, c1]
            exact ⟨rfl, Or.inr ⟨u, rfl, by omega, c3, c4, c5⟩⟩
    · rw [if_neg (fun z => r z.1), if_neg (fun z => r z.1)]
      refine ⟨i1, ?_⟩
      rcases i2 with i2 | ⟨u, c1, c2, c3⟩
      · exact Or.inl i2
      · exact Or.inr ⟨u, c1, by omega, c3⟩
/-- groups that have a ready task under them, in the order of their times -/
theorem lg_eq {τ ν : KS} {p : Nat} (hp : kO τ 20 0 = none) (h20 : ∀ g, 0 < g → g < kN ν 9 0 → kO τ 20 g = some (kN ν 6 g) ∧ kW τ 23 g = kW ν 8 g ∧ 0 ≤ (kW ν 8 g).toInt) (hl : ∀ g, 0 < g → g < kN ν 9 0 → kB τ 25 g = huM ν g (kN ν 24 0)) : ∀ j, j + 1 ≤ kN ν 9 0 → dnG ν p j = (match lgS τ p (j + 1) with | none => (-1, none) | some b => (kW ν 8 b, some (100 + b))) ∧ ∀ b, lgS τ p (j + 1) = some b → 0 < b ∧ b ≤ j := by
  intro j
  induction j with
  | zero =>
    intro _
    have e : lgS τ p 1 = none := by
      rw [lgS, if_neg (show ¬ (kB τ 25 0 = true ∧ kO τ 20 0 = some p ∧ _) from fun z => by rw [hp] at z; exact nomatch z.2.1)]
      rfl
    rw [e]
    exact ⟨rfl, fun b h => nomatch h⟩
  | succ j ih =>
    intro hj
    obtain ⟨i1, i2⟩ := ih (by omega)
    obtain ⟨g1, g2, g3⟩ := h20 (j + 1) (by omega) (by omega)
    have e0 : (0 : Int64).toInt = 0 := by decide
    rw [dnG, lgS, hl (j + 1) (by omega) (by omega), g1, g2]
    cases e : lgS τ p (j + 1) with
    | none =>
      rw [e] at i1
      rw [i1]
      by_cases q : huM ν (j + 1) (kN ν 24 0) = true ∧ kN ν 6 (j + 1) = p
      · rw [if_pos (show kN ν 6 (j + 1) = p ∧ huM ν (j + 1) (kN ν 24 0) = true ∧ ((-1 : Int64) < 0 ∨ kW ν 8 (j + 1) < -1) from ⟨q.2, q.1, Or.inl (by decide)⟩), if_pos (show huM ν (j + 1) (kN ν 24 0) = true ∧ some (kN ν 6 (j + 1)) = some p ∧ true = true from ⟨q.1, by rw [q.2], rfl⟩)]
        exact ⟨rfl, fun b h => by cases h; omega⟩
      · rw [if_neg (show ¬ (kN ν 6 (j + 1) = p ∧ huM ν (j + 1) (kN ν 24 0) = true ∧ ((-1 : Int64) < 0 ∨ kW ν 8 (j + 1) < -1)) from fun z => q ⟨z.2.1, z.1⟩), if_neg (show ¬ (huM ν (j + 1) (kN ν 24 0) = true ∧ some (kN ν 6 (j + 1)) = some p ∧ true = true) from fun z => q ⟨z.1, Option.some.inj z.2.1⟩)]
        exact ⟨rfl, fun b h => nomatch h⟩
    | some b =>
      rw [e] at i1
      obtain ⟨b0, b1⟩ := i2 b e
      obtain ⟨_, k2, k3⟩ := h20 b b0 (by omega)
      have nb : ¬ (kW ν 8 b < 0) := fun z => by
        have := Int64.lt_iff_toInt_lt.mp z
        rw [e0] at this
        omega
      rw [i1]
      dsimp only
      by_cases q : huM ν (j + 1) (kN ν 24 0) = true ∧ kN ν 6 (j + 1) = p ∧ kW ν 8 (j + 1) < kW ν 8 b
      · rw [if_pos (show kN ν 6 (j + 1) = p ∧ huM ν (j + 1) (kN ν 24 0) = true ∧ (kW ν 8 b < 0 ∨ kW ν 8 (j + 1) < kW ν 8 b) from ⟨q.2.1, q.1, Or.inr q.2.2⟩), if_pos (show huM ν (j + 1) (kN ν 24 0) = true ∧ some (kN ν 6 (j + 1)) = some p ∧ decide (kW ν 8 (j + 1) < kW τ 23 b) = true from ⟨q.1, by rw [q.2.1], by rw [k2]; exact decide_eq_true q.2.2⟩)]
        exact ⟨rfl, fun c h => by cases h; omega⟩
      · rw [if_neg (show ¬ (kN ν 6 (j + 1) = p ∧ huM ν (j + 1) (kN ν 24 0) = true ∧ (kW ν 8 b < 0 ∨ kW ν 8 (j + 1) < kW ν 8 b)) from fun z => z.2.2.elim nb (fun y => q ⟨z.2.1, z.1, y⟩)), if_neg (show ¬ (huM ν (j + 1) (kN ν 24 0) = true ∧ some (kN ν 6 (j + 1)) = some p ∧ decide (kW ν 8 (j + 1) < kW τ 23 b) = true) from fun z => q ⟨z.1, Option.some.inj z.2.1, of_decide_eq_true (by have y := z.2.2; rw [k2] at y; exact y)⟩)]
        exact ⟨rfl, fun c h => by cases h; omega⟩
/-- the least: a group b, or a task t that is less still -/
def dnV (ν : KS) (b L : Option Nat) : Int64 × Option Nat := match b, L with
  | none, none => (-1, none)
  | none, some t => (kW ν 12 t, some t)
  | some c, none => (kW ν 8 c, some (100 + c))
  | some c, some t => if kW ν 12 t < kW ν 8 c then (kW ν 12 t, some t) else (kW ν 8 c, some (100 + c))
theorem dnV_p {ν : KS} {c t : Nat} (w : kW ν 12 t < kW ν 8 c) : dnV ν (some c) (some t) = (kW ν 12 t, some t) := if_pos w
theorem dnV_n {ν : KS} {c t : Nat} (w : ¬ kW ν 12 t < kW ν 8 c) : dnV ν (some c) (some t) = (kW ν 8 c, some (100 + c)) := if_neg w
theorem dnT_in {ν : KS} {p m : Nat} {x : Int64} {o : Option Nat} (e : dnT ν p m = (x, o)) (h : kB ν 32 m = true ∧ kN ν 10 m = p ∧ (x < 0 ∨ kW ν 12 m < x)) : dnT ν p (m + 1) = (kW ν 12 m, some m) := by
  rw [dnT, e]
  exact if_pos h
theorem dnT_out {ν : KS} {p m : Nat} {x : Int64} {o : Option Nat} (e : dnT ν p m = (x, o)) (h : ¬ (kB ν 32 m = true ∧ kN ν 10 m = p ∧ (x < 0 ∨ kW ν 12 m < x))) : dnT ν p (m + 1) = (x, o) := by
  rw [dnT, e]
  exact if_neg h
theorem lt_eq {τ ν : KS} {p : Nat} (h31 : ∀ t, t < kN ν 24 0 → kN τ 31 t = kN ν 10 t ∧ kW τ 33 t = kW ν 12 t ∧ 0 ≤ (kW ν 12 t).toInt ∧ kB τ 45 t = kB ν 32 t) (b : Option Nat) (hb : dnG ν p (kN ν 9 0 - 1) = dnV ν b none) (hb0 : ∀ c, b = some c → 0 ≤ (kW ν 8 c).toInt) : ∀ m, m ≤ kN ν 24 0 → dnT ν p m = dnV ν b (ltS τ p m) := by
  have e0 : (0 : Int64).toInt = 0 := by decide
  have nn : ∀ x : Int64, 0 ≤ x.toInt → ¬ (x < 0) := fun x h z => by
    have := Int64.lt_iff_toInt_lt.mp z
    rw [e0] at this
    omega
  intro m
  induction m with
  | zero => intro _; exact hb
  | succ m ih =>
    intro hm
    have i1 := ih (by omega)
    obtain ⟨g1, g2, g3, g4⟩ := h31 m (by omega)
    rw [ltS, g1, g2, g4]
    by_cases q : kB ν 32 m = true ∧ kN ν 10 m = p
    · cases e : ltS τ p m with
      | none =>
        rw [e] at i1
        rw [if_pos (show kN ν 10 m = p ∧ kB ν 32 m = true ∧ true = true from ⟨q.2, q.1, rfl⟩)]
        cases b with
        | none => exact dnT_in (x := -1) (o := none) i1 ⟨q.1, q.2, Or.inl (by decide)⟩
        | some c =>
          by_cases w : kW ν 12 m < kW ν 8 c
          · rw [dnV_p w]
            exact dnT_in (x := kW ν 8 c) (o := some (100 + c)) i1 ⟨q.1, q.2, Or.inr w⟩
          · rw [dnV_n w]
            exact dnT_out (x := kW ν 8 c) (o := some (100 + c)) i1 (fun z => z.2.2.elim (nn _ (hb0 c rfl)) w)
      | some t =>
        rw [e] at i1
        have ht := ltS_lt e
        obtain ⟨_, k2, k3, _⟩ := h31 t (by omega)
        dsimp only
        by_cases v : kW ν 12 m < kW ν 12 t
        · rw [if_pos (show kN ν 10 m = p ∧ kB ν 32 m = true ∧ decide (kW ν 12 m < kW τ 33 t) = true from ⟨q.2, q.1, by rw [k2]; exact decide_eq_true v⟩)]
          cases b with
          | none => exact dnT_in (x := kW ν 12 t) (o := some t) i1 ⟨q.1, q.2, Or.inr v⟩
          | some c =>
            by_cases w : kW ν 12 t < kW ν 8 c
            · rw [dnV_p (Int64.lt_trans v w)]
              rw [dnV_p w] at i1
              exact dnT_in i1 ⟨q.1, q.2, Or.inr v⟩
            · rw [dnV_n w] at i1
              by_cases y : kW ν 12 m < kW ν 8 c
              · rw [dnV_p y]
                exact dnT_in i1 ⟨q.1, q.2, Or.inr y⟩
              · rw [dnV_n y]
                exact dnT_out i1 (fun z => z.2.2.elim (nn _ (hb0 c rfl)) y)
        · rw [if_neg (show ¬ (kN ν 10 m = p ∧ kB ν 32 m = true ∧ decide (kW ν 12 m < kW τ 33 t) = true) from fun z => v (of_decide_eq_true (by have y := z.2.2; rw [k2] at y; exact y)))]
          cases b with
          | none => exact dnT_out (x := kW ν 12 t) (o := some t) i1 (fun z => z.2.2.elim (nn _ k3) v)
          | some c =>
            by_cases w : kW ν 12 t < kW ν 8 c
            · rw [dnV_p w] at i1 ⊢
              exact dnT_out i1 (fun z => z.2.2.elim (nn _ k3) v)
            · rw [dnV_n w] at i1 ⊢
              exact dnT_out i1 (fun z => z.2.2.elim (nn _ (hb0 c rfl)) (fun y => v (Int64.lt_of_lt_of_le y (Int64.not_lt.mp w))))
    · rw [if_neg (show ¬ (kN ν 10 m = p ∧ kB ν 32 m = true ∧ _) from fun z => q ⟨z.2.1, z.1⟩)]
      cases hx : dnV ν b (ltS τ p m) with
      | mk x o =>
        rw [hx] at i1
        exact dnT_out i1 (fun z => q ⟨z.1, z.2.1⟩)
