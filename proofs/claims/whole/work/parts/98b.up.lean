/-! THE WAYS UP: from a group up to p, with the branch below p -/
def upB (σ : KS) (p : Nat) : Nat → Nat → Option Nat → Option (Option Nat)
  | 0, a, x => if a = p then some x else none
  | f + 1, a, x => if a = p then some x else match kO σ 20 a with
    | none => none
    | some r => upB σ p f r (some a)
def inB (σ : KS) (p a : Nat) : Prop := ∃ f X, upB σ p f a none = some X
theorem upB_at (σ : KS) (p f : Nat) (x : Option Nat) : upB σ p f p x = some x := by
  cases f with
  | zero => exact if_pos rfl
  | succ f => exact if_pos rfl
theorem upB_up {σ : KS} {p f a r : Nat} {x : Option Nat} (h : ¬ a = p) (e : kO σ 20 a = some r) : upB σ p (f + 1) a x = upB σ p f r (some a) := by rw [upB, if_neg h, e]
theorem upB_inv {σ : KS} {p f a : Nat} {x X : Option Nat} (h : upB σ p f a x = some X) (hne : ¬ a = p) : ∃ f' r, f = f' + 1 ∧ kO σ 20 a = some r ∧ upB σ p f' r (some a) = some X := by
  cases f with
  | zero =>
    rw [upB, if_neg hne] at h
    exact nomatch h
  | succ f =>
    cases e : kO σ 20 a with
    | none =>
      rw [upB, if_neg hne, e] at h
      exact nomatch (show (none : Option (Option Nat)) = some X from h)
    | some r =>
      rw [upB_up hne e] at h
      exact ⟨f, r, rfl, rfl, h⟩
theorem upB_le {σ : KS} {p G : Nat} (hP : ∀ g, g < G → ∀ r, kO σ 20 g = some r → r < g) : ∀ f a x X, a < G → upB σ p f a x = some X → p ≤ a := by
  intro f
  induction f with
  | zero =>
    intro a x X ha h
    by_cases q : a = p
    · omega
    · obtain ⟨f', r, e, _⟩ := upB_inv h q
      omega
  | succ f ih =>
    intro a x X ha h
    by_cases q : a = p
    · omega
    · obtain ⟨f', r, e1, e2, e3⟩ := upB_inv h q
      obtain rfl : f = f' := by omega
      have h1 := hP a ha r e2
      have h2 := ih r _ X (by omega) e3
      omega
theorem upB_det {σ : KS} {p : Nat} : ∀ f f' a x X Y, upB σ p f a x = some X → upB σ p f' a x = some Y → X = Y := by
  intro f
  induction f with
  | zero =>
    intro f' a x X Y h h'
    by_cases q : a = p
    · subst q
      rw [upB_at] at h h'
      exact Option.some.inj (h.symm.trans h')
    · obtain ⟨_, _, e, _⟩ := upB_inv h q
      omega
  | succ f ih =>
    intro f' a x X Y h h'
    by_cases q : a = p
    · subst q
      rw [upB_at] at h h'
      exact Option.some.inj (h.symm.trans h')
    · obtain ⟨g1, r1, e1, e2, e3⟩ := upB_inv h q
      obtain ⟨g2, r2, d1, d2, d3⟩ := upB_inv h' q
      obtain rfl : f = g1 := by omega
      cases e2.symm.trans d2
      exact ih _ _ _ _ _ e3 d3
theorem upB_some {σ : KS} {p : Nat} : ∀ f a y X, upB σ p f a (some y) = some X → ∃ c, X = some c := by
  intro f
  induction f with
  | zero =>
    intro a y X h
    by_cases q : a = p
    · subst q
      rw [upB_at] at h
      exact ⟨y, (Option.some.inj h).symm⟩
    · obtain ⟨_, _, e, _⟩ := upB_inv h q
      omega
  | succ f ih =>
    intro a y X h
    by_cases q : a = p
    · subst q
      rw [upB_at] at h
      exact ⟨y, (Option.some.inj h).symm⟩
    · obtain ⟨g1, r1, e1, e2, e3⟩ := upB_inv h q
      obtain rfl : f = g1 := by omega
      exact ih _ _ _ e3
/-- the branch: the thing itself, or a member of p over it -/
theorem upB_br {σ : KS} {p : Nat} : ∀ f a x X, upB σ p f a x = some X → (X = x ∧ a = p) ∨ ∃ c g Z, X = some c ∧ kO σ 20 c = some p ∧ upB σ c g a x = some Z := by
  intro f
  induction f with
  | zero =>
    intro a x X h
    by_cases q : a = p
    · subst q
      rw [upB_at] at h
      exact Or.inl ⟨(Option.some.inj h).symm, rfl⟩
    · obtain ⟨_, _, e, _⟩ := upB_inv h q
      omega
  | succ f ih =>
    intro a x X h
    by_cases q : a = p
    · subst q
      rw [upB_at] at h
      exact Or.inl ⟨(Option.some.inj h).symm, rfl⟩
    · obtain ⟨g1, r1, e1, e2, e3⟩ := upB_inv h q
      obtain rfl : f = g1 := by omega
      rcases ih _ _ _ e3 with ⟨h1, h2⟩ | ⟨c, g, Z, h1, h2, h3⟩
      · subst h2
        exact Or.inr ⟨a, 0, x, h1, e2, upB_at σ a 0 x⟩
      · by_cases w : a = c
        · subst w
          exact Or.inr ⟨a, 0, x, h1, h2, upB_at σ a 0 x⟩
        · exact Or.inr ⟨c, g + 1, Z, h1, h2, by rw [upB_up w e2]; exact h3⟩
/-- a way up to b, a member of p, goes on to p -/
theorem upB_to {σ : KS} {p b G : Nat} (hP : ∀ g, g < G → ∀ r, kO σ 20 g = some r → r < g) (hb : kO σ 20 b = some p) (pb : p < b) : ∀ f a x Z, a < G → upB σ b f a x = some Z → ∃ g, upB σ p g a x = some (some b) := by
  intro f
  induction f with
  | zero =>
    intro a x Z ha h
    by_cases q : a = b
    · subst q
      exact ⟨1, by rw [upB_up (by omega) hb]; exact upB_at σ p 0 (some a)⟩
    · obtain ⟨_, _, e, _⟩ := upB_inv h q
      omega
  | succ f ih =>
    intro a x Z ha h
    by_cases q : a = b
    · subst q
      exact ⟨1, by rw [upB_up (by omega) hb]; exact upB_at σ p 0 (some a)⟩
    · have hle := upB_le hP _ _ _ _ ha h
      obtain ⟨g1, r1, e1, e2, e3⟩ := upB_inv h q
      obtain rfl : f = g1 := by omega
      have h1 := hP a ha r1 e2
      obtain ⟨g, hg⟩ := ih r1 _ _ (by omega) e3
      exact ⟨g + 1, by rw [upB_up (by omega) e2]; exact hg⟩
/-- where two branches differ, comparing finds them -/
theorem gb_of {σ : KS} {p G : Nat} (hP : ∀ g, g < G → ∀ r, kO σ 20 g = some r → r < g) : ∀ n a b x y f1 f2 X Y, a < G → b < G → upB σ p f1 a x = some X → upB σ p f2 b y = some Y → (¬ X = Y ∨ X = none) → a + b < n → gbL σ n (some a) (some b) x y = (X, Y) := by
  intro n
  induction n with
  | zero =>
    intro a b x y f1 f2 X Y ha hb h1 h2 h3 h4
    exact absurd h4 (Nat.not_lt_zero _)
  | succ n ih =>
    intro a b x y f1 f2 X Y ha hb h1 h2 h3 h4
    by_cases q : a = b
    · subst q
      rw [gbL_e]
      by_cases w : a = p
      · subst w
        rw [upB_at] at h1 h2
        cases h1
        cases h2
        rfl
      · obtain ⟨g1, r1, e1, e2, e3⟩ := upB_inv h1 w
        obtain ⟨g2, r2, d1, d2, d3⟩ := upB_inv h2 w
        cases e2.symm.trans d2
        have hXY := upB_det _ _ _ _ _ _ e3 d3
        obtain ⟨c, hc⟩ := upB_some _ _ _ _ e3
        rcases h3 with h | h
        · exact absurd hXY h
        · exact nomatch h.symm.trans hc
    · by_cases w : b < a
      · have pb := upB_le hP _ _ _ _ hb h2
        obtain ⟨g1, r1, e1, e2, e3⟩ := upB_inv h1 (by omega)
        have l := hP a ha r1 e2
        rw [gbL, if_neg q, if_pos w, e2]
        exact ih r1 b (some a) y g1 f2 X Y (by omega) hb e3 h2 h3 (by omega)
      · have pa := upB_le hP _ _ _ _ ha h1
        obtain ⟨g1, r1, e1, e2, e3⟩ := upB_inv h2 (by omega)
        have l := hP b hb r1 e2
        rw [gbL, if_neg q, if_neg w, e2]
        exact ih a r1 x (some b) f1 g1 X Y ha (by omega) h1 e3 h3 (by omega)
theorem gt_eq {σ : KS} {p G : Nat} (hP : ∀ g, g < G → ∀ r, kO σ 20 g = some r → r < g) (hG : G ≤ 6) {d t f1 f2 : Nat} {X Y : Option Nat} (hd : kN σ 31 d < G) (ht : kN σ 31 t < G) (h1 : upB σ p f1 (kN σ 31 d) none = some X) (h2 : upB σ p f2 (kN σ 31 t) none = some Y) (h3 : ¬ X = Y ∨ X = none) : gtS σ d t = gtE σ d t X Y := by
  have e : gtR σ d t = (X, Y) := gb_of hP 12 _ _ _ _ _ _ _ _ hd ht h1 h2 h3 (by omega)
  unfold gtS
  rw [e]
theorem gtE_lt {σ : KS} {a b : Nat} {x y : Option Nat} (h : tmS σ a x < tmS σ b y) : gtE σ a b x y = true ∧ gtE σ b a y x = false := by
  have ne : ¬ tmS σ a x = tmS σ b y := fun z => by
    rw [z] at h
    exact Int64.lt_irrefl h
  unfold gtE
  rw [if_neg ne, if_neg (fun z => ne z.symm)]
  exact ⟨decide_eq_true h, decide_eq_false (fun z => Int64.lt_irrefl (Int64.lt_trans z h))⟩
theorem gtE_tt {σ : KS} {d t : Nat} (h1 : ¬ kW σ 33 t < kW σ 33 d) (h2 : t < d → kW σ 33 d < kW σ 33 t) (hne : ¬ t = d) : gtE σ d t none none = true ∧ gtE σ t d none none = false := by
  by_cases q : kW σ 33 d = kW σ 33 t
  · have l : d < t := by
      by_cases w : t < d
      · have h3 := h2 w
        rw [q] at h3
        exact absurd h3 Int64.lt_irrefl
      · omega
    unfold gtE
    rw [if_pos (show tmS σ d none = tmS σ t none from q), if_pos (show tmS σ t none = tmS σ d none from q.symm)]
    exact ⟨decide_eq_true l, decide_eq_false (by omega)⟩
  · exact gtE_lt (show kW σ 33 d < kW σ 33 t from i64_lt_of h1 q)
theorem gtE_gg {σ : KS} {d t b c : Nat} (h1 : ¬ kW σ 23 c < kW σ 23 b) (h2 : c < b → kW σ 23 b < kW σ 23 c) (hne : ¬ c = b) : gtE σ d t (some b) (some c) = true ∧ gtE σ t d (some c) (some b) = false := by
  by_cases q : kW σ 23 b = kW σ 23 c
  · have l : b < c := by
      by_cases w : c < b
      · have h3 := h2 w
        rw [q] at h3
        exact absurd h3 Int64.lt_irrefl
      · omega
    unfold gtE
    rw [if_pos (show tmS σ d (some b) = tmS σ t (some c) from q), if_pos (show tmS σ t (some c) = tmS σ d (some b) from q.symm)]
    exact ⟨decide_eq_true l, decide_eq_false (by omega)⟩
  · exact gtE_lt (show kW σ 23 b < kW σ 23 c from i64_lt_of h1 q)
theorem gtE_gt {σ : KS} {d t b : Nat} (h : ¬ kW σ 33 t < kW σ 23 b) : gtE σ d t (some b) none = true ∧ gtE σ t d none (some b) = false := by
  by_cases q : kW σ 23 b = kW σ 33 t
  · unfold gtE
    rw [if_pos (show tmS σ d (some b) = tmS σ t none from q), if_pos (show tmS σ t none = tmS σ d (some b) from q.symm)]
    exact ⟨rfl, rfl⟩
  · exact gtE_lt (show kW σ 23 b < kW σ 33 t from i64_lt_of h q)
theorem gbL_c {σ τ : KS} (h : kO σ 20 = kO τ 20) : ∀ n a b x y, gbL σ n a b x y = gbL τ n a b x y := by
  intro n
  induction n with
  | zero => intro a b x y; rfl
  | succ n ih =>
    intro a b x y
    cases a with
    | none => rw [gbL_n1, gbL_n1]
    | some a =>
      cases b with
      | none => rw [gbL_n2, gbL_n2]
      | some b =>
        rw [gbL, gbL, h]
        by_cases q : a = b
        · rw [if_pos q, if_pos q]
        · rw [if_neg q, if_neg q]
          by_cases w : b < a
          · rw [if_pos w, if_pos w]; exact ih _ _ _ _
          · rw [if_neg w, if_neg w]; exact ih _ _ _ _
theorem gtS_c {σ τ : KS} (h20 : kO σ 20 = kO τ 20) (h31 : kN σ 31 = kN τ 31) (hW : kW σ = kW τ) (a b : Nat) : gtS σ a b = gtS τ a b := by
  have e : gtR σ a b = gtR τ a b := by
    unfold gtR
    rw [h31]
    exact gbL_c h20 _ _ _ _ _
  have m : ∀ t x, tmS σ t x = tmS τ t x := by
    intro t x
    unfold tmS
    rw [hW]
  unfold gtS
  rw [e]
  unfold gtE
  rw [m, m]
