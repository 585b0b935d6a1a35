/-! THE WAY DOWN TAKES WHO GOES BEFORE ALL OTHERS -/
theorem inB_at {σ : KS} {p a : Nat} (h : a = p) : inB σ p a := ⟨0, none, by rw [h]; exact upB_at σ p 0 none⟩
theorem in_br {σ : KS} {p a G : Nat} (hP : ∀ g, g < G → ∀ r, kO σ 20 g = some r → r < g) (ha : a < G) (h : inB σ p a) : a = p ∨ ∃ c g, c < G ∧ kO σ 20 c = some p ∧ inB σ c a ∧ upB σ p g a none = some (some c) := by
  obtain ⟨f, X, hf⟩ := h
  rcases upB_br f a none X hf with ⟨_, h2⟩ | ⟨c, g, Z, h1, h2, h3⟩
  · exact Or.inl h2
  · subst h1
    have := upB_le hP _ _ _ _ ha h3
    exact Or.inr ⟨c, f, by omega, h2, ⟨g, Z, h3⟩, hf⟩
theorem pdL_n {σ : KS} {n p : Nat} (e : lgS σ p (kN σ 62 1) = none) : pdL σ (n + 1) p = ltS σ p (kN σ 62 2) := by rw [pdL, e]
theorem pdL_s {σ : KS} {n p b : Nat} (e : lgS σ p (kN σ 62 1) = some b) (e2 : ltS σ p (kN σ 62 2) = none) : pdL σ (n + 1) p = pdL σ n b := by
  rw [pdL, e]
  show (match ltS σ p (kN σ 62 2) with | none => pdL σ n b | some t => if kW σ 33 t < kW σ 23 b then some t else pdL σ n b) = _
  rw [e2]
theorem pdL_t {σ : KS} {n p b t : Nat} (e : lgS σ p (kN σ 62 1) = some b) (e2 : ltS σ p (kN σ 62 2) = some t) : pdL σ (n + 1) p = if kW σ 33 t < kW σ 23 b then some t else pdL σ n b := by
  rw [pdL, e]
  show (match ltS σ p (kN σ 62 2) with | none => pdL σ n b | some t => if kW σ 33 t < kW σ 23 b then some t else pdL σ n b) = _
  rw [e2]
theorem pd_best {σ : KS} {G N : Nat} (hG : G ≤ 6) (eG : kN σ 62 1 = G) (eN : kN σ 62 2 = N) (hP : ∀ g, g < G → ∀ r, kO σ 20 g = some r → r < g) (h31 : ∀ t, t < N → kN σ 31 t < G) (live : ∀ g, g < G → (kB σ 25 g = true ↔ ∃ t, t < N ∧ kB σ 45 t = true ∧ inB σ g (kN σ 31 t))) : ∀ n p, p < G → G ≤ p + n → (pdL σ n p = none → ∀ t, t < N → kB σ 45 t = true → inB σ p (kN σ 31 t) → False) ∧ ∀ d, pdL σ n p = some d → kB σ 45 d = true ∧ inB σ p (kN σ 31 d) ∧ ∀ t, t < N → ¬ t = d → kB σ 45 t = true → inB σ p (kN σ 31 t) → gtS σ d t = true ∧ gtS σ t d = false := by
  intro n
  induction n with
  | zero =>
    intro p hp hn
    exact absurd hn (by omega)
  | succ n ih =>
    intro p hp hn
    have lv : ∀ t c, t < N → kB σ 45 t = true → c < G → inB σ c (kN σ 31 t) → kB σ 25 c = true := fun t c ht hk hc hi => (live c hc).mpr ⟨t, ht, hk, hi⟩
    obtain ⟨a1, a2⟩ := lg_spec (σ := σ) (p := p) G
    obtain ⟨b1, b2⟩ := ls_spec (σ := σ) (g := p) N
    have own : ∀ t, kN σ 31 t = p → upB σ p 0 (kN σ 31 t) none = some none := fun t h => by rw [h]; exact upB_at σ p 0 none
    cases eb : lgS σ p G with
    | none =>
      have noC : ∀ t, t < N → kB σ 45 t = true → inB σ p (kN σ 31 t) → kN σ 31 t = p := by
        intro t ht hk hi
        rcases in_br hP (h31 t ht) hi with h | ⟨c, g, c1, c2, c3, _⟩
        · exact h
        · exact (a1 eb c c1 (lv t c ht hk c1 c3) c2).elim
      rw [pdL_n (by rw [eG]; exact eb), eN]
      refine ⟨fun z t ht hk hi => b1 z t ht (noC t ht hk hi) hk, fun d z => ?_⟩
      obtain ⟨k1, k2, k3⟩ := b2 d z
      have dN := ltS_lt z
      refine ⟨k2, inB_at k1, fun t ht hne hk hi => ?_⟩
      have h1 := noC t ht hk hi
      obtain ⟨l1, l2⟩ := k3 t ht h1 hk
      rw [gt_eq hP hG (h31 d dN) (h31 t ht) (own d k1) (own t h1) (Or.inr rfl), gt_eq hP hG (h31 t ht) (h31 d dN) (own t h1) (own d k1) (Or.inr rfl)]
      exact gtE_tt l1 l2 hne
    | some b =>
      obtain ⟨k1, k2, k3, k4⟩ := a2 b eb
      have pb := hP b k3 p k2
      obtain ⟨i1, i2⟩ := ih b k3 (by omega)
      have desc : (∀ t, t < N → kN σ 31 t = p → kB σ 45 t = true → ¬ kW σ 33 t < kW σ 23 b) → (pdL σ n b = none → ∀ t, t < N → kB σ 45 t = true → inB σ p (kN σ 31 t) → False) ∧ ∀ d, pdL σ n b = some d → kB σ 45 d = true ∧ inB σ p (kN σ 31 d) ∧ ∀ t, t < N → ¬ t = d → kB σ 45 t = true → inB σ p (kN σ 31 t) → gtS σ d t = true ∧ gtS σ t d = false := by
        intro hT
        refine ⟨fun z => ?_, fun d z => ?_⟩
        · obtain ⟨t, t1, t2, t3⟩ := (live b k3).mp k1
          exact (i1 z t t1 t2 t3).elim
        · obtain ⟨j1, ⟨f, Z, jf⟩, j3⟩ := i2 d z
          have dN : d < N := by
            have := pdL_lt z
            rw [eN] at this
            exact this
          obtain ⟨f', uf⟩ := upB_to hP k2 pb _ _ _ _ (h31 d dN) jf
          refine ⟨j1, ⟨f', some b, uf⟩, fun t ht hne hk hi => ?_⟩
          rcases in_br hP (h31 t ht) hi with h | ⟨c, g, c1, c2, c3, c4⟩
          · rw [gt_eq hP hG (h31 d dN) (h31 t ht) uf (own t h) (Or.inl (fun z => nomatch z)), gt_eq hP hG (h31 t ht) (h31 d dN) (own t h) uf (Or.inr rfl)]
            exact gtE_gt (hT t ht h hk)
          · by_cases w : c = b
            · subst w
              exact j3 t ht hne hk c3
            · rw [gt_eq hP hG (h31 d dN) (h31 t ht) uf c4 (Or.inl (fun z => w (Option.some.inj z).symm)), gt_eq hP hG (h31 t ht) (h31 d dN) c4 uf (Or.inl (fun z => w (Option.some.inj z)))]
              obtain ⟨m1, m2⟩ := k4 c c1 (lv t c ht hk c1 c3) c2
              exact gtE_gg m1 m2 w
      cases et : ltS σ p N with
      | none =>
        rw [pdL_s (by rw [eG]; exact eb) (by rw [eN]; exact et)]
        exact desc (fun t ht h1 hk => (b1 et t ht h1 hk).elim)
      | some t0 =>
        obtain ⟨l1, l2, l3⟩ := b2 t0 et
        have t0N := ltS_lt et
        rw [pdL_t (by rw [eG]; exact eb) (by rw [eN]; exact et)]
        by_cases w : kW σ 33 t0 < kW σ 23 b
        · rw [if_pos w]
          refine ⟨fun z => (nomatch z), fun d z => ?_⟩
          rw [(Option.some.inj z).symm]
          refine ⟨l2, inB_at l1, fun t ht hne hk hi => ?_⟩
          rcases in_br hP (h31 t ht) hi with h | ⟨c, g, c1, c2, c3, c4⟩
          · rw [gt_eq hP hG (h31 t0 t0N) (h31 t ht) (own t0 l1) (own t h) (Or.inr rfl), gt_eq hP hG (h31 t ht) (h31 t0 t0N) (own t h) (own t0 l1) (Or.inr rfl)]
            obtain ⟨m1, m2⟩ := l3 t ht h hk
            exact gtE_tt m1 m2 hne
          · rw [gt_eq hP hG (h31 t0 t0N) (h31 t ht) (own t0 l1) c4 (Or.inr rfl), gt_eq hP hG (h31 t ht) (h31 t0 t0N) c4 (own t0 l1) (Or.inl (fun z => nomatch z))]
            obtain ⟨m1, m2⟩ := k4 c c1 (lv t c ht hk c1 c3) c2
            exact gtE_lt (show kW σ 33 t0 < kW σ 23 c from Int64.lt_of_lt_of_le w (Int64.not_lt.mp m1))
        · rw [if_neg w]
          exact desc (fun t ht h1 hk z => (l3 t ht h1 hk).1 (Int64.lt_of_lt_of_le z (Int64.not_lt.mp w)))
theorem hu_iff {ν : KS} {g : Nat} : ∀ n, huM ν g n = true ↔ ∃ t, t < n ∧ kB ν 32 t = true ∧ iuM ν g 6 (kN ν 10 t) = true := by
  intro n
  induction n with
  | zero => exact ⟨fun h => (by cases h), fun ⟨t, h, _⟩ => absurd h (Nat.not_lt_zero _)⟩
  | succ n ih =>
    rw [huM, Bool.or_eq_true, Bool.and_eq_true, ih]
    constructor
    · rintro (⟨t, h1, h2⟩ | ⟨h1, h2⟩)
      · exact ⟨t, by omega, h2⟩
      · exact ⟨n, Nat.lt_succ_self n, h1, h2⟩
    · rintro ⟨t, h1, h2⟩
      by_cases q : t = n
      · subst q
        exact Or.inr h2
      · exact Or.inl ⟨t, by omega, h2⟩
theorem iu_up {τ ν : KS} {g G : Nat} (h20 : ∀ a, 0 < a → a < G → kO τ 20 a = some (kN ν 6 a)) (h6 : ∀ a, 0 < a → a < G → kN ν 6 a < a) : ∀ f a x, a < G → iuM ν g f a = true → ∃ X, upB τ g f a x = some X := by
  intro f
  induction f with
  | zero =>
    intro a x ha h
    obtain rfl : a = g := of_decide_eq_true h
    exact ⟨x, upB_at τ a 0 x⟩
  | succ f ih =>
    intro a x ha h
    by_cases q : a = g
    · subst q
      exact ⟨x, upB_at τ a (f + 1) x⟩
    · rw [iuM, if_neg q] at h
      by_cases z : a = 0
      · rw [if_pos z] at h
        exact nomatch h
      · rw [if_neg z] at h
        have l := h6 a (by omega) ha
        obtain ⟨X, hX⟩ := ih (kN ν 6 a) (some a) (by omega) h
        exact ⟨X, by rw [upB_up q (h20 a (by omega) ha)]; exact hX⟩
theorem up_iu {τ ν : KS} {g G : Nat} (hp : kO τ 20 0 = none) (h20 : ∀ a, 0 < a → a < G → kO τ 20 a = some (kN ν 6 a)) (h6 : ∀ a, 0 < a → a < G → kN ν 6 a < a) : ∀ F f a x X, a ≤ F → a < G → upB τ g f a x = some X → iuM ν g F a = true := by
  intro F
  induction F with
  | zero =>
    intro f a x X hF ha h
    by_cases q : a = g
    · subst q
      exact iuM_e ν a 0
    · obtain rfl : a = 0 := by omega
      obtain ⟨_, r, _, e2, _⟩ := upB_inv h q
      exact nomatch hp.symm.trans e2
  | succ F ih =>
    intro f a x X hF ha h
    by_cases q : a = g
    · subst q
      exact iuM_e ν a (F + 1)
    · obtain ⟨f', r, _, e2, e3⟩ := upB_inv h q
      by_cases z : a = 0
      · subst z
        exact nomatch hp.symm.trans e2
      · have l := h6 a (by omega) ha
        cases (h20 a (by omega) ha).symm.trans e2
        rw [iuM, if_neg q, if_neg z]
        exact ih f' _ _ _ (by omega) (by omega) e3
theorem gb_u {σ : KS} {u t : Nat} (h0 : kI σ 44 u < 2147483647) (h1 : ¬ kI σ 44 t < kI σ 44 u) (h2 : t < u → kI σ 44 u < kI σ 44 t) (hne : ¬ t = u) : gbS σ u t = true ∧ gbS σ t u = false := by
  unfold gbS
  by_cases q : kI σ 44 u = kI σ 44 t
  · have n1 : ¬ kI σ 44 u = 2147483647 := fun z => by
      rw [z] at h0
      exact absurd h0 (by decide)
    have n2 : ¬ kI σ 44 t = 2147483647 := fun z => n1 (q.trans z)
    have l : u < t := by
      by_cases w : t < u
      · have h3 := h2 w
        rw [q] at h3
        exact absurd h3 Int32.lt_irrefl
      · omega
    rw [if_pos q, if_neg n1, if_pos q.symm, if_neg n2]
    exact ⟨decide_eq_true l, decide_eq_false (by omega)⟩
  · rw [if_neg q, if_neg (fun z => q z.symm)]
    exact ⟨decide_eq_true (i32_lt_of h1 q), decide_eq_false h1⟩
theorem gb_t {σ : KS} {a b : Nat} (ha : kI σ 44 a = 2147483647) (hb : kI σ 44 b = 2147483647) : gbS σ a b = gtS σ a b := by
  unfold gbS
  rw [if_pos (ha.trans hb.symm), if_pos ha]
theorem pc_eq {n : Nat} {τ ν : KS} (R : Rel n τ ν) (hd : dWF ν) (hp : kO τ 20 0 = none) (Q : rQ τ ν) : pcS τ (kN τ 62 2) = chM ν := by
  rw [← pick_eq R hd hp Q]
  obtain ⟨a1, a2, a3, a4, a5, a6, a7, a8, a9⟩ := id R
  obtain ⟨u1, u2⟩ := mu_spec (σ := τ) (kN τ 62 2)
  cases em : (muS τ (kN τ 62 2)).1 with
  | some u =>
    obtain ⟨_, v2, v3, v4⟩ := u2 u em
    have e : pdO τ = some u := by unfold pdO; rw [em]
    rw [e]
    refine pc_win (muS_lt em) v2 (fun t ht hne hk => ?_)
    obtain ⟨w1, w2⟩ := v4 t ht hk
    exact gb_u v3 w1 w2 hne
  | none =>
    obtain ⟨_, v2⟩ := u1 em
    rw [pdO_n em, a2.2.2]
    rw [a2.2.2] at v2
    have h20 : ∀ a, 0 < a → a < kN ν 9 0 → kO τ 20 a = some (kN ν 6 a) := fun a h0 h1 => (a5 a h0 h1).1
    have h6 : ∀ a, 0 < a → a < kN ν 9 0 → kN ν 6 a < a := fun a h0 h1 => hd.2.1 a h0 h1
    obtain ⟨m1, m2⟩ := markS_hu hd a2.2.1 a2.2.2 hp h20 (fun t ht => ⟨(a7 t ht).1.1, (Q t ht).1⟩)
    obtain ⟨f, hf⟩ := m1
    rw [hf] at m2 ⊢
    have hP : ∀ g, g < kN ν 9 0 → ∀ r, kO (sB τ 25 f) 20 g = some r → r < g := by
      intro g hg r hr
      replace hr : kO τ 20 g = some r := hr
      by_cases z : g = 0
      · subst z
        exact nomatch hp.symm.trans hr
      · cases (h20 g (by omega) hg).symm.trans hr
        exact h6 g (by omega) hg
    have h31 : ∀ t, t < kN ν 24 0 → kN (sB τ 25 f) 31 t < kN ν 9 0 := by
      intro t ht
      show kN τ 31 t < _
      rw [(a7 t ht).1.1]
      exact hd.2.2.1 t ht
    have G6 := hd.1.2.2.1
    have inn : ∀ g t, t < kN ν 24 0 → iuM ν g 6 (kN ν 10 t) = true → inB (sB τ 25 f) g (kN (sB τ 25 f) 31 t) := by
      intro g t ht h
      obtain ⟨X, hX⟩ := iu_up (τ := sB τ 25 f) (ν := ν) (G := kN ν 9 0) h20 h6 6 (kN ν 10 t) none (hd.2.2.1 t ht) h
      refine ⟨6, X, ?_⟩
      show upB (sB τ 25 f) g 6 (kN τ 31 t) none = some X
      rw [(a7 t ht).1.1]
      exact hX
    have live : ∀ g, g < kN ν 9 0 → (kB (sB τ 25 f) 25 g = true ↔ ∃ t, t < kN ν 24 0 ∧ kB (sB τ 25 f) 45 t = true ∧ inB (sB τ 25 f) g (kN (sB τ 25 f) 31 t)) := by
      intro g hg
      rw [m2 g hg, hu_iff]
      constructor
      · rintro ⟨t, t1, t2, t3⟩
        exact ⟨t, t1, (Q t t1).1.trans t2, inn g t t1 t3⟩
      · rintro ⟨t, t1, t2, fu, X, t3⟩
        replace t3 : upB (sB τ 25 f) g fu (kN τ 31 t) none = some X := t3
        rw [(a7 t t1).1.1] at t3
        have l := hd.2.2.1 t t1
        exact ⟨t, t1, (Q t t1).1.symm.trans t2, up_iu (τ := sB τ 25 f) (ν := ν) (G := kN ν 9 0) hp h20 h6 6 fu _ _ _ (by omega) l t3⟩
    have root : ∀ t, t < kN ν 24 0 → inB (sB τ 25 f) 0 (kN (sB τ 25 f) 31 t) := by
      intro t ht
      have l := hd.2.2.1 t ht
      exact inn 0 t ht (iu_root hd 6 (kN ν 10 t) (by omega) l)
    obtain ⟨D1, D2⟩ := pd_best (σ := sB τ 25 f) G6 a2.2.1 a2.2.2 hP h31 live 6 0 (by have := hd.1.2.1; omega) (by omega)
    cases ed : pdL (sB τ 25 f) 6 0 with
    | none => exact pc_none _ (fun t ht hk => D1 ed t ht hk (root t ht))
    | some d =>
      obtain ⟨c1, c2, c3⟩ := D2 d ed
      have dN : d < kN ν 24 0 := by
        have := pdL_lt ed
        replace this : d < kN τ 62 2 := this
        rw [a2.2.2] at this
        exact this
      refine pc_win dN c1 (fun t ht hne hk => ?_)
      rw [gb_t (v2 d dN c1) (v2 t ht hk), gb_t (v2 t ht hk) (v2 d dN c1), ← gtS_c (σ := sB τ 25 f) (τ := τ) rfl rfl rfl d t, ← gtS_c (σ := sB τ 25 f) (τ := τ) rfl rfl rfl t d]
      exact c3 t ht hne hk (root t ht)
