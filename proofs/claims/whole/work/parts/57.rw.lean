/-! A ROW OF CELLS: what lies where, all apart -/
def RW (P : Nat → Prop) (h0 : mH) (ws : List (Nat × va_E)) (h : mH) : Prop := (∀ (k : Nat) (x : Nat × va_E), ws[k]? = some x → h x.1 = some x.2 ∧ P x.1) ∧ (∀ (j k : Nat) (x y : Nat × va_E), ws[j]? = some x → ws[k]? = some y → x.1 = y.1 → j = k) ∧ (∀ a, ¬ P a → h a = h0 a) ∧ ∀ a, h0 a = none → P a
section RWS
variable {P : Nat → Prop} {h0 h : mH} {ws : List (Nat × va_E)}
theorem RW.at (hR : RW P h0 ws h) (k : Nat) {a : Nat} {e : va_E} (hk : ws[k]? = some (a, e)) : h a = some e := (hR.1 k _ hk).1
theorem RW.own (hR : RW P h0 ws h) {a : Nat} (ha : h a = none) : P a := by
  by_cases q : P a
  · exact q
  · exact hR.2.2.2 a (by rw [← hR.2.2.1 a q]; exact ha)
theorem RW.set (hR : RW P h0 ws h) (k : Nat) {a : Nat} {e0 e1 : va_E} (hk : ws[k]? = some (a, e0)) : RW P h0 (ws.set k (a, e1)) (mu h a e1) := by
  have hl := (List.getElem?_eq_some_iff.mp hk).1
  have adr : ∀ (j : Nat) (x : Nat × va_E), (ws.set k (a, e1))[j]? = some x → ∃ y : Nat × va_E, ws[j]? = some y ∧ y.1 = x.1 ∧ (j ≠ k → y = x) := by
    intro j x hj
    by_cases q : j = k
    · subst q
      rw [List.getElem?_set_self hl] at hj
      cases hj
      exact ⟨_, hk, rfl, fun z => absurd rfl z⟩
    · rw [List.getElem?_set_ne (Ne.symm q)] at hj
      exact ⟨x, hj, rfl, fun _ => rfl⟩
  refine ⟨fun j x hj => ?_, fun j i x y hj hi e => ?_, fun b hb => ?_, hR.2.2.2⟩
  · obtain ⟨y, h1, h2, h3⟩ := adr j x hj
    refine ⟨?_, by rw [← h2]; exact (hR.1 j y h1).2⟩
    by_cases q : j = k
    · subst q
      rw [List.getElem?_set_self hl] at hj
      cases hj
      exact mu_s _ _ _
    · have n : x.1 ≠ a := fun z => q (hR.2.1 j k y (a, e0) h1 hk (h2.trans z))
      rw [mu_n n, ← h3 q]
      exact (hR.1 j y h1).1
  · obtain ⟨y1, a1, a2, _⟩ := adr j x hj
    obtain ⟨y2, b1, b2, _⟩ := adr i y hi
    exact hR.2.1 j i y1 y2 a1 b1 (by rw [a2, b2, e])
  · rw [mu_n (fun z => hb (by rw [z]; exact (hR.1 k _ hk).2))]
    exact hR.2.2.1 b hb
theorem RW.new (hR : RW P h0 ws h) {q : Nat} (hq : h q = none) (e : va_E) : RW P h0 (ws ++ [(q, e)]) (mu h q e) := by
  have hn : ∀ (j : Nat) (x : Nat × va_E), ws[j]? = some x → x.1 ≠ q := fun j x hj z => by
    have := (hR.1 j x hj).1
    rw [z, hq] at this
    cases this
  have sp : ∀ (j : Nat) (x : Nat × va_E), (ws ++ [(q, e)])[j]? = some x → (ws[j]? = some x) ∨ (j = ws.length ∧ x = (q, e)) := by
    intro j x hj
    by_cases z : j < ws.length
    · rw [List.getElem?_append_left z] at hj
      exact Or.inl hj
    · rw [List.getElem?_append_right (by omega)] at hj
      have h1 := (List.getElem?_eq_some_iff.mp hj).1
      simp only [List.length_singleton] at h1
      have h2 : j = ws.length := by omega
      subst h2
      rw [Nat.sub_self] at hj
      cases hj
      exact Or.inr ⟨rfl, rfl⟩
  refine ⟨fun j x hj => ?_, fun j i x y hj hi ex => ?_, fun b hb => ?_, hR.2.2.2⟩
  · rcases sp j x hj with h1 | ⟨_, rfl⟩
    · rw [mu_n (hn j x h1)]
      exact hR.1 j x h1
    · exact ⟨mu_s _ _ _, hR.own hq⟩
  · rcases sp j x hj with h1 | ⟨h1, rfl⟩
    · rcases sp i y hi with h2 | ⟨h2, rfl⟩
      · exact hR.2.1 j i x y h1 h2 ex
      · exact absurd ex (hn j x h1)
    · rcases sp i y hi with h2 | ⟨h2, rfl⟩
      · exact absurd ex.symm (hn i y h2)
      · omega
  · rw [mu_n (fun z => hb (by rw [z]; exact hR.own hq))]
    exact hR.2.2.1 b hb
theorem RW.fr (hR : RW P h0 ws h) {q : Nat} (hq : h q = none) {k a : Nat} {e0 e : va_E} (hk : ws[k]? = some (a, e0)) : mu h a e q = none := by
  rw [mu_n]
  · exact hq
  · intro z
    have := hR.at k hk
    rw [← z, hq] at this
    cases this
theorem RW.one {q : Nat} {e : va_E} (hq : h q = some e) (hP : P q) (h1 : ∀ a, ¬ P a → h a = h0 a) (h2 : ∀ a, h0 a = none → P a) : RW P h0 [(q, e)] h := by
  have z : ∀ (k : Nat) (x : Nat × va_E), [(q, e)][k]? = some x → k = 0 ∧ x = (q, e) := by
    intro k x hk
    have := (List.getElem?_eq_some_iff.mp hk).1
    simp only [List.length_singleton] at this
    obtain rfl : k = 0 := by omega
    cases hk
    exact ⟨rfl, rfl⟩
  refine ⟨fun k x hk => ?_, fun j k x y hj hk _ => ?_, h1, h2⟩
  · obtain ⟨_, rfl⟩ := z k x hk
    exact ⟨hq, hP⟩
  · have a := (z j x hj).1
    have b := (z k y hk).1
    omega
end RWS
/-- the system's state at its beginning -/
def init0 : KS := (fun f j => if f = 0 then 50 else if f = 1 then 12 else if f = 60 then (if j = 1 then (0 + 1) else if j = 3 then ((((0 + 1) + 1) + 1) + 1) else 0) else 0, fun _ _ => 0, fun f j => if f = 61 then (if j = 1 then 10 else if j = 3 then 10 else 0) else if f = 62 then (if j = 1 then (0 + 1) else if j = 3 then ((((0 + 1) + 1) + 1) + 1) else 0) else 0, fun _ _ => none, fun _ _ => false, fun _ => [])
theorem init0_wf : cWF init0 := by
  refine ⟨by decide, by decide, fun l hl => ⟨?_, fun x hx => nomatch hx⟩, fun i hi => absurd hi (Nat.not_lt_zero _), ⟨rfl, fun g h0 h1 => ?_⟩, fun t ht => absurd ht (Nat.not_lt_zero _), fun t ht => absurd ht (Nat.not_lt_zero _), fun t ht => absurd ht (Nat.not_lt_zero _), fun l hl t h => nomatch h⟩
  · rcases (by omega : l = 0 ∨ l = 1 ∨ l = 2 ∨ l = 3) with rfl | rfl | rfl | rfl <;> rfl
  · exfalso
    have : kN init0 62 1 = 1 := rfl
    omega
set_option maxRecDepth 100000 in
set_option maxHeartbeats 4000000 in
theorem CRep.start {cs : mC} {df : Nat} {P : Nat → Prop} {h0 h1 : mH} {q q5 q16 q27 q38 q49 q52_7_7_20_103 q118 q5_122 q52_7_7_20_125 q118_ q5_122_ q118__ q5_122__ q118___ q5_122___ : Nat} (hR : RW P h0 [(q, (.inr (7, [.ref q5, .ref q16, .ref q27, .ref q38, .ref q49, .int 50, .int 12, .int 0, .int 0, .int 0, .int 0]))), (q5, (.inr (2, [.int 0, .ref df, .int 0]))), (q16, (.inr (2, [.int (0 + 1), .ref q52_7_7_20_103, .int (nI (0 + 1))]))), (q27, (.inr (2, [.int 0, .ref df, .int 0]))), (q38, (.inr (2, [.int ((((0 + 1) + 1) + 1) + 1), .ref q52_7_7_20_125, .int (nI ((((0 + 1) + 1) + 1) + 1))]))), (q49, (.inr (4, [.int 0, .null, .int 0, .long 0, .int 0, .int 0]))), (q52_7_7_20_103, (.inl (cs.2.2.2.2.1, 10, .inr (.inr (.inr (.inr (va_up (fun _ => none) 0 (some q49)))))))), (q118, (.inr (5, [.null, .ref q5_122]))), (q5_122, (.inr (2, [.int 0, .ref df, .int 0]))), (q52_7_7_20_125, (.inl (cs.2.2.2.2.1, 10, .inr (.inr (.inr (.inr (va_up (va_up (va_up (va_up (fun _ => none) 0 (some q118)) (0 + 1) (some q118_)) ((0 + 1) + 1) (some q118__)) (((0 + 1) + 1) + 1) (some q118___)))))))), (q118_, (.inr (5, [.null, .ref q5_122_]))), (q5_122_, (.inr (2, [.int 0, .ref df, .int 0]))), (q118__, (.inr (5, [.null, .ref q5_122__]))), (q5_122__, (.inr (2, [.int 0, .ref df, .int 0]))), (q118___, (.inr (5, [.null, .ref q5_122___]))), (q5_122___, (.inr (2, [.int 0, .ref df, .int 0])))] h1) : ∃ L : KL, L 0 0 = q ∧ CRep cs df P h0 L init0 h1 := by
  have key : ∀ k i, cOk init0 k i → [(q, (.inr (7, [.ref q5, .ref q16, .ref q27, .ref q38, .ref q49, .int 50, .int 12, .int 0, .int 0, .int 0, .int 0]))), (q5, (.inr (2, [.int 0, .ref df, .int 0]))), (q16, (.inr (2, [.int (0 + 1), .ref q52_7_7_20_103, .int (nI (0 + 1))]))), (q27, (.inr (2, [.int 0, .ref df, .int 0]))), (q38, (.inr (2, [.int ((((0 + 1) + 1) + 1) + 1), .ref q52_7_7_20_125, .int (nI ((((0 + 1) + 1) + 1) + 1))]))), (q49, (.inr (4, [.int 0, .null, .int 0, .long 0, .int 0, .int 0]))), (q52_7_7_20_103, (.inl (cs.2.2.2.2.1, 10, .inr (.inr (.inr (.inr (va_up (fun _ => none) 0 (some q49)))))))), (q118, (.inr (5, [.null, .ref q5_122]))), (q5_122, (.inr (2, [.int 0, .ref df, .int 0]))), (q52_7_7_20_125, (.inl (cs.2.2.2.2.1, 10, .inr (.inr (.inr (.inr (va_up (va_up (va_up (va_up (fun _ => none) 0 (some q118)) (0 + 1) (some q118_)) ((0 + 1) + 1) (some q118__)) (((0 + 1) + 1) + 1) (some q118___)))))))), (q118_, (.inr (5, [.null, .ref q5_122_]))), (q5_122_, (.inr (2, [.int 0, .ref df, .int 0]))), (q118__, (.inr (5, [.null, .ref q5_122__]))), (q5_122__, (.inr (2, [.int 0, .ref df, .int 0]))), (q118___, (.inr (5, [.null, .ref q5_122___]))), (q5_122___, (.inr (2, [.int 0, .ref df, .int 0])))][(fun k i => if k = 0 then 0 else if k = 2 then 5 else if k = 4 then (if i = 0 then 7 else (if i = 1 then 10 else (if i = 2 then 12 else 14))) else if k = 5 then (if i = 0 then 1 else (if i = 1 then 2 else (if i = 2 then 3 else (if i = 3 then 4 else (if i = 4 then 8 else (if i = 5 then 11 else (if i = 6 then 13 else 15))))))) else (if i = 1 then 6 else 9)) k i]? = some (cAd (fun k i => if k = 0 then q else if k = 2 then q49 else if k = 4 then (if i = 0 then q118 else (if i = 1 then q118_ else (if i = 2 then q118__ else q118___))) else (if i = 0 then q5 else (if i = 1 then q16 else (if i = 2 then q27 else (if i = 3 then q38 else (if i = 4 then q5_122 else (if i = 5 then q5_122_ else (if i = 6 then q5_122__ else q5_122___)))))))) ((fun j => if j = 1 then q52_7_7_20_103 else q52_7_7_20_125), (fun j => if j = 1 then (va_up (fun _ => none) 0 (some q49)) else if j = 3 then (va_up (va_up (va_up (va_up (fun _ => none) 0 (some q118)) (0 + 1) (some q118_)) ((0 + 1) + 1) (some q118__)) (((0 + 1) + 1) + 1) (some q118___)) else fun _ => none)) k i, cCell cs df (fun k i => if k = 0 then q else if k = 2 then q49 else if k = 4 then (if i = 0 then q118 else (if i = 1 then q118_ else (if i = 2 then q118__ else q118___))) else (if i = 0 then q5 else (if i = 1 then q16 else (if i = 2 then q27 else (if i = 3 then q38 else (if i = 4 then q5_122 else (if i = 5 then q5_122_ else (if i = 6 then q5_122__ else q5_122___)))))))) ((fun j => if j = 1 then q52_7_7_20_103 else q52_7_7_20_125), (fun j => if j = 1 then (va_up (fun _ => none) 0 (some q49)) else if j = 3 then (va_up (va_up (va_up (va_up (fun _ => none) 0 (some q118)) (0 + 1) (some q118_)) ((0 + 1) + 1) (some q118__)) (((0 + 1) + 1) + 1) (some q118___)) else fun _ => none)) init0 k i) := by
    intro k i ok
    match k, ok with
    | 0, ok => cases (show i = 0 from ok); rfl
    | 1, ok => exact absurd ok (Nat.not_lt_zero _)
    | 2, ok => cases (show i = 0 from Nat.lt_one_iff.mp ok); rfl
    | 3, ok => exact absurd ok (Nat.not_lt_zero _)
    | 4, ok => rcases (by have : i < 4 := ok; omega : i = 0 ∨ i = 1 ∨ i = 2 ∨ i = 3) with rfl | rfl | rfl | rfl <;> rfl
    | 5, ok => rcases (by have : i < 8 := ok; omega : i = 0 ∨ i = 1 ∨ i = 2 ∨ i = 3 ∨ i = 4 ∨ i = 5 ∨ i = 6 ∨ i = 7) with rfl | rfl | rfl | rfl | rfl | rfl | rfl | rfl <;> rfl
    | 6, ok =>
      have o1 : i < 8 := ok.1
      have o2 := ok.2
      rcases (by omega : i = 0 ∨ i = 1 ∨ i = 2 ∨ i = 3 ∨ i = 4 ∨ i = 5 ∨ i = 6 ∨ i = 7) with rfl | rfl | rfl | rfl | rfl | rfl | rfl | rfl
      · exact absurd rfl o2
      · rfl
      · exact absurd rfl o2
      · rfl
      · exact absurd rfl o2
      · exact absurd rfl o2
      · exact absurd rfl o2
      · exact absurd rfl o2
  have i4 : ∀ i, i < 4 → ∀ j, j < 4 → (fun i => (if i = 0 then 7 else (if i = 1 then 10 else (if i = 2 then 12 else 14)))) i = (fun i => (if i = 0 then 7 else (if i = 1 then 10 else (if i = 2 then 12 else 14)))) j → i = j := by decide
  have i5 : ∀ i, i < 8 → ∀ j, j < 8 → (fun i => (if i = 0 then 1 else (if i = 1 then 2 else (if i = 2 then 3 else (if i = 3 then 4 else (if i = 4 then 8 else (if i = 5 then 11 else (if i = 6 then 13 else 15)))))))) i = (fun i => (if i = 0 then 1 else (if i = 1 then 2 else (if i = 2 then 3 else (if i = 3 then 4 else (if i = 4 then 8 else (if i = 5 then 11 else (if i = 6 then 13 else 15)))))))) j → i = j := by decide
  have i6 : ∀ i, i < 8 → ¬ kN init0 61 i = 0 → i = 1 ∨ i = 3 := by decide
  refine ⟨(fun k i => if k = 0 then q else if k = 2 then q49 else if k = 4 then (if i = 0 then q118 else (if i = 1 then q118_ else (if i = 2 then q118__ else q118___))) else (if i = 0 then q5 else (if i = 1 then q16 else (if i = 2 then q27 else (if i = 3 then q38 else (if i = 4 then q5_122 else (if i = 5 then q5_122_ else (if i = 6 then q5_122__ else q5_122___)))))))), rfl, ⟨((fun j => if j = 1 then q52_7_7_20_103 else q52_7_7_20_125), (fun j => if j = 1 then (va_up (fun _ => none) 0 (some q49)) else if j = 3 then (va_up (va_up (va_up (va_up (fun _ => none) 0 (some q118)) (0 + 1) (some q118_)) ((0 + 1) + 1) (some q118__)) (((0 + 1) + 1) + 1) (some q118___)) else fun _ => none)), fun k i ok => hR.1 _ _ (key k i ok), fun k i j ok ok2 e => ?_, ⟨hR.2.2.1, hR.2.2.2⟩, init0_wf, fun j hj => ?_⟩⟩
  · have e2 := hR.2.1 _ _ _ _ (key k i ok) (key k j ok2) e
    match k, ok, ok2, e2 with
    | 0, ok, ok2, _ => exact (show i = 0 from ok).trans (show j = 0 from ok2).symm
    | 1, ok, _, _ => exact absurd ok (Nat.not_lt_zero _)
    | 2, ok, ok2, _ => exact (Nat.lt_one_iff.mp ok).trans (Nat.lt_one_iff.mp ok2).symm
    | 3, ok, _, _ => exact absurd ok (Nat.not_lt_zero _)
    | 4, ok, ok2, e2 => exact i4 i ok j ok2 e2
    | 5, ok, ok2, e2 => exact i5 i ok j ok2 e2
    | 6, ok, ok2, e2 =>
      rcases i6 i ok.1 ok.2 with rfl | rfl
      · rcases i6 j ok2.1 ok2.2 with rfl | rfl
        · rfl
        · exact absurd e2 (by decide)
      · rcases i6 j ok2.1 ok2.2 with rfl | rfl
        · exact absurd e2 (by decide)
        · rfl
  · rcases (by omega : j = 0 ∨ j = 1 ∨ j = 2 ∨ j = 3 ∨ j = 4 ∨ j = 5 ∨ j = 6 ∨ j = 7) with rfl | rfl | rfl | rfl | rfl | rfl | rfl | rfl
    · exact ⟨fun i hi => absurd hi (Nat.not_lt_zero _), fun i _ => rfl⟩
    · refine ⟨fun i hi => ?_, fun i hi => ?_⟩
      · cases (show i = 0 from Nat.lt_one_iff.mp hi); rfl
      · have : 1 ≤ i := hi
        show (va_up (fun _ => none) 0 (some q49)) i = none
        simp only [va_up]
        rw [if_neg (by omega)]
    · exact ⟨fun i hi => absurd hi (Nat.not_lt_zero _), fun i _ => rfl⟩
    · refine ⟨fun i hi => ?_, fun i hi => ?_⟩
      · rcases (by have : i < 4 := hi; omega : i = 0 ∨ i = 1 ∨ i = 2 ∨ i = 3) with rfl | rfl | rfl | rfl <;> rfl
      · have : 4 ≤ i := hi
        show (va_up (va_up (va_up (va_up (fun _ => none) 0 (some q118)) (0 + 1) (some q118_)) ((0 + 1) + 1) (some q118__)) (((0 + 1) + 1) + 1) (some q118___)) i = none
        simp only [va_up]
        rw [if_neg (by omega), if_neg (by omega), if_neg (by omega), if_neg (by omega)]
    · exact ⟨fun i hi => absurd hi (Nat.not_lt_zero _), fun i _ => rfl⟩
    · exact ⟨fun i hi => absurd hi (Nat.not_lt_zero _), fun i _ => rfl⟩
    · exact ⟨fun i hi => absurd hi (Nat.not_lt_zero _), fun i _ => rfl⟩
    · exact ⟨fun i hi => absurd hi (Nat.not_lt_zero _), fun i _ => rfl⟩
