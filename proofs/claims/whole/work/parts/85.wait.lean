/-! THE ORDER OF THOSE WHO WAIT: a list here, numbers there -/
def cnt (p : Nat → Bool) : Nat → Nat
  | 0 => 0
  | n + 1 => if p n = true then cnt p n + 1 else cnt p n
theorem cnt_list {p : Nat → Bool} : ∀ (n : Nat) (ls : List Nat), ls.Nodup → (∀ x, x ∈ ls ↔ x < n ∧ p x = true) → cnt p n = ls.length := by
  intro n
  induction n with
  | zero =>
    intro ls _ h
    cases ls with
    | nil => rfl
    | cons a tl => exact absurd ((h a).mp List.mem_cons_self).1 (Nat.not_lt_zero _)
  | succ n ih =>
    intro ls hd h
    rw [cnt]
    by_cases q : p n = true
    · rw [if_pos q]
      have hm : n ∈ ls := (h n).mpr ⟨Nat.lt_succ_self n, q⟩
      have h2 := ih (ls.erase n) (hd.erase n) (fun x => by
        rw [hd.mem_erase_iff, h x]
        constructor
        · rintro ⟨h1, h2, h3⟩; exact ⟨by omega, h3⟩
        · rintro ⟨h1, h2⟩; exact ⟨by omega, by omega, h2⟩)
      have h3 := List.length_erase_of_mem hm
      have h4 : 0 < ls.length := List.length_pos_of_mem hm
      omega
    · rw [if_neg q]
      refine ih ls hd (fun x => ?_)
      rw [h x]
      constructor
      · rintro ⟨h1, h2⟩
        refine ⟨?_, h2⟩
        by_cases z : x = n
        · rw [z] at h2; exact absurd h2 q
        · omega
      · rintro ⟨h1, h2⟩; exact ⟨by omega, h2⟩
theorem ah_cnt (μ : KS) (l t n : Nat) : ahM μ l t n = cnt (fun k => decide (kO μ 22 k = some l ∧ kI μ 23 k < kI μ 23 t)) n := by
  induction n with
  | zero => rfl
  | succ n ih =>
    rw [ahM, cnt, ih]
    by_cases q : kO μ 22 n = some l ∧ kI μ 23 n < kI μ 23 t
    · rw [if_pos q, if_pos (decide_eq_true q)]
    · rw [if_neg q, if_neg (by rw [decide_eq_false q]; decide), Nat.add_zero]
/-- of a list in order, as many come before the i-th as its place says -/
theorem sorted_len {f : Nat → Int} : ∀ (ls : List Nat), ls.Pairwise (fun a b => f a < f b) → ∀ i a, ls[i]? = some a → (ls.filter (fun x => decide (f x < f a))).length = i := by
  intro ls
  induction ls with
  | nil => intro _ i a h; simp at h
  | cons b tl ih =>
    intro hp i a h
    obtain ⟨h1, h2⟩ := List.pairwise_cons.mp hp
    cases i with
    | zero =>
      cases h
      rw [List.length_eq_zero_iff, List.filter_eq_nil_iff]
      intro x hx
      rcases List.mem_cons.mp hx with rfl | hx
      · simp
      · have := h1 x hx
        simp only [decide_eq_true_eq]
        omega
    | succ i =>
      replace h : tl[i]? = some a := by simpa using h
      have hm := List.mem_of_getElem? h
      rw [List.filter_cons, if_pos (decide_eq_true (h1 a hm)), List.length_cons, ih h2 i a h]
theorem sorted_nodup {f : Nat → Int} {ls : List Nat} (h : ls.Pairwise (fun a b => f a < f b)) : ls.Nodup := by
  refine List.Pairwise.imp ?_ h
  intro a b hab e
  rw [e] at hab
  omega
section WT
variable {μ : KS} {l : Nat} {ls : List Nat}
theorem ah_at (hm : ∀ t, t ∈ ls ↔ t < kN μ 24 0 ∧ kO μ 22 t = some l) (hp : ls.Pairwise (fun a b => (kI μ 23 a).toInt < (kI μ 23 b).toInt)) {i a : Nat} (h : ls[i]? = some a) : ahM μ l a (kN μ 24 0) = i := by
  have hd := sorted_nodup hp
  rw [ah_cnt, cnt_list (kN μ 24 0) (ls.filter (fun x => decide ((kI μ 23 x).toInt < (kI μ 23 a).toInt))) (hd.filter _) (fun x => ?_)]
  · exact sorted_len ls hp i a h
  · rw [List.mem_filter, hm x]
    simp only [decide_eq_true_eq, Int32.lt_iff_toInt_lt]
    constructor
    · rintro ⟨⟨h1, h2⟩, h3⟩; exact ⟨h1, h2, h3⟩
    · rintro ⟨h1, h2, h3⟩; exact ⟨⟨h1, h2⟩, h3⟩
theorem wtM_some {x : Int32} : ∀ n t k, wtM μ l x n t = some k → kO μ 22 k = some l ∧ nI (ahM μ l k (kN μ 24 0)) = x := by
  intro n
  induction n with
  | zero => intro t k h; cases h
  | succ n ih =>
    intro t k h
    rw [wtM] at h
    by_cases q : kO μ 22 t = some l ∧ nI (ahM μ l t (kN μ 24 0)) = x
    · rw [if_pos q] at h
      cases h
      exact q
    · rw [if_neg q] at h
      exact ih _ _ h
theorem wtM_none {x : Int32} : ∀ n t, wtM μ l x n t = none → ∀ k, t ≤ k → k < t + n → ¬ (kO μ 22 k = some l ∧ nI (ahM μ l k (kN μ 24 0)) = x) := by
  intro n
  induction n with
  | zero => intro t _ k h1 h2; omega
  | succ n ih =>
    intro t h k h1 h2
    rw [wtM] at h
    by_cases q : kO μ 22 t = some l ∧ nI (ahM μ l t (kN μ 24 0)) = x
    · rw [if_pos q] at h; cases h
    · rw [if_neg q] at h
      by_cases z : k = t
      · rw [z]; exact q
      · exact ih _ h k (by omega) (by omega)
variable (hm : ∀ t, t ∈ ls ↔ t < kN μ 24 0 ∧ kO μ 22 t = some l) (hp : ls.Pairwise (fun a b => (kI μ 23 a).toInt < (kI μ 23 b).toInt)) (h12 : kN μ 24 0 ≤ 12)
theorem wt_at (hm : ∀ t, t ∈ ls ↔ t < kN μ 24 0 ∧ kO μ 22 t = some l) (hp : ls.Pairwise (fun a b => (kI μ 23 a).toInt < (kI μ 23 b).toInt)) (h12 : kN μ 24 0 ≤ 12) {i a : Nat} (h : ls[i]? = some a) : wtT μ l (nI i) = some a := by
  have ha := (hm a).mp (List.mem_of_getElem? h)
  have h1 := ah_at hm hp h
  cases e : wtT μ l (nI i) with
  | none => exact absurd ⟨ha.2, by rw [h1]⟩ (wtM_none _ _ e a (Nat.zero_le _) (by omega))
  | some k =>
    obtain ⟨b1, b2⟩ := wtM_some _ _ _ e
    have hk := wtT_lt e
    obtain ⟨j, hj⟩ := List.getElem?_of_mem ((hm k).mpr ⟨hk, b1⟩)
    have h2 := ah_at hm hp hj
    rw [h2] at b2
    have hjl := ahM_le μ l k (kN μ 24 0)
    have hil := ahM_le μ l a (kN μ 24 0)
    have := (nI_eq (by omega) (by omega)).mp b2
    subst this
    exact hj.symm.trans h
theorem wt_out (hm : ∀ t, t ∈ ls ↔ t < kN μ 24 0 ∧ kO μ 22 t = some l) (hp : ls.Pairwise (fun a b => (kI μ 23 a).toInt < (kI μ 23 b).toInt)) (h12 : kN μ 24 0 ≤ 12) {x : Int32} (h : inR x ls.length = none) : wtT μ l x = none := by
  cases e : wtT μ l x with
  | none => rfl
  | some k =>
    exfalso
    obtain ⟨b1, b2⟩ := wtM_some _ _ _ e
    have hk := wtT_lt e
    obtain ⟨j, hj⟩ := List.getElem?_of_mem ((hm k).mpr ⟨hk, b1⟩)
    have h2 := ah_at hm hp hj
    have hjl := ahM_le μ l k (kN μ 24 0)
    rw [h2] at b2
    have hl := (List.getElem?_eq_some_iff.mp hj).1
    have : ls.length ≤ 12 := by
      have := cnt_list (p := fun x => decide (kO μ 22 x = some l)) (kN μ 24 0) ls (sorted_nodup hp) (fun x => by rw [hm x]; simp)
      have hb : ∀ (p : Nat → Bool) n, cnt p n ≤ n := fun p n => by
        induction n with
        | zero => exact Nat.le_refl _
        | succ n ih => rw [cnt]; split <;> omega
      have := hb (fun x => decide (kO μ 22 x = some l)) (kN μ 24 0)
      omega
    rw [← b2, inR_nI hl (by omega)] at h
    cases h
end WT
theorem cnt_le (p : Nat → Bool) (n : Nat) : cnt p n ≤ n := by
  induction n with
  | zero => exact Nat.le_refl _
  | succ n ih => rw [cnt]; split <;> omega
theorem list_le {n : Nat} {σ μ : KS} (R : Rel n σ μ) (hd : dWF μ) {l : Nat} (hl : l < 4) : kN σ 62 (4 + l) ≤ 12 := by
  obtain ⟨b1, b2, b3, b4⟩ := R.2.2.2.2.2.2.2.1.1 l hl
  rw [← b4, ← cnt_list (p := fun x => decide (kO μ 22 x = some l)) (kN μ 24 0) _ (sorted_nodup b3) (fun x => by rw [b2 x]; simp)]
  exact Nat.le_trans (cnt_le _ _) hd.1.2.2.2
/-- the first who waits holds the lock then -/
theorem Rel.pass {n : Nat} {σ μ : KS} (R : Rel n σ μ) (h12 : kN μ 24 0 ≤ 12) {w : Nat} (hw : w < 4) : Rel n (passS σ w) (pnM μ w) := by
  obtain ⟨a1, a2, a3, a4, a5, a6, a7, ⟨l1, l2, l3, l4⟩, a9⟩ := id R
  obtain ⟨b1, b2, b3, b4⟩ := l1 w hw
  unfold passS pnM
  cases e : kL σ (4 + w) with
  | nil =>
    have e0 : kN σ 62 (4 + w) = 0 := by rw [← b4, e]; rfl
    have ew : wtT μ w 0 = none := wt_out b2 b3 h12 (by rw [e]; rfl)
    rw [if_pos e0, ew]
    refine R.lk (fun _ _ => rfl) rfl (fun _ _ => rfl) (fun _ _ => rfl) (fun f h1 h2 => vu_n _ _ h2) rfl (fun _ _ _ _ => rfl) rfl rfl (fun f h1 h2 => vu_n _ _ h2) rfl (fun t ht => (a7 t ht).1.2.2.2.2.2.2.2.2.1) ⟨fun l hl => ?_, l2, l3, l4⟩
    obtain ⟨d1, d2, d3, d4⟩ := l1 l hl
    refine ⟨?_, d2, d3, d4⟩
    show va_up (kO σ 50) w none l = va_up (kO μ 26) w none l
    by_cases q : l = w
    · subst q; rw [vu_s, vu_s]
    · rw [vu_n _ _ q, vu_n _ _ q]; exact d1
  | cons a tl =>
    have e0 : ¬ kN σ 62 (4 + w) = 0 := by rw [← b4, e]; simp
    have ew : wtT μ w 0 = some a := wt_at (i := 0) b2 b3 h12 (by rw [e]; rfl)
    have ha := (b2 a).mp (by rw [e]; exact List.mem_cons_self)
    have nd := sorted_nodup b3
    rw [e] at nd b3
    obtain ⟨nd1, nd2⟩ := List.nodup_cons.mp nd
    rw [if_neg e0, ew]
    have eg : (a :: tl).getD 0 0 = a := rfl
    rw [eg]
    have eL : ∀ l, l < 4 → va_up (kL σ) (4 + w) ((kL σ (4 + w)).eraseIdx 0) (4 + l) = if l = w then tl else kL σ (4 + l) := fun l hl => by
      by_cases q : l = w
      · subst q; rw [vu_s, if_pos rfl, e]; rfl
      · rw [vu_n _ _ (by omega), if_neg q]
    refine R.lk (fun f hf => vu_n _ _ (by omega)) rfl (fun f hf => vu_n _ _ (by omega)) (fun j hj => lRem_N (i := 0) hj) (fun f h1 h2 => (vu_n _ _ h2).trans (vu_n _ _ h1)) rfl (fun _ _ _ _ => rfl) rfl rfl (fun f h1 h2 => (vu_n _ _ h1).trans (vu_n _ _ h2)) rfl (fun t ht => ?_) ⟨fun l hl => ?_, fun t ht h => ?_, l3, l4⟩
    · show va_up (kO σ 42) a none t = va_up (kO μ 22) a none t
      by_cases q : t = a
      · subst q; rw [vu_s, vu_s]
      · rw [vu_n _ _ q, vu_n _ _ q]; exact (a7 t ht).1.2.2.2.2.2.2.2.2.1
    · obtain ⟨d1, d2, d3, d4⟩ := l1 l hl
      refine ⟨?_, fun t => ?_, ?_, ?_⟩
      · show va_up (kO σ 50) w (some a) l = va_up (kO μ 26) w (some a) l
        by_cases q : l = w
        · subst q; rw [vu_s, vu_s]
        · rw [vu_n _ _ q, vu_n _ _ q]; exact d1
      · show t ∈ va_up (kL σ) (4 + w) ((kL σ (4 + w)).eraseIdx 0) (4 + l) ↔ t < kN μ 24 0 ∧ va_up (kO μ 22) a none t = some l
        rw [eL l hl]
        by_cases q : l = w
        · subst q
          rw [if_pos rfl]
          rw [e] at d2
          by_cases z : t = a
          · subst z
            rw [vu_s]
            exact ⟨fun h => absurd h nd1, fun h => nomatch h.2⟩
          · rw [vu_n _ _ z, ← d2 t, List.mem_cons]
            exact ⟨Or.inr, fun h => h.resolve_left z⟩
        · rw [if_neg q, d2 t]
          by_cases z : t = a
          · subst z
            rw [vu_s, ha.2]
            exact ⟨fun h => absurd (Option.some.inj h.2).symm q, fun h => nomatch h.2⟩
          · rw [vu_n _ _ z]
      · show (va_up (kL σ) (4 + w) ((kL σ (4 + w)).eraseIdx 0) (4 + l)).Pairwise _
        rw [eL l hl]
        by_cases q : l = w
        · rw [if_pos q]; exact (List.pairwise_cons.mp b3).2
        · rw [if_neg q]; exact d3
      · show (va_up (kL σ) (4 + w) ((kL σ (4 + w)).eraseIdx 0) (4 + l)).length = va_up (kN σ 62) (4 + w) (kN σ 62 (4 + w) - 1) (4 + l)
        rw [eL l hl]
        by_cases q : l = w
        · subst q
          rw [if_pos rfl, vu_s, ← d4, e]
          rfl
        · rw [if_neg q, vu_n _ _ (by omega)]; exact d4
    · replace h : va_up (kO μ 22) a none t ≠ none := h
      by_cases q : t = a
      · subst q; rw [vu_s] at h; exact absurd rfl h
      · rw [vu_n _ _ q] at h; exact l2 t ht h
