/-! THE SYSTEM'S LISTS: what ArrayList's methods do to the states. -/
theorem m_mono {l : Launch} {y : MethodName} {ws : List Cond} {rm : Room} {Pc : Array Value → State → Prop} {Qc Qd : Array Value → State → Outcome → State → Prop} {mc ms : Nat} {free : Addr → Prop} (h : Met l y ws rm Pc Qc mc ms free) (hq : ∀ a st o t, Qc a st o t → Qd a st o t) : Met l y ws rm Pc Qd mc ms free := by
  intro p e h1 h2 h3 s m args below h4 h5 h6 h7
  obtain ⟨n, o, a, b, c, d, z⟩ := h p e h1 h2 h3 s m args below h4 h5 h6 h7
  exact ⟨n, o, a, b, c, hq _ _ _ _ d, z⟩
theorem m_moni {S : Type} {po po' : Int32 → S → Prop} {B : S → State → Prop} {A : Nat → Prop} (h : ∀ r u, po r u → po' r u) : ∀ a st o t, va_Qi po B A a st o t → va_Qi po' B A a st o t := by
  rintro a st o t ⟨⟨r, u, h1, h2, h3⟩, h4⟩
  exact ⟨⟨r, u, h1, h _ _ h2, h3⟩, h4⟩
theorem m_monq {S : Type} {po po' : Option Nat → S → Prop} {B : S → State → Prop} {A : Nat → Prop} (h : ∀ r u, po r u → po' r u) : ∀ a st o t, va_Qq po B A a st o t → va_Qq po' B A a st o t := by
  rintro a st o t ⟨⟨r, u, h1, h2, h3⟩, h4⟩
  exact ⟨⟨r, u, h1, h _ _ h2, h3⟩, h4⟩
theorem m_monv {S : Type} {po po' : S → Prop} {B : S → State → Prop} {A : Nat → Prop} (h : ∀ u, po u → po' u) : ∀ a st o t, va_Qv po B A a st o t → va_Qv po' B A a st o t := by
  rintro a st o t ⟨⟨u, h1, h2, h3⟩, h4⟩
  exact ⟨⟨u, h1, h _ h2, h3⟩, h4⟩
section LST
variable {l : Launch} {D : va_G} {cs : mC} {df : Nat} {P : Nat → Prop} {h0 hh : mH} {L : KL} {R : KR} {σ : KS}
theorem CRepR.lst (hC : CRepR cs df P h0 L R σ hh) {j : Nat} (hj : j < 8) : hh (L 5 j) = some (.inr (2, [.int (kI σ 60 j), .ref (if kN σ 61 j = 0 then df else R.1 j), .int (nI (kN σ 62 j))])) := hC.at (k := 5) hj
theorem CRepR.row (hC : CRepR cs df P h0 L R σ hh) {j : Nat} (hj : j < 8) (hn : ¬ kN σ 61 j = 0) : hh (R.1 j) = some (.inl (cs.2.2.2.2.1, kN σ 61 j, .inr (.inr (.inr (.inr (R.2 j)))))) := hC.at (k := 6) (i := j) ⟨hj, hn⟩
theorem CRepR.lst1 (hC : CRepR cs df P h0 L R σ hh) {j : Nat} (hj : j < 8) (hn : ¬ kN σ 61 j = 0) : hh (L 5 j) = some (.inr (2, [.int (kI σ 60 j), .ref (R.1 j), .int (nI (kN σ 62 j))])) := by
  rw [hC.lst hj, if_neg hn]
theorem CRepR.lst0 (hC : CRepR cs df P h0 L R σ hh) {j : Nat} (hj : j < 8) (hn : kN σ 61 j = 0) : hh (L 5 j) = some (.inr (2, [.int (kI σ 60 j), .ref df, .int (nI (kN σ 62 j))])) := by
  rw [hC.lst hj, if_pos hn]
theorem CRepR.cap (hC : CRepR cs df P h0 L R σ hh) {j : Nat} (hj : j < 8) : kN σ 62 j ≤ kN σ 61 j ∧ kN σ 61 j ≤ 100 := hC.2.2.2.1.2.1 j hj
/-- what a list's row holds, and that it is one of ours -/
theorem kE_ok (hw : cWF σ) {j i : Nat} (hj : j < 8) (hi : i < kN σ 62 j) : cOk σ (kd j) (kE σ j i) ∧ (kd j = 1 ∨ kd j = 2 ∨ kd j = 3 ∨ kd j = 4) := by
  have w1 := hw.1
  by_cases h4 : j < 4
  · rcases (by omega : j = 0 ∨ j = 1 ∨ j = 2 ∨ j = 3) with rfl | rfl | rfl | rfl
    · exact ⟨hi, by decide⟩
    · exact ⟨hi, by decide⟩
    · exact ⟨hi, by decide⟩
    · refine ⟨?_, by decide⟩
      show i < 4
      omega
  · obtain ⟨q, rfl⟩ : ∃ q, j = 4 + q := ⟨j - 4, by omega⟩
    have h3 : kd (4 + q) = 3 := by unfold kd; rw [if_neg (by omega), if_neg (by omega), if_neg (by omega), if_neg (by omega)]
    rw [h3]
    refine ⟨?_, by decide⟩
    obtain ⟨a, b⟩ := hw.2.2.1 q (by omega)
    show kE σ (4 + q) i < kN σ 62 2
    unfold kE
    have h5 : i < (kL σ (4 + q)).length := by omega
    rw [if_neg h4, List.getD_eq_getElem?_getD, List.getElem?_eq_getElem h5]
    exact b _ (List.getElem_mem h5)
theorem CRep.el (hC : CRep cs df P h0 L σ hh) {k i : Nat} (hk : cOk σ k i) (h4 : k = 1 ∨ k = 2 ∨ k = 3 ∨ k = 4) : isEl hh (L k i) := by
  rcases h4 with rfl | rfl | rfl | rfl
  · exact ⟨_, _, _, hC.at hk, (rfl : vwCl[3]? = _), by decide⟩
  · exact ⟨_, _, _, hC.at hk, (rfl : vwCl[4]? = _), by decide⟩
  · exact ⟨_, _, _, hC.at hk, (rfl : vwCl[6]? = _), by decide⟩
  · exact ⟨_, _, _, hC.at hk, (rfl : vwCl[5]? = _), by decide⟩
theorem CRepR.els (hC : CRepR cs df P h0 L R σ hh) {j : Nat} (hj : j < 8) : ∀ i, i < kN σ 61 j → ∀ y, R.2 j i = some y → isEl hh y := by
  intro i _ y hy
  by_cases hi : i < kN σ 62 j
  · rw [(hC.2.2.2.2 j hj).1 i hi] at hy
    cases hy
    obtain ⟨a, b⟩ := kE_ok hC.2.2.2.1 hj hi
    exact CRep.el ⟨R, hC⟩ a b
  · rw [(hC.2.2.2.2 j hj).2 i (by omega)] at hy
    cases hy
theorem l_size (sz : Nat) (hC : CRep cs df P h0 L σ hh) (j : Nat) (hj : j < 8) : Met l yJx4a65c_size_8abf5 wsJx4a65c_size_8abf5 { frames := 0, cells := 0, slots := 0, locals := 0 } (mPre [.ref (L 5 j)] D cs df hh sz) (va_Qi (fun (r : Int32) (h1 : mH) => h1 = hh ∧ r = nI (kN σ 62 j)) (mB D hh sz) (mA hh sz)) 0 0 (mA hh sz) := by
  obtain ⟨R, hC⟩ := hC
  exact c_Jx4a65c_size_8abf5 sz (L 5 j) (hC.lst hj)
theorem l_empty (sz : Nat) (hC : CRep cs df P h0 L σ hh) (j : Nat) (hj : j < 8) : Met l yJx4a65c_isEmpty_aae02 wsJx4a65c_isEmpty_aae02 { frames := 0, cells := 0, slots := 0, locals := 0 } (mPre [.ref (L 5 j)] D cs df hh sz) (va_Qi (fun (r : Int32) (h1 : mH) => h1 = hh ∧ r = bI (decide (kN σ 62 j = 0))) (mB D hh sz) (mA hh sz)) 0 0 (mA hh sz) := by
  obtain ⟨R, hC⟩ := hC
  have := hC.cap hj
  exact c_Jx4a65c_isEmpty_aae02 sz (L 5 j) (hC.lst hj) (by omega)
theorem l_get (sz : Nat) (hC : CRep cs df P h0 L σ hh) (j i : Nat) (hj : j < 8) (hi : i < kN σ 62 j) : Met l yJx4a65c_get_915e3 wsJx4a65c_get_915e3 { frames := 2, cells := 0, slots := 0, locals := 43 } (mPre [.ref (L 5 j), .int (nI i)] D cs df hh sz) (va_Qq (fun (r : Option Nat) (h1 : mH) => h1 = hh ∧ r = some (L (kd j) (kE σ j i))) (mB D hh sz) (mA hh sz)) 0 0 (mA hh sz) := by
  obtain ⟨R, hC⟩ := hC
  have h1 := hC.cap hj
  have hn : ¬ kN σ 61 j = 0 := by omega
  exact c_Jx4a65c_get_915e3 sz (L 5 j) i (hC.lst1 hj hn) (hC.row hj hn) hi h1.1 (by omega) ((hC.2.2.2.2 j hj).1 i hi)
def ncap (n z : Nat) : Nat := if z < n then n else if n = 0 then 10 else n + (if 1 < n / 2 then n / 2 else 1)
theorem ncap_ok {n z : Nat} (hz : z ≤ n) (hn : n ≤ 100) (h5 : z ≤ 50) : z + 1 ≤ ncap n z ∧ ncap n z ≤ 100 := by
  unfold ncap
  split
  · omega
  · split
    · omega
    · split <;> omega
/-- a list to whose end something was added -/
def LA (c : mC) (L : KL) (R : KR) (σ : KS) (j y : Nat) (h h1 : mH) (R1 : KR) : Prop :=
  h1 (L 5 j) = some (.inr (2, [.int (kI σ 60 j + 1), .ref (R1.1 j), .int (nI (kN σ 62 j + 1))])) ∧
  h1 (R1.1 j) = some (.inl (c.2.2.2.2.1, ncap (kN σ 61 j) (kN σ 62 j), .inr (.inr (.inr (.inr (R1.2 j)))))) ∧
  (∀ a, a ≠ L 5 j → a ≠ R1.1 j → h1 a = h a) ∧ (h (R1.1 j) = none ∨ (R1.1 j = R.1 j ∧ ¬ kN σ 61 j = 0)) ∧
  (∀ i, i ≠ j → R1.1 i = R.1 i ∧ R1.2 i = R.2 i) ∧ R1.2 j = va_up (R.2 j) (kN σ 62 j) (some y)
theorem m_upd3 {h : mH} {a q b : Nat} {x y : va_E} (n1 : b ≠ a) (n2 : b ≠ q) : mu (mu h a x) q y b = h b := by rw [mu_n n2, mu_n n1]
theorem l_add (sz : Nat) (hC : CRepR cs df P h0 L R σ hh) (j y : Nat) (hj : j < 8) (hz : kN σ 62 j ≤ 50) (hy : isEl hh y) : Met l yJx4a65c_add_9ea2d wsJx4a65c_add_9ea2d { frames := 6, cells := 1, slots := 200, locals := 170 } (mPre [.ref (L 5 j), .ref y] D cs df hh sz) (va_Qi (fun (r : Int32) (h1 : mH) => (∃ R1 : KR, LA cs L R σ j y hh h1 R1) ∧ r = 1) (mB D hh sz) (mA hh sz)) 1 200 (mA hh sz) := by
  obtain ⟨w1, w2⟩ := hC.cap hj
  have hq := (hC.2.2.2.2 j hj).2
  have fnone : ∀ q : Nat, hh q = none → q ≠ L 5 j := fun q hq z => by
    have := hC.lst hj
    rw [← z, hq] at this
    cases this
  by_cases hn : kN σ 61 j = 0
  · refine m_mono (c_Jx4a65c_add_9ea2d_C sz (L 5 j) y (hC.lst0 hj hn) (by omega) hy) (m_moni (fun r h1 => ?_))
    rintro ⟨q, e0, e1, rfl⟩
    have n0 := fnone q e0
    refine ⟨⟨(va_up R.1 j q, va_up R.2 j (va_up (R.2 j) (kN σ 62 j) (some y))), ?_⟩, rfl⟩
    have c0 : ncap (kN σ 61 j) (kN σ 62 j) = 10 := by unfold ncap; rw [if_neg (by omega), if_pos hn]
    have c1 : va_up R.1 j q j = q := by simp [va_up]
    have c2 : va_up R.2 j (va_up (R.2 j) (kN σ 62 j) (some y)) j = va_up (R.2 j) (kN σ 62 j) (some y) := by simp [va_up]
    have c3 : va_up (fun _ => none) (kN σ 62 j) (some y) = va_up (R.2 j) (kN σ 62 j) (some y) := by
      funext i
      by_cases z : i = kN σ 62 j
      · simp [va_up, z]
      · simp only [va_up, if_neg z]
        exact (hq i (by omega)).symm
    refine ⟨?_, ?_, fun a ha hb => ?_, Or.inl ?_, fun i hi => ?_, ?_⟩
    · show h1 (L 5 j) = some (.inr (2, [_, .ref (va_up R.1 j q j), _]))
      rw [c1, e1, mu_s]
    · show h1 (va_up R.1 j q j) = some (.inl (_, _, .inr (.inr (.inr (.inr (va_up R.2 j (va_up (R.2 j) (kN σ 62 j) (some y)) j))))))
      rw [c1, c2, c0, e1, mu_n n0, mu_s, c3]
    · replace hb : a ≠ q := fun z => hb (by show a = va_up R.1 j q j; rw [c1, z])
      rw [e1, mu_n ha, mu_n hb, mu_n ha, mu_n hb, mu_n ha]
    · show hh (va_up R.1 j q j) = none
      rw [c1]
      exact e0
    · exact ⟨by simp [va_up, hi], by simp [va_up, hi]⟩
    · exact c2
  · by_cases h9 : kN σ 62 j < kN σ 61 j
    · have n0 : R.1 j ≠ L 5 j := m_dif (hC.row hj hn) (hC.lst hj) nofun
      refine m_mono (c_Jx4a65c_add_9ea2d_A sz (L 5 j) y (hC.lst1 hj hn) (hC.row hj hn) h9 w2 hy) (m_moni (fun r h1 => ?_))
      rintro ⟨e1, rfl⟩
      have c0 : ncap (kN σ 61 j) (kN σ 62 j) = kN σ 61 j := by unfold ncap; rw [if_pos h9]
      have c2 : va_up R.2 j (va_up (R.2 j) (kN σ 62 j) (some y)) j = va_up (R.2 j) (kN σ 62 j) (some y) := by simp [va_up]
      refine ⟨⟨(R.1, va_up R.2 j (va_up (R.2 j) (kN σ 62 j) (some y))), ?_, ?_, fun a ha hb => ?_, Or.inr ⟨rfl, hn⟩, fun i hi => ⟨rfl, by simp [va_up, hi]⟩, c2⟩, rfl⟩
      · rw [e1, mu_s]
      · show h1 (R.1 j) = some (.inl (_, _, .inr (.inr (.inr (.inr (va_up R.2 j (va_up (R.2 j) (kN σ 62 j) (some y)) j))))))
        rw [c2, c0, e1, mu_n n0, mu_s]
      · rw [e1, mu_n ha, mu_n hb, mu_n ha]
    · refine m_mono (c_Jx4a65c_add_9ea2d_B sz (L 5 j) y (hC.lst1 hj hn) (hC.row hj hn) (by omega) (by omega) w2 (hC.els hj) hy) (m_moni (fun r h1 => ?_))
      rintro ⟨q, e0, e1, rfl⟩
      have n0 := fnone q e0
      refine ⟨⟨(va_up R.1 j q, va_up R.2 j (va_up (R.2 j) (kN σ 62 j) (some y))), ?_⟩, rfl⟩
      have c0 : ncap (kN σ 61 j) (kN σ 62 j) = kN σ 61 j + (if 1 < kN σ 61 j / 2 then kN σ 61 j / 2 else 1) := by unfold ncap; rw [if_neg h9, if_neg hn]
      have c1 : va_up R.1 j q j = q := by simp [va_up]
      have c2 : va_up R.2 j (va_up (R.2 j) (kN σ 62 j) (some y)) j = va_up (R.2 j) (kN σ 62 j) (some y) := by simp [va_up]
      have c3 : va_up (va_cpy (R.2 j) (fun _ => none) 0 0 (kN σ 61 j)) (kN σ 62 j) (some y) = va_up (R.2 j) (kN σ 62 j) (some y) := by
        funext i
        by_cases z : i = kN σ 62 j
        · simp [va_up, z]
        · simp only [va_up, if_neg z, va_cpy]
          by_cases w : i < kN σ 61 j
          · rw [if_pos ⟨Nat.zero_le _, by omega⟩, Nat.zero_add, Nat.sub_zero]
          · rw [if_neg (by omega)]
            exact (hq i (by omega)).symm
      refine ⟨?_, ?_, fun a ha hb => ?_, Or.inl ?_, fun i hi => ?_, ?_⟩
      · show h1 (L 5 j) = some (.inr (2, [_, .ref (va_up R.1 j q j), _]))
        rw [c1, e1, mu_s]
      · show h1 (va_up R.1 j q j) = some (.inl (_, _, .inr (.inr (.inr (.inr (va_up R.2 j (va_up (R.2 j) (kN σ 62 j) (some y)) j))))))
        rw [c1, c2, c0, e1, mu_n n0, mu_s, c3]
      · replace hb : a ≠ q := fun z => hb (by show a = va_up R.1 j q j; rw [c1, z])
        rw [e1, mu_n ha, mu_n hb, mu_n ha, mu_n hb, mu_n ha]
      · show hh (va_up R.1 j q j) = none
        rw [c1]
        exact e0
      · exact ⟨by simp [va_up, hi], by simp [va_up, hi]⟩
      · exact c2
theorem vu_s {α : Type} (f : Nat → α) (j : Nat) (x : α) : va_up f j x j = x := by simp [va_up]
theorem vu_n {α : Type} (f : Nat → α) {i j : Nat} (x : α) (h : i ≠ j) : va_up f j x i = f i := by simp [va_up, h]
theorem cAd_lt (L : KL) (R : KR) {k : Nat} (i : Nat) (hk : k < 6) : cAd L R k i = L k i := by
  match k with
  | 0 => rfl
  | 1 => rfl
  | 2 => rfl
  | 3 => rfl
  | 4 => rfl
  | 5 => rfl
  | n + 6 => omega
theorem cCell_lt (c : mC) (df : Nat) (L : KL) (R : KR) (σ : KS) {k : Nat} (i : Nat) (hk : k < 5) : cCell c df L R σ k i = cCell0 L σ k i := by
  match k with
  | 0 => rfl
  | 1 => rfl
  | 2 => rfl
  | 3 => rfl
  | 4 => rfl
  | n + 5 => omega
theorem CRepR.own (hC : CRepR cs df P h0 L R σ hh) {a : Nat} (ha : hh a = none) : P a := by
  by_cases h : P a
  · exact h
  · exact hC.2.2.1.2 a (by rw [← hC.2.2.1.1 a h]; exact ha)
theorem LA.rep {j y k0 i0 : Nat} {h1 : mH} {R1 : KR} {L1 : KL} {σ1 : KS} (hC : CRepR cs df P h0 L R σ hh) (hj : j < 8) (hz : kN σ 62 j ≤ 50) (hA : LA cs L R σ j y hh h1 R1)
    (hL : ∀ k i, cOk σ k i → k < 6 → L1 k i = L k i) (e60 : kI σ1 60 j = kI σ 60 j + 1) (e61 : kN σ1 61 j = ncap (kN σ 61 j) (kN σ 62 j)) (e62 : kN σ1 62 j = kN σ 62 j + 1)
    (hok : ∀ k i, cOk σ1 k i → (k = 5 ∧ i = j) ∨ (k = 6 ∧ i = j) ∨ (k = k0 ∧ i = i0) ∨ (cOk σ k i ∧ (k = 5 → i ≠ j) ∧ (k = 6 → i ≠ j) ∧ cCell cs df L1 R1 σ1 k i = cCell cs df L R σ k i))
    (hn : cOk σ1 k0 i0 → k0 < 5 ∧ hh (L1 k0 i0) = some (cCell0 L1 σ1 k0 i0) ∧ P (L1 k0 i0) ∧ ∀ i, cOk σ k0 i → L k0 i ≠ L1 k0 i0) (hw : cWF σ1) (hq : cQ L1 R1 σ1) : CRepR cs df P h0 L1 R1 σ1 h1 := by
  obtain ⟨a1, a2, a3, a4, a5, a6⟩ := hA
  have o5 : cOk σ 5 j := hj
  have c5 := hC.at o5
  obtain ⟨cap1, cap2⟩ := ncap_ok (hC.cap hj).1 (hC.cap hj).2 hz
  have l5 : L1 5 j = L 5 j := hL 5 j o5 (by decide)
  -- the row's place is not the place of another thing
  have nrow : ∀ k i, cOk σ k i → (k = 6 → i ≠ j) → cAd L R k i ≠ R1.1 j := by
    intro k i ok n6 z
    rcases a4 with a4 | ⟨a4, a7⟩
    · rw [← z, hC.at ok] at a4
      cases a4
    · obtain ⟨rfl, rfl⟩ := hC.inj (k2 := 6) (i2 := j) ok ⟨hj, a7⟩ (z.trans a4)
      exact n6 rfl rfl
  have nlst : ∀ k i, cOk σ k i → (k = 5 → i ≠ j) → cAd L R k i ≠ L 5 j := by
    intro k i ok n5 z
    obtain ⟨rfl, rfl⟩ := hC.inj (k2 := 5) (i2 := j) ok o5 z
    exact n5 rfl rfl
  have adr : ∀ k i, cOk σ k i → (k = 6 → i ≠ j) → cAd L1 R1 k i = cAd L R k i := by
    intro k i ok n6
    by_cases k6 : k < 6
    · rw [cAd_lt _ _ _ k6, cAd_lt _ _ _ k6, hL k i ok k6]
    · have := cOk_lt ok
      obtain rfl : k = 6 := by omega
      exact (a5 i (n6 rfl)).1
  have prow : P (R1.1 j) := by
    rcases a4 with a4 | ⟨a4, a7⟩
    · exact hC.own a4
    · rw [a4]
      exact (hC.1 6 j ⟨hj, a7⟩).2
  refine ⟨fun k i ok => ?_, fun k i i2 ok ok2 e => ?_, ⟨fun a ha => ?_, hC.2.2.1.2⟩, hw, hq⟩
  · rcases hok k i ok with ⟨rfl, rfl⟩ | ⟨rfl, rfl⟩ | ⟨rfl, rfl⟩ | ⟨ok0, n5, n6, ec⟩
    · refine ⟨?_, ?_⟩
      · show h1 (L1 5 i) = some (.inr (2, [.int (kI σ1 60 i), .ref (if kN σ1 61 i = 0 then df else R1.1 i), .int (nI (kN σ1 62 i))]))
        rw [l5, a1, e60, e62, if_neg (by rw [e61]; omega)]
      · show P (L1 5 i)
        rw [l5]
        exact (hC.1 5 i o5).2
    · refine ⟨?_, prow⟩
      show h1 (R1.1 i) = some (.inl (cs.2.2.2.2.1, kN σ1 61 i, .inr (.inr (.inr (.inr (R1.2 i))))))
      rw [a2, e61]
    · obtain ⟨k5, b1, b2, b3⟩ := hn ok
      rw [cAd_lt _ _ _ (by omega), cCell_lt _ _ _ _ _ _ k5]
      have t1 := cCell_tag cs df L1 R1 σ1 i (k := k) (by omega)
      rw [cCell_lt _ _ _ _ _ _ k5] at t1
      have t2 : tagK k ≠ 0 ∧ tagK k ≠ 3 := by
        rcases (by omega : k = 0 ∨ k = 1 ∨ k = 2 ∨ k = 3 ∨ k = 4) with rfl | rfl | rfl | rfl | rfl <;> decide
      refine ⟨?_, b2⟩
      rw [a3 _ (fun z => ?_) (fun z => ?_), b1]
      · rw [z, hC.lst hj] at b1
        have := congrArg tagE (Option.some.inj b1)
        rw [t1] at this
        exact t2.2 this.symm
      · rcases a4 with a4 | ⟨a4, a7⟩
        · rw [← z, b1] at a4
          cases a4
        · rw [z, a4, hC.row hj a7] at b1
          have := congrArg tagE (Option.some.inj b1)
          rw [t1] at this
          exact t2.1 this.symm
    · rw [adr k i ok0 n6]
      refine ⟨?_, (hC.1 k i ok0).2⟩
      rw [a3 _ (nlst k i ok0 n5) (nrow k i ok0 n6), hC.at ok0, ec]
  · rcases hok k i ok with ⟨rfl, rfl⟩ | ⟨rfl, rfl⟩ | ⟨rfl, rfl⟩ | ⟨ok0, n5, n6, ec⟩
    · rcases hok _ i2 ok2 with ⟨_, rfl⟩ | ⟨q, _⟩ | ⟨rfl, rfl⟩ | ⟨ok0, n5, n6, ec⟩
      · rfl
      · omega
      · have := (hn ok2).1
        omega
      · exact absurd ((adr _ _ ok0 n6).symm.trans (e.symm.trans l5)) (nlst _ _ ok0 n5)
    · rcases hok _ i2 ok2 with ⟨q, _⟩ | ⟨_, rfl⟩ | ⟨rfl, rfl⟩ | ⟨ok0, n5, n6, ec⟩
      · omega
      · rfl
      · have := (hn ok2).1
        omega
      · exact absurd ((adr _ _ ok0 n6).symm.trans e.symm) (nrow _ _ ok0 n6)
    · have k5 := (hn ok).1
      rcases hok _ i2 ok2 with ⟨q, _⟩ | ⟨q, _⟩ | ⟨_, rfl⟩ | ⟨ok0, n5, n6, ec⟩
      · omega
      · omega
      · rfl
      · rw [cAd_lt _ _ _ (by omega), cAd_lt _ _ _ (by omega), hL _ _ ok0 (by omega)] at e
        exact absurd e.symm ((hn ok).2.2.2 _ ok0)
    · rcases hok _ i2 ok2 with ⟨rfl, rfl⟩ | ⟨rfl, rfl⟩ | ⟨rfl, rfl⟩ | ⟨ok3, n53, n63, ec3⟩
      · exact absurd ((adr _ _ ok0 n6).symm.trans (e.trans l5)) (nlst _ _ ok0 n5)
      · exact absurd ((adr _ _ ok0 n6).symm.trans e) (nrow _ _ ok0 n6)
      · have k5 := (hn ok2).1
        rw [cAd_lt _ _ _ (by omega), cAd_lt _ _ _ (by omega), hL _ _ ok0 (by omega)] at e
        exact absurd e ((hn ok2).2.2.2 _ ok0)
      · rw [adr _ _ ok0 n6, adr _ _ ok3 n63] at e
        exact hC.2.1 k i i2 ok0 ok3 e
  · rw [a3 a (fun z => ha (by rw [z]; exact (hC.1 5 j o5).2)) (fun z => ha (by rw [z]; exact prow))]
    exact hC.2.2.1.1 a ha
/-- the state in which a task waits at the end of a lock's list -/
def lAdd (σ : KS) (j t : Nat) : KS := sL (sN (sN (sI σ 60 (va_up (kI σ 60) j (kI σ 60 j + 1))) 61 (va_up (kN σ 61) j (ncap (kN σ 61 j) (kN σ 62 j)))) 62 (va_up (kN σ 62) j (kN σ 62 j + 1))) j (kL σ j ++ [t])
theorem lAdd_wf {w t : Nat} (hw : cWF σ) (hj : w < 4) (ht : t < kN σ 62 2) (hz : kN σ 62 (4 + w) ≤ 50) : cWF (lAdd σ (4 + w) t) := by
  obtain ⟨w1, w2, w3, w4⟩ := hw
  have u62 : ∀ i, i < 4 → kN (lAdd σ (4 + w) t) 62 i = kN σ 62 i := fun i hi => by
    show va_up (kN σ 62) (4 + w) (kN σ 62 (4 + w) + 1) i = _
    rw [va_up, if_neg (by omega)]
  refine ⟨?_, fun i hi => ?_, fun q hq => ?_, ?_⟩
  · rw [u62 0 (by decide), u62 1 (by decide), u62 2 (by decide), u62 3 (by decide)]
    exact w1
  · show va_up (kN σ 62) (4 + w) (kN σ 62 (4 + w) + 1) i ≤ va_up (kN σ 61) (4 + w) _ i ∧ va_up (kN σ 61) (4 + w) _ i ≤ 100
    by_cases z : i = 4 + w
    · subst z
      simp only [va_up, if_pos rfl]
      exact ncap_ok (w2 _ hi).1 (w2 _ hi).2 hz
    · simp only [va_up, if_neg z]
      exact w2 i hi
  · show ((va_up (kL σ) (4 + w) (kL σ (4 + w) ++ [t])) (4 + q)).length = va_up (kN σ 62) (4 + w) (kN σ 62 (4 + w) + 1) (4 + q) ∧ ∀ x ∈ (va_up (kL σ) (4 + w) (kL σ (4 + w) ++ [t])) (4 + q), x < kN (lAdd σ (4 + w) t) 62 2
    rw [u62 2 (by decide)]
    by_cases z : 4 + q = 4 + w
    · obtain rfl : q = w := by omega
      rw [vu_s, vu_s, List.length_append, List.length_singleton]
      refine ⟨by rw [(w3 q hq).1], fun x hx => ?_⟩
      rcases List.mem_append.mp hx with hx | hx
      · exact (w3 q hq).2 x hx
      · rw [List.mem_singleton.mp hx]
        exact ht
    · simp only [va_up, if_neg z]
      exact w3 q hq
  · rw [u62 0 (by decide), u62 1 (by decide), u62 2 (by decide)]
    exact w4
theorem l_addW (sz : Nat) (hC : CRep cs df P h0 L σ hh) (w t : Nat) (hj : w < 4) (hz : kN σ 62 (4 + w) ≤ 50) (ht : t < kN σ 62 2) : Met l yJx4a65c_add_9ea2d wsJx4a65c_add_9ea2d { frames := 6, cells := 1, slots := 200, locals := 170 } (mPre [.ref (L 5 (4 + w)), .ref (L 3 t)] D cs df hh sz) (va_Qi (fun (r : Int32) (h1 : mH) => CRep cs df P h0 L (lAdd σ (4 + w) t) h1 ∧ r = 1) (mB D hh sz) (mA hh sz)) 1 200 (mA hh sz) := by
  have hy : isEl hh (L 3 t) := hC.el (k := 3) ht (by decide)
  obtain ⟨R, hC⟩ := hC
  have hw := hC.2.2.2.1
  refine m_mono (l_add sz hC (4 + w) (L 3 t) (by omega) hz hy) (m_moni (fun r h1 => ?_))
  rintro ⟨⟨R1, hA⟩, rfl⟩
  refine ⟨⟨R1, hA.rep hC (k0 := 9) (i0 := 0) (by omega) hz (fun _ _ _ _ => rfl) ?_ ?_ ?_ (fun k i ok => ?_) (fun z => z.elim) (lAdd_wf hw hj ht hz) ?_⟩, rfl⟩
  · show va_up (kI σ 60) (4 + w) _ (4 + w) = _
    simp [va_up]
  · show va_up (kN σ 61) (4 + w) _ (4 + w) = _
    simp [va_up]
  · show va_up (kN σ 62) (4 + w) _ (4 + w) = _
    simp [va_up]
  · by_cases z5 : k = 5 ∧ i = 4 + w
    · exact Or.inl z5
    by_cases z6 : k = 6 ∧ i = 4 + w
    · exact Or.inr (Or.inl z6)
    have n5 : k = 5 → i ≠ 4 + w := fun a b => z5 ⟨a, b⟩
    have n6 : k = 6 → i ≠ 4 + w := fun a b => z6 ⟨a, b⟩
    refine Or.inr (Or.inr (Or.inr ⟨?_, n5, n6, ?_⟩))
    · have u62 : ∀ i, i < 4 → va_up (kN σ 62) (4 + w) (kN σ 62 (4 + w) + 1) i = kN σ 62 i := fun i hi => by rw [va_up, if_neg (by omega)]
      match k, ok with
      | 0, ok => exact ok
      | 1, ok => exact (u62 0 (by decide) ▸ (ok : i < va_up (kN σ 62) (4 + w) _ 0) : i < kN σ 62 0)
      | 2, ok => exact (u62 1 (by decide) ▸ (ok : i < va_up (kN σ 62) (4 + w) _ 1) : i < kN σ 62 1)
      | 3, ok => exact (u62 2 (by decide) ▸ (ok : i < va_up (kN σ 62) (4 + w) _ 2) : i < kN σ 62 2)
      | 4, ok => exact ok
      | 5, ok => exact ok
      | 6, ok =>
        refine ⟨ok.1, fun z => ok.2 ?_⟩
        show va_up (kN σ 61) (4 + w) _ i = 0
        rw [va_up, if_neg (n6 rfl)]
        exact z
    · match k with
      | 0 => rfl
      | 1 => rfl
      | 2 => rfl
      | 3 => rfl
      | 4 => rfl
      | 5 =>
        show (Sum.inr (2, [.int (va_up (kI σ 60) (4 + w) _ i), .ref (if va_up (kN σ 61) (4 + w) _ i = 0 then df else R1.1 i), .int (nI (va_up (kN σ 62) (4 + w) _ i))]) : va_E) = Sum.inr (2, [.int (kI σ 60 i), .ref (if kN σ 61 i = 0 then df else R.1 i), .int (nI (kN σ 62 i))])
        simp only [va_up, if_neg (n5 rfl), (hA.2.2.2.2.1 i (n5 rfl)).1]
      | 6 =>
        show (Sum.inl (cs.2.2.2.2.1, va_up (kN σ 61) (4 + w) _ i, .inr (.inr (.inr (.inr (R1.2 i))))) : va_E) = Sum.inl (cs.2.2.2.2.1, kN σ 61 i, .inr (.inr (.inr (.inr (R.2 i)))))
        simp only [va_up, if_neg (n6 rfl), (hA.2.2.2.2.1 i (n6 rfl)).2]
      | n + 7 => rfl
  · intro j hj8
    have h8 := hC.2.2.2.2 j hj8
    by_cases z : j = 4 + w
    · subst z
      have hlen := (hw.2.2.1 w hj).1
      have e62 : kN (lAdd σ (4 + w) t) 62 (4 + w) = kN σ 62 (4 + w) + 1 := by
        show va_up (kN σ 62) (4 + w) _ (4 + w) = _
        simp [va_up]
      have ekL : kL (lAdd σ (4 + w) t) (4 + w) = kL σ (4 + w) ++ [t] := by
        show va_up (kL σ) (4 + w) _ (4 + w) = _
        simp [va_up]
      rw [e62, hA.2.2.2.2.2]
      refine ⟨fun i hi => ?_, fun i hi => ?_⟩
      · unfold kE
        rw [if_neg (by omega), ekL]
        by_cases q : i = kN σ 62 (4 + w)
        · subst q
          simp only [va_up, if_pos rfl]
          rw [List.getD_eq_getElem?_getD, List.getElem?_append_right (by omega), hlen, Nat.sub_self]
          show some (L 3 t) = some (L (kd (4 + w)) t)
          have h3 : kd (4 + w) = 3 := by unfold kd; rw [if_neg (by omega), if_neg (by omega), if_neg (by omega), if_neg (by omega)]
          rw [h3]
        · simp only [va_up, if_neg q]
          rw [h8.1 i (by omega)]
          unfold kE
          rw [if_neg (by omega), List.getD_eq_getElem?_getD, List.getD_eq_getElem?_getD, List.getElem?_append_left (by omega)]
      · simp only [va_up, if_neg (by omega : ¬ i = kN σ 62 (4 + w))]
        exact h8.2 i (by omega)
    · have e62 : kN (lAdd σ (4 + w) t) 62 j = kN σ 62 j := by
        show va_up (kN σ 62) (4 + w) _ j = _
        rw [va_up, if_neg z]
      have ekE : ∀ i, kE (lAdd σ (4 + w) t) j i = kE σ j i := fun i => by
        have : kL (lAdd σ (4 + w) t) j = kL σ j := by
          show va_up (kL σ) (4 + w) _ j = _
          rw [va_up, if_neg z]
        unfold kE
        rw [this]
      rw [e62, (hA.2.2.2.2.1 j z).2]
      refine ⟨fun i hi => ?_, h8.2⟩
      rw [ekE]
      exact h8.1 i hi
/-- the state in which the place i of a lock's list is gone -/
def lRem (σ : KS) (j i : Nat) : KS := sL (sN (sI σ 60 (va_up (kI σ 60) j (kI σ 60 j + 1))) 62 (va_up (kN σ 62) j (kN σ 62 j - 1))) j ((kL σ j).eraseIdx i)
theorem lRem_wf {w i : Nat} (hw : cWF σ) (hj : w < 4) (hi : i < kN σ 62 (4 + w)) : cWF (lRem σ (4 + w) i) := by
  obtain ⟨w1, w2, w3, w4⟩ := hw
  have u62 : ∀ k, k < 4 → kN (lRem σ (4 + w) i) 62 k = kN σ 62 k := fun k hk => by
    show va_up (kN σ 62) (4 + w) (kN σ 62 (4 + w) - 1) k = _
    rw [vu_n _ _ (by omega)]
  refine ⟨?_, fun k hk => ?_, fun q hq => ?_, ?_⟩
  · rw [u62 0 (by decide), u62 1 (by decide), u62 2 (by decide), u62 3 (by decide)]
    exact w1
  · show va_up (kN σ 62) (4 + w) (kN σ 62 (4 + w) - 1) k ≤ kN σ 61 k ∧ kN σ 61 k ≤ 100
    have := w2 k hk
    by_cases z : k = 4 + w
    · subst z
      rw [vu_s]
      omega
    · rw [vu_n _ _ z]
      exact this
  · show ((va_up (kL σ) (4 + w) ((kL σ (4 + w)).eraseIdx i)) (4 + q)).length = va_up (kN σ 62) (4 + w) (kN σ 62 (4 + w) - 1) (4 + q) ∧ ∀ x ∈ (va_up (kL σ) (4 + w) ((kL σ (4 + w)).eraseIdx i)) (4 + q), x < kN (lRem σ (4 + w) i) 62 2
    rw [u62 2 (by decide)]
    by_cases z : 4 + q = 4 + w
    · obtain rfl : q = w := by omega
      rw [vu_s, vu_s]
      have h3 := w3 q hq
      refine ⟨by rw [List.length_eraseIdx_of_lt (by omega), h3.1], fun x hx => h3.2 x (List.mem_of_mem_eraseIdx hx)⟩
    · rw [vu_n _ _ z, vu_n _ _ z]
      exact w3 q hq
  · rw [u62 0 (by decide), u62 1 (by decide), u62 2 (by decide)]
    exact w4
theorem lRem_rep {w i : Nat} {h1 : mH} {g : Nat → Option Nat} (hC : CRepR cs df P h0 L R σ hh) (hj : w < 4) (hi : i < kN σ 62 (4 + w))
    (a1 : h1 (L 5 (4 + w)) = some (.inr (2, [.int (kI σ 60 (4 + w) + 1), .ref (R.1 (4 + w)), .int (nI (kN σ 62 (4 + w) - 1))])))
    (a2 : h1 (R.1 (4 + w)) = some (.inl (cs.2.2.2.2.1, kN σ 61 (4 + w), .inr (.inr (.inr (.inr g)))))) (a3 : ∀ a, a ≠ L 5 (4 + w) → a ≠ R.1 (4 + w) → h1 a = hh a)
    (hg : ∀ k, g k = if k < i then R.2 (4 + w) k else if k + 1 < kN σ 62 (4 + w) then R.2 (4 + w) (k + 1) else none) : CRep cs df P h0 L (lRem σ (4 + w) i) h1 := by
  have hw := hC.2.2.2.1
  have hn : ¬ kN σ 61 (4 + w) = 0 := by have := hC.cap (j := 4 + w) (by omega); omega
  have o5 : cOk σ 5 (4 + w) := by show 4 + w < 8; omega
  have o6 : cOk σ 6 (4 + w) := ⟨by omega, hn⟩
  have u62 : ∀ k, k < 4 → kN (lRem σ (4 + w) i) 62 k = kN σ 62 k := fun k hk => by
    show va_up (kN σ 62) (4 + w) (kN σ 62 (4 + w) - 1) k = _
    rw [vu_n _ _ (by omega)]
  have oks : ∀ k q, cOk (lRem σ (4 + w) i) k q → cOk σ k q := fun k q ok => by
    match k, ok with
    | 0, ok => exact ok
    | 1, ok => exact (u62 0 (by decide) ▸ (ok : q < kN (lRem σ (4 + w) i) 62 0) : q < kN σ 62 0)
    | 2, ok => exact (u62 1 (by decide) ▸ (ok : q < kN (lRem σ (4 + w) i) 62 1) : q < kN σ 62 1)
    | 3, ok => exact (u62 2 (by decide) ▸ (ok : q < kN (lRem σ (4 + w) i) 62 2) : q < kN σ 62 2)
    | 4, ok => exact ok
    | 5, ok => exact ok
    | 6, ok => exact ok
  refine ⟨(R.1, va_up R.2 (4 + w) g), fun k q ok => ?_, fun k q q2 ok ok2 e => ?_, ⟨fun a ha => ?_, hC.2.2.1.2⟩, lRem_wf hw hj hi, fun j hj8 => ?_⟩
  · have ok0 := oks k q ok
    have ad : cAd L (R.1, va_up R.2 (4 + w) g) k q = cAd L R k q := by
      match k with
      | 0 => rfl
      | 1 => rfl
      | 2 => rfl
      | 3 => rfl
      | 4 => rfl
      | 5 => rfl
      | 6 => rfl
      | n + 7 => rfl
    rw [ad]
    refine ⟨?_, (hC.1 k q ok0).2⟩
    by_cases z5 : k = 5 ∧ q = 4 + w
    · obtain ⟨rfl, rfl⟩ := z5
      show h1 (L 5 (4 + w)) = some (.inr (2, [.int (va_up (kI σ 60) (4 + w) _ (4 + w)), .ref (if kN σ 61 (4 + w) = 0 then df else R.1 (4 + w)), .int (nI (va_up (kN σ 62) (4 + w) _ (4 + w)))]))
      rw [vu_s, vu_s, a1, if_neg hn]
    by_cases z6 : k = 6 ∧ q = 4 + w
    · obtain ⟨rfl, rfl⟩ := z6
      show h1 (R.1 (4 + w)) = some (.inl (cs.2.2.2.2.1, kN σ 61 (4 + w), .inr (.inr (.inr (.inr (va_up R.2 (4 + w) g (4 + w)))))))
      rw [vu_s, a2]
    rw [a3 _ (fun z => z5 (hC.inj (k2 := 5) (i2 := 4 + w) ok0 o5 z)) (fun z => z6 (hC.inj (k2 := 6) (i2 := 4 + w) ok0 o6 z)), hC.at ok0]
    match k with
    | 0 => rfl
    | 1 => rfl
    | 2 => rfl
    | 3 => rfl
    | 4 => rfl
    | 5 =>
      have n5 : q ≠ 4 + w := fun z => z5 ⟨rfl, z⟩
      show some (Sum.inr (2, [.int (kI σ 60 q), .ref (if kN σ 61 q = 0 then df else R.1 q), .int (nI (kN σ 62 q))]) : va_E) = some (Sum.inr (2, [.int (va_up (kI σ 60) (4 + w) _ q), .ref (if kN σ 61 q = 0 then df else R.1 q), .int (nI (va_up (kN σ 62) (4 + w) _ q))]))
      rw [vu_n _ _ n5, vu_n _ _ n5]
    | 6 =>
      have n6 : q ≠ 4 + w := fun z => z6 ⟨rfl, z⟩
      show some (Sum.inl (cs.2.2.2.2.1, kN σ 61 q, .inr (.inr (.inr (.inr (R.2 q))))) : va_E) = some (Sum.inl (cs.2.2.2.2.1, kN σ 61 q, .inr (.inr (.inr (.inr (va_up R.2 (4 + w) g q))))))
      rw [vu_n _ _ n6]
    | n + 7 => rfl
  · refine hC.2.1 k q q2 (oks _ _ ok) (oks _ _ ok2) ?_
    match k, e with
    | 0, e => exact e
    | 1, e => exact e
    | 2, e => exact e
    | 3, e => exact e
    | 4, e => exact e
    | 5, e => exact e
    | 6, e => exact e
    | n + 7, e => exact e
  · rw [a3 a (fun z => ha (by rw [z]; exact (hC.1 5 _ o5).2)) (fun z => ha (by rw [z]; exact (hC.1 6 _ o6).2))]
    exact hC.2.2.1.1 a ha
  · have h8 := hC.2.2.2.2 j hj8
    by_cases z : j = 4 + w
    · subst z
      have hlen := (hw.2.2.1 w hj).1
      have e62 : kN (lRem σ (4 + w) i) 62 (4 + w) = kN σ 62 (4 + w) - 1 := vu_s _ _ _
      have ekL : kL (lRem σ (4 + w) i) (4 + w) = (kL σ (4 + w)).eraseIdx i := vu_s _ _ _
      show (∀ k, k < kN (lRem σ (4 + w) i) 62 (4 + w) → va_up R.2 (4 + w) g (4 + w) k = _) ∧ ∀ k, kN (lRem σ (4 + w) i) 62 (4 + w) ≤ k → va_up R.2 (4 + w) g (4 + w) k = none
      rw [e62, vu_s]
      refine ⟨fun k hk => ?_, fun k hk => ?_⟩
      · rw [hg]
        have n4 : ¬ 4 + w < 4 := by omega
        unfold kE
        rw [if_neg n4, ekL, List.getD_eq_getElem?_getD, List.getElem?_eraseIdx]
        by_cases q : k < i
        · rw [if_pos q, if_pos q, h8.1 k (by omega)]
          unfold kE
          rw [if_neg n4, List.getD_eq_getElem?_getD]
        · rw [if_neg q, if_neg q, if_pos (by omega), h8.1 (k + 1) (by omega)]
          unfold kE
          rw [if_neg n4, List.getD_eq_getElem?_getD]
      · rw [hg, if_neg (by omega), if_neg (by omega)]
    · have e62 : kN (lRem σ (4 + w) i) 62 j = kN σ 62 j := vu_n _ _ z
      have ekE : ∀ k, kE (lRem σ (4 + w) i) j k = kE σ j k := fun k => by
        have : kL (lRem σ (4 + w) i) j = kL σ j := vu_n _ _ z
        unfold kE
        rw [this]
      show (∀ k, k < kN (lRem σ (4 + w) i) 62 j → va_up R.2 (4 + w) g j k = _) ∧ ∀ k, kN (lRem σ (4 + w) i) 62 j ≤ k → va_up R.2 (4 + w) g j k = none
      rw [e62, vu_n _ _ z]
      refine ⟨fun k hk => ?_, h8.2⟩
      rw [ekE]
      exact h8.1 k hk
theorem l_remW (sz : Nat) (hC : CRep cs df P h0 L σ hh) (w i : Nat) (hj : w < 4) (hi : i < kN σ 62 (4 + w)) : Met l yJx4a65c_remove_915e3 wsJx4a65c_remove_915e3 { frames := 2, cells := 0, slots := 0, locals := 83 } (mPre [.ref (L 5 (4 + w)), .int (nI i)] D cs df hh sz) (va_Qq (fun (r : Option Nat) (h1 : mH) => CRep cs df P h0 L (lRem σ (4 + w) i) h1 ∧ r = some (L 3 ((kL σ (4 + w)).getD i 0))) (mB D hh sz) (mA hh sz)) 0 0 (mA hh sz) := by
  obtain ⟨R, hC⟩ := hC
  have hj8 : 4 + w < 8 := by omega
  obtain ⟨c1, c2⟩ := hC.cap hj8
  have hn : ¬ kN σ 61 (4 + w) = 0 := by omega
  have h8 := hC.2.2.2.2 (4 + w) hj8
  have n0 : R.1 (4 + w) ≠ L 5 (4 + w) := m_dif (hC.row hj8 hn) (hC.lst hj8) nofun
  have hr : R.2 (4 + w) i = some (L 3 ((kL σ (4 + w)).getD i 0)) := by
    rw [h8.1 i hi]
    have h3 : kd (4 + w) = 3 := by unfold kd; rw [if_neg (by omega), if_neg (by omega), if_neg (by omega), if_neg (by omega)]
    unfold kE
    rw [h3, if_neg (by omega)]
  by_cases hM : i + 1 < kN σ 62 (4 + w)
  · refine m_mono (c_Jx4a65c_remove_915e3_M sz (L 5 (4 + w)) i (hC.lst1 hj8 hn) (hC.row hj8 hn) c1 c2 hM (hC.els hj8)) (m_monq (fun r h1 => ?_))
    rintro ⟨e1, rfl⟩
    refine ⟨lRem_rep hC hj hi (g := va_up (va_cpy (R.2 (4 + w)) (R.2 (4 + w)) (i + 1) i (kN σ 62 (4 + w) - 1 - i)) (kN σ 62 (4 + w) - 1) none) ?_ ?_ (fun a ha hb => ?_) (fun k => ?_), hr⟩
    · rw [e1, mu_n (Ne.symm n0), mu_s]
    · rw [e1, mu_s]
    · rw [e1, mu_n hb, mu_n ha, mu_n hb, mu_n ha]
    · by_cases q : k = kN σ 62 (4 + w) - 1
      · rw [q, vu_s, if_neg (by omega), if_neg (by omega)]
      · rw [vu_n _ _ q]
        unfold va_cpy
        by_cases q1 : k < i
        · rw [if_neg (by omega), if_pos q1]
        · rw [if_neg q1]
          by_cases q2 : k + 1 < kN σ 62 (4 + w)
          · rw [if_pos (by omega), if_pos q2]
            rw [show i + 1 + (k - i) = k + 1 by omega]
          · rw [if_neg (by omega), if_neg q2]
            exact h8.2 k (by omega)
  · refine m_mono (c_Jx4a65c_remove_915e3_E sz (L 5 (4 + w)) i (hC.lst1 hj8 hn) (hC.row hj8 hn) c1 c2 (by omega) (hC.els hj8)) (m_monq (fun r h1 => ?_))
    rintro ⟨e1, rfl⟩
    refine ⟨lRem_rep hC hj hi (g := va_up (R.2 (4 + w)) (kN σ 62 (4 + w) - 1) none) ?_ ?_ (fun a ha hb => ?_) (fun k => ?_), hr⟩
    · rw [e1, mu_n (Ne.symm n0), mu_s]
    · rw [e1, mu_s]
    · rw [e1, mu_n hb, mu_n ha, mu_n ha]
    · by_cases q : k = kN σ 62 (4 + w) - 1
      · rw [q, vu_s, if_neg (by omega), if_neg (by omega)]
      · rw [vu_n _ _ q]
        by_cases q1 : k < i
        · rw [if_pos q1]
        · rw [if_neg q1, if_neg (by omega)]
          exact h8.2 k (by omega)
end LST
