/-! WORK, side by side: up the groups on both sides -/
theorem iu_le {ν : KS} {g G : Nat} (h6 : ∀ a, 0 < a → a < G → kN ν 6 a < a) : ∀ F a, a < G → iuM ν g F a = true → g ≤ a := by
  intro F
  induction F with
  | zero =>
    intro a ha h
    have q : a = g := of_decide_eq_true h
    omega
  | succ F ih =>
    intro a ha h
    by_cases q : a = g
    · omega
    · rw [iuM, if_neg q] at h
      by_cases z : a = 0
      · rw [if_pos z] at h
        exact nomatch h
      · rw [if_neg z] at h
        have l := h6 a (by omega) ha
        have := ih _ (by omega) h
        omega
/-- up the groups, here -/
theorem upS_spec {ν : KS} {G : Nat} (u : Int32) (h6 : ∀ a, 0 < a → a < G → kN ν 6 a < a) : ∀ f a (τ : KS), a ≤ f → a < G → kO τ 20 0 = none → (∀ a, 0 < a → a < G → kO τ 20 a = some (kN ν 6 a)) → ((∀ k, k ≠ 24 → kI (upS u (f + 1) (some a) τ) k = kI τ k) ∧ (∀ k, k ≠ 23 → kW (upS u (f + 1) (some a) τ) k = kW τ k) ∧ kN (upS u (f + 1) (some a) τ) = kN τ ∧ kO (upS u (f + 1) (some a) τ) = kO τ ∧ kB (upS u (f + 1) (some a) τ) = kB τ ∧ kL (upS u (f + 1) (some a) τ) = kL τ) ∧ ∀ g F, a ≤ F → kI (upS u (f + 1) (some a) τ) 24 g = (if iuM ν g F a = true then kI τ 24 g + u else kI τ 24 g) ∧ kW (upS u (f + 1) (some a) τ) 23 g = (if iuM ν g F a = true then kW τ 23 g + u.toInt64 * (kI τ 22 g).toInt64 else kW τ 23 g) := by
  intro f
  induction f with
  | zero =>
    intro a τ ha hG hp h20
    obtain rfl : a = 0 := by omega
    rw [upS, hp, upS_none]
    refine ⟨⟨fun k hk => vu_n _ _ hk, fun k hk => vu_n _ _ hk, rfl, rfl, rfl, rfl⟩, fun g F _ => ?_⟩
    show va_up (kI τ) 24 (va_up (kI τ 24) 0 (kI τ 24 0 + u)) 24 g = _ ∧ va_up (kW τ) 23 (va_up (kW τ 23) 0 (kW τ 23 0 + u.toInt64 * (kI τ 22 0).toInt64)) 23 g = _
    rw [vu_s, vu_s]
    by_cases q : g = 0
    · subst q
      rw [vu_s, vu_s, if_pos (iuM_e ν 0 F), if_pos (iuM_e ν 0 F)]
      exact ⟨rfl, rfl⟩
    · have z : ¬ iuM ν g F 0 = true := fun y => by
        rw [iuM_z ν F (fun w => q w.symm)] at y
        exact nomatch y
      rw [vu_n _ _ q, vu_n _ _ q, if_neg z, if_neg z]
      exact ⟨rfl, rfl⟩
  | succ f ih =>
    intro a τ ha hG hp h20
    rw [upS]
    generalize hρ : sW (sI τ 24 (va_up (kI τ 24) a (kI τ 24 a + u))) 23 (va_up (kW τ 23) a (kW τ 23 a + u.toInt64 * (kI τ 22 a).toInt64)) = ρ
    have rI : ∀ k, k ≠ 24 → kI ρ k = kI τ k := fun k hk => by rw [← hρ]; exact vu_n _ _ hk
    have rW : ∀ k, k ≠ 23 → kW ρ k = kW τ k := fun k hk => by rw [← hρ]; exact vu_n _ _ hk
    have rN : kN ρ = kN τ := by rw [← hρ]; rfl
    have rO : kO ρ = kO τ := by rw [← hρ]; rfl
    have rB : kB ρ = kB τ := by rw [← hρ]; rfl
    have rL : kL ρ = kL τ := by rw [← hρ]; rfl
    have r24 : kI ρ 24 = va_up (kI τ 24) a (kI τ 24 a + u) := by rw [← hρ]; rfl
    have r23 : kW ρ 23 = va_up (kW τ 23) a (kW τ 23 a + u.toInt64 * (kI τ 22 a).toInt64) := by rw [← hρ]; rfl
    by_cases z : a = 0
    · rw [z, hp, upS_none]
      rw [z] at r24 r23
      refine ⟨⟨rI, rW, rN, rO, rB, rL⟩, fun g F _ => ?_⟩
      rw [r24, r23]
      by_cases q : g = 0
      · subst q
        rw [vu_s, vu_s, if_pos (iuM_e ν 0 F), if_pos (iuM_e ν 0 F)]
        exact ⟨rfl, rfl⟩
      · have zz : ¬ iuM ν g F 0 = true := fun y => by
          rw [iuM_z ν F (fun w => q w.symm)] at y
          exact nomatch y
        rw [vu_n _ _ q, vu_n _ _ q, if_neg zz, if_neg zz]
        exact ⟨rfl, rfl⟩
    · have l := h6 a (by omega) hG
      rw [h20 a (by omega) hG]
      obtain ⟨⟨j1, j2, j3, j4, j5, j6⟩, j7⟩ := ih (kN ν 6 a) ρ (by omega) (by omega) (by rw [rO]; exact hp) (fun b b0 b1 => by rw [rO]; exact h20 b b0 b1)
      refine ⟨⟨fun k hk => (j1 k hk).trans (rI k hk), fun k hk => (j2 k hk).trans (rW k hk), j3.trans rN, j4.trans rO, j5.trans rB, j6.trans rL⟩, fun g F hF => ?_⟩
      obtain ⟨F', rfl⟩ : ∃ F', F = F' + 1 := ⟨F - 1, by omega⟩
      obtain ⟨x1, x2⟩ := j7 g F' (by omega)
      rw [x1, x2, r24, r23, rI 22 (by decide), iuM]
      by_cases q : g = a
      · have n0 : ¬ iuM ν g F' (kN ν 6 a) = true := fun y => by
          have := iu_le h6 F' _ (by omega) y
          omega
        rw [if_neg n0, if_neg n0, if_pos q.symm, if_pos rfl, if_pos rfl, q, vu_s, vu_s]
        exact ⟨rfl, rfl⟩
      · rw [vu_n _ _ q, vu_n _ _ q, if_neg (show ¬ a = g from fun w => q w.symm), if_neg z]
        exact ⟨rfl, rfl⟩
/-- up the groups, in the reference -/
theorem upM_spec {ν : KS} {G : Nat} (u : Int32) (h6 : ∀ a, 0 < a → a < G → kN ν 6 a < a) : ∀ f a (ρ : KS), a ≤ f → a < G → kN ρ 6 = kN ν 6 → kI ρ 7 = kI ν 7 → (kI (upM u f a ρ) = kI ρ ∧ (∀ k, k ≠ 8 → kW (upM u f a ρ) k = kW ρ k) ∧ kN (upM u f a ρ) = kN ρ ∧ kO (upM u f a ρ) = kO ρ ∧ kB (upM u f a ρ) = kB ρ) ∧ ∀ g F, 0 < g → a ≤ F → kW (upM u f a ρ) 8 g = (if iuM ν g F a = true then kW ρ 8 g + (u * (2520 / kI ν 7 g)).toInt64 else kW ρ 8 g) := by
  intro f
  induction f with
  | zero =>
    intro a ρ ha hG e6 e7
    obtain rfl : a = 0 := by omega
    rw [upM_z]
    refine ⟨⟨rfl, fun _ _ => rfl, rfl, rfl, rfl⟩, fun g F hg _ => ?_⟩
    rw [if_neg (fun y => by rw [iuM_z ν F (by omega)] at y; exact nomatch y)]
  | succ f ih =>
    intro a ρ ha hG e6 e7
    by_cases z : a = 0
    · rw [z, upM_z]
      refine ⟨⟨rfl, fun _ _ => rfl, rfl, rfl, rfl⟩, fun g F hg _ => ?_⟩
      rw [if_neg (fun y => by rw [iuM_z ν F (by omega)] at y; exact nomatch y)]
    · rw [upM, if_neg z, e6, e7]
      generalize hκ : sW ρ 8 (va_up (kW ρ 8) a (kW ρ 8 a + (u * (2520 / kI ν 7 a)).toInt64)) = κ
      have rI : kI κ = kI ρ := by rw [← hκ]; rfl
      have rW : ∀ k, k ≠ 8 → kW κ k = kW ρ k := fun k hk => by rw [← hκ]; exact vu_n _ _ hk
      have rN : kN κ = kN ρ := by rw [← hκ]; rfl
      have rO : kO κ = kO ρ := by rw [← hκ]; rfl
      have rB : kB κ = kB ρ := by rw [← hκ]; rfl
      have r8 : kW κ 8 = va_up (kW ρ 8) a (kW ρ 8 a + (u * (2520 / kI ν 7 a)).toInt64) := by rw [← hκ]; rfl
      have l := h6 a (by omega) hG
      obtain ⟨⟨j1, j2, j3, j4, j5⟩, j7⟩ := ih (kN ν 6 a) κ (by omega) (by omega) (by rw [rN]; exact e6) (by rw [rI]; exact e7)
      refine ⟨⟨j1.trans rI, fun k hk => (j2 k hk).trans (rW k hk), j3.trans rN, j4.trans rO, j5.trans rB⟩, fun g F hg hF => ?_⟩
      obtain ⟨F', rfl⟩ : ∃ F', F = F' + 1 := ⟨F - 1, by omega⟩
      rw [j7 g F' hg (by omega), r8, iuM]
      by_cases q : g = a
      · have n0 : ¬ iuM ν g F' (kN ν 6 a) = true := fun y => by
          have := iu_le h6 F' _ (by omega) y
          omega
        rw [if_neg n0, if_pos q.symm, if_pos rfl, q, vu_s]
      · rw [vu_n _ _ q, if_neg (show ¬ a = g from fun w => q w.symm), if_neg z]
theorem wkm_spec (τ : KS) (c t : Nat) : (∀ k, k ≠ 3 → kI (wkm τ c t) k = kI τ k) ∧ kW (wkm τ c t) = kW τ ∧ kN (wkm τ c t) = kN τ ∧ kO (wkm τ c t) = kO τ ∧ kB (wkm τ c t) = kB τ ∧ kL (wkm τ c t) = kL τ ∧ kI (wkm τ c t) 3 0 = (if mvS τ c t = true then kI τ 3 0 + 1 else kI τ 3 0) := by
  unfold wkm
  by_cases q : mvS τ c t = true
  · rw [if_pos q, if_pos q]
    exact ⟨fun k hk => vu_n _ _ hk, rfl, rfl, rfl, rfl, rfl, kI_at τ 3 _ 0 _⟩
  · rw [if_neg q, if_neg q]
    exact ⟨fun k hk => rfl, rfl, rfl, rfl, rfl, rfl, rfl⟩
theorem pace_bd {s h l : Int32} (h1 : 1 ≤ s.toInt) (h4 : s.toInt ≤ 4) : 1 ≤ (paceS s h l).toInt ∧ (paceS s h l).toInt ≤ 4 := by
  unfold paceS
  by_cases q : l ≤ h
  · rw [if_pos q]
    rcases i32_u4 (by omega) h4 with rfl | rfl | rfl | rfl | rfl
    · exact absurd h1 (by decide)
    · decide +kernel
    · decide +kernel
    · decide +kernel
    · decide +kernel
  · rw [if_neg q]
    exact ⟨h1, h4⟩
/-- the units that a core does for a task, on both sides -/
theorem wk_u {n j c t : Nat} {K : Int} {τ ν : KS} (M : Mid n j K τ ν) (hc : c < kN ν 3 0) (ht : t < kN ν 24 0) : wku τ c t = wuM ν c t ∧ mvS τ c t = mvM ν c t ∧ 0 ≤ (wuM ν c t).toInt ∧ (wuM ν c t).toInt ≤ 4 ∧ (wuM ν c t).toInt ≤ (kI ν 13 t).toInt := by
  obtain ⟨⟨b1, b2, b3, b4, b5, b6⟩, a2, a3, a4, a5, a6, a7, a8, a9⟩ := M
  obtain ⟨p1, p2, p3, p4⟩ := a4 c hc
  obtain ⟨⟨c1, c2, c3, c4, c5, c6, c7, c8, c9, c10⟩, d1, d2, d3, d4⟩ := a7 t ht
  have ep : paceS (kI τ 10 c) (kI τ 11 c) (kI τ 0 0) = paM ν c := by
    unfold paM
    rw [p1, p2, b1]
  have em : mvS τ c t = mvM ν c t := by
    unfold mvS mvM
    rw [c10]
    cases kO ν 20 t <;> rfl
  have pb : 1 ≤ (paM ν c).toInt ∧ (paM ν c).toInt ≤ 4 := pace_bd p3.1 p3.2
  have o1 : (1 : Int32).toInt = 1 := by decide
  have ev : wkv τ c t = wvM ν c t := by
    unfold wkv wvM
    rw [em, ep, Int32.sub_zero, Int32.sub_eq_add_neg]
  have vb : 0 ≤ (wvM ν c t).toInt ∧ (wvM ν c t).toInt ≤ 4 := by
    have s1 : (paM ν c - 1).toInt = (paM ν c).toInt - (1 : Int32).toInt := i32_sub (by rw [o1]; omega) (by rw [o1]; omega)
    rw [o1] at s1
    unfold wvM
    rw [Int32.sub_zero]
    by_cases q : mvM ν c t = true
    · rw [if_pos q, s1]; omega
    · rw [if_neg q]; omega
  have eu : wku τ c t = wuM ν c t := by
    unfold wku wuM
    rw [ev, c4]
    by_cases q : kI ν 13 t ≤ wvM ν c t
    · rw [if_pos q]
      by_cases w : kI ν 13 t < wvM ν c t
      · rw [if_pos w]
      · rw [if_neg w]
        exact Int32.le_antisymm (Int32.not_lt.mp w) q
    · rw [if_neg q, if_neg (fun w => q (Int32.le_of_lt w))]
  refine ⟨eu, em, ?_⟩
  unfold wuM
  by_cases q : kI ν 13 t ≤ wvM ν c t
  · have := toI_le q
    rw [if_pos q]
    exact ⟨d3.1, by omega, by omega⟩
  · have := Int32.lt_iff_toInt_lt.mp (Int32.not_le.mp q)
    rw [if_neg q]
    exact ⟨vb.1, vb.2, by omega⟩
set_option maxHeartbeats 4000000 in
theorem mid_some {n j c t : Nat} {K : Int} {τ ν : KS} (M : Mid n j K τ ν) (hj : j < 3) (hK : K ≤ 30000000) (hd : dWF ν) (hp : kO τ 20 0 = none) (hc : c < kN ν 3 0) (ht : t < kN ν 24 0) : Mid n (j + 1) (K + 10080) (workS τ c t) (sI (sI (wkM ν c t) 28 (va_up (kI (wkM ν c t) 28) 0 (kI (wkM ν c t) 28 0 + 1))) 29 (va_up (kI (wkM ν c t) 29) 0 (kI (wkM ν c t) 29 0 + 1))) ∧ kI (workS τ c t) 24 0 = kI τ 24 0 + wuM ν c t ∧ kO (workS τ c t) 12 = kO τ 12 ∧ kO (workS τ c t) 20 = kO τ 20 ∧ PK ν (wkM ν c t) ∧ kO (wkM ν c t) 30 = kO ν 30 := by
  obtain ⟨eu, em, u0, u4, ul⟩ := wk_u M hc ht
  have M2 := M
  obtain ⟨⟨b1, b2, b3, b4, b5, b6⟩, a2, a3, a4, a5, a6, a7, a8, a9⟩ := M2
  have h6 : ∀ a, 0 < a → a < kN ν 9 0 → kN ν 6 a < a := fun a h0 h1 => hd.2.1 a h0 h1
  have h20 : ∀ a, 0 < a → a < kN ν 9 0 → kO τ 20 a = some (kN ν 6 a) := fun a h0 h1 => (a5 a h0 h1).1
  have G6 := hd.1.2.2.1
  have g0 := hd.2.2.1 t ht
  obtain ⟨⟨c1, c2, c3, c4, c5, c6, c7, c8, c9, c10⟩, _⟩ := a7 t ht
  obtain ⟨k1, k2, k3, k4, k5, k6, k7⟩ := wkm_spec τ c t
  unfold workS wkM
  rw [eu, c1]
  have ev0 : wmM ν c t = kI (wkm τ c t) 3 0 := by
    rw [k7, em, b4]
    unfold wmM
    rw [Int32.add_zero]
  generalize wuM ν c t = u at u0 u4 ul ⊢
  generalize wkm τ c t = σ1 at k1 k2 k3 k4 k5 k6 ev0 ⊢
  generalize wmM ν c t = v at ev0 ⊢
  generalize hρ : wk1 σ1 u c t = ρ
  generalize hπ : w1M ν v u c t = π
  have rO : ∀ f, f ≠ 43 → kO ρ f = kO τ f := fun f hf => by rw [← hρ, ← k4]; exact vu_n _ _ hf
  have r43 : kO ρ 43 = va_up (kO τ 43) t (some c) := by rw [← hρ, ← k4]; rfl
  have rI : ∀ f, f ≠ 3 → f ≠ 4 → f ≠ 34 → f ≠ 35 → kI ρ f = kI τ f := fun f h3 h4 h34 h35 => by
    rw [← hρ, ← k1 f h3]
    exact (vu_n _ _ h35).trans ((vu_n _ _ h34).trans (vu_n _ _ h4))
  have r3 : kI ρ 3 0 = v := by rw [← hρ, ev0]; rfl
  have r4 : kI ρ 4 0 = kI τ 4 0 + 1 := by
    rw [← hρ, ← k1 4 (by decide)]
    exact vu_s (kI σ1 4) 0 (kI σ1 4 0 + 1)
  have r34 : kI ρ 34 = va_up (kI τ 34) t (kI τ 34 t - u) := by rw [← hρ, ← k1 34 (by decide)]; rfl
  have r35 : kI ρ 35 = va_up (kI τ 35) t (kI τ 35 t + u) := by rw [← hρ, ← k1 35 (by decide)]; rfl
  have r33 : kW ρ 33 = va_up (kW τ 33) t (kW τ 33 t + u.toInt64 * (kI τ 32 t).toInt64) := by rw [← hρ, ← k2, ← k1 32 (by decide)]; rfl
  have rW : ∀ f, f ≠ 33 → kW ρ f = kW τ f := fun f hf => by rw [← hρ, ← k2]; exact vu_n _ _ hf
  have rN : kN ρ = kN τ := by rw [← hρ, ← k3]; rfl
  have rB : kB ρ = kB τ := by rw [← hρ, ← k5]; rfl
  have rL : kL ρ = kL τ := by rw [← hρ, ← k6]; rfl
  have pI : ∀ f, f ≠ 27 → f ≠ 13 → f ≠ 19 → kI π f = kI ν f := fun f h27 h13 h19 => by
    rw [← hπ]
    exact (vu_n _ _ h19).trans ((vu_n _ _ h13).trans (vu_n _ _ h27))
  have p27 : kI π 27 0 = v := by
    rw [← hπ]
    exact vu_s (kI ν 27) 0 v
  have p13 : kI π 13 = va_up (kI ν 13) t (kI ν 13 t - u) := by rw [← hπ]; rfl
  have p19 : kI π 19 = va_up (kI ν 19) t (kI ν 19 t + u) := by rw [← hπ]; rfl
  have p12 : kW π 12 = va_up (kW ν 12) t (kW ν 12 t + (u * (2520 / kI ν 11 t)).toInt64) := by rw [← hπ]; rfl
  have pW : ∀ f, f ≠ 12 → kW π f = kW ν f := fun f hf => by rw [← hπ]; exact vu_n _ _ hf
  have pN : kN π = kN ν := by rw [← hπ]; rfl
  have p20 : kO π 20 = va_up (kO ν 20) t (some c) := by rw [← hπ]; rfl
  have pO : ∀ f, f ≠ 20 → kO π f = kO ν f := fun f hf => by rw [← hπ]; exact vu_n _ _ hf
  have pB : kB π = kB ν := by rw [← hπ]; rfl
  obtain ⟨⟨s1, s2, s3, s4, s5, s6⟩, s7⟩ := upS_spec (ν := ν) (G := kN ν 9 0) u h6 5 (kN ν 10 t) ρ (by omega) g0 (by rw [rO 20 (by decide)]; exact hp) (fun a h0 h1 => by rw [rO 20 (by decide)]; exact h20 a h0 h1)
  obtain ⟨⟨z1, z2, z3, z4, z5⟩, z7⟩ := upM_spec (ν := ν) (G := kN ν 9 0) u h6 6 (kN ν 10 t) π (by omega) g0 (by rw [pN]) (pI 7 (by decide) (by decide) (by decide))
  generalize hτ : upS u 6 (some (kN ν 10 t)) ρ = τ1
  replace s1 : ∀ k, k ≠ 24 → kI τ1 k = kI ρ k := fun k hk => by rw [← hτ]; exact s1 k hk
  replace s2 : ∀ k, k ≠ 23 → kW τ1 k = kW ρ k := fun k hk => by rw [← hτ]; exact s2 k hk
  replace s3 : kN τ1 = kN ρ := by rw [← hτ]; exact s3
  replace s4 : kO τ1 = kO ρ := by rw [← hτ]; exact s4
  replace s5 : kB τ1 = kB ρ := by rw [← hτ]; exact s5
  replace s6 : kL τ1 = kL ρ := by rw [← hτ]; exact s6
  have s24 : ∀ g, kI τ1 24 g = if iuM ν g 6 (kN ν 10 t) = true then kI τ 24 g + u else kI τ 24 g := fun g => by
    rw [← hτ, ← rI 24 (by decide) (by decide) (by decide) (by decide)]
    exact (s7 g 6 (by omega)).1
  have s23 : ∀ g, kW τ1 23 g = if iuM ν g 6 (kN ν 10 t) = true then kW τ 23 g + u.toInt64 * (kI τ 22 g).toInt64 else kW τ 23 g := fun g => by
    rw [← hτ, ← rW 23 (by decide), ← rI 22 (by decide) (by decide) (by decide) (by decide)]
    exact (s7 g 6 (by omega)).2
  generalize upM u 6 (kN ν 10 t) π = κ at z1 z2 z3 z4 z5 z7 ⊢
  refine ⟨?_, ?_, by rw [s4, rO 12 (by decide)], by rw [s4, rO 20 (by decide)], ⟨by rw [z3, pN], by rw [z4, pO 22 (by decide)], by rw [z4, pO 26 (by decide)], by rw [z1, pI 33 (by decide) (by decide) (by decide)], by rw [z1, pI 0 (by decide) (by decide) (by decide)]⟩, by rw [z4, pO 30 (by decide)]⟩
  · refine Mid.work (t := t) (c := c) (u := u) M hj hK ht u0 u4 ul ?_ ?_ ?_ ?_ (fun g _ => s24 g) ?_ ?_ (fun g _ => s23 g) ?_ ?_ ?_ ?_ ?_ ?_ ?_ ?_ ?_ ?_ ?_ ?_ ?_ ?_ ?_ ?_
    · rw [s1 3 (by decide), r3]
      show v = kI κ 27 0
      rw [z1, p27]
    · rw [s1 4 (by decide), r4]
    · rw [s1 34 (by decide), r34]
    · rw [s1 35 (by decide), r35]
    · intro f h3 h4 h34 h35 h24
      rw [s1 f h24, rI f h3 h4 h34 h35]
    · rw [s2 33 (by decide), r33]
    · rw [s3, rN]
    · rw [s4, r43]
    · intro f hf
      rw [s4, rO f hf]
    · rw [s5, rB]
    · rw [s6, rL]
    · show va_up (kI κ 28) 0 (kI κ 28 0 + 1) 0 = _
      rw [vu_s, z1, pI 28 (by decide) (by decide) (by decide)]
    · show va_up (kI κ 29) 0 (kI κ 29 0 + 1) 0 = _
      rw [vu_s, z1, pI 29 (by decide) (by decide) (by decide)]
    · show kI κ 13 = _
      rw [z1, p13]
    · show kI κ 19 = _
      rw [z1, p19]
    · intro f h27 h28 h29 h13 h19
      refine (vu_n _ _ h29).trans ((vu_n _ _ h28).trans ?_)
      show kI κ f = kI ν f
      rw [z1, pI f h27 h13 h19]
    · show kW κ 12 = _
      rw [z2 12 (by decide), p12]
    · intro g h0 hg
      show kW κ 8 g = _
      rw [z7 g 6 h0 (by omega), pW 8 (by decide)]
    · show kN κ = _
      rw [z3, pN]
    · show kO κ 20 = _
      rw [z4, p20]
    · intro f hf
      show kO κ f = _
      rw [z4, pO f hf]
    · show kB κ = _
      rw [z5, pB]
  · rw [s24 0, if_pos (iu_root hd 6 (kN ν 10 t) (by omega) g0)]
