/-! THE WHOLE TICK, and pass -/
theorem Mid.tick {n C : Nat} {K : Int} {P Q σ1 μ1 : KS} (M : Mid n C K P Q) (eC : kN Q 3 0 = C) (hC : C ≤ 3) (hK : K ≤ 30240 * ((kI Q 0 0).toInt + 1)) (e12 : ∀ c, c < C → kO P 12 c = kO Q 30 c)
    (s2 : kI σ1 2 0 = kI P 2 0 + 1) (s5 : kI σ1 5 0 = kI P 5 0 + nI C) (s11 : ∀ c, c < C → kI σ1 11 c = hnS P c) (hI : ∀ f, f ≠ 2 → f ≠ 5 → f ≠ 11 → kI σ1 f = kI P f) (hW : kW σ1 = kW P) (hN : kN σ1 = kN P) (hO : kO σ1 = kO P) (hB : kB σ1 = kB P) (hL : kL σ1 = kL P)
    (m0 : kI μ1 0 0 = kI Q 0 0 + 1) (m2 : ∀ c, c < C → kI μ1 2 c = hnM Q c) (m2b : ∀ c, C ≤ c → kI μ1 2 c = kI Q 2 c) (mI : ∀ f, f ≠ 0 → f ≠ 2 → kI μ1 f = kI Q f) (mW : kW μ1 = kW Q) (mN : kN μ1 = kN Q) (mO : kO μ1 = kO Q) (mB : kB μ1 = kB Q) : Rel n σ1 μ1 := by
  obtain ⟨⟨b1, b2, b3, b4, b5, b6⟩, a2, ⟨t1, t2, t3, t4⟩, a4, a5, a6, a7, a8, a9⟩ := M
  have o1 : (1 : Int32).toInt = 1 := by decide
  have sT : (kI Q 0 0 + 1).toInt = (kI Q 0 0).toInt + (1 : Int32).toInt := i32_add (by rw [o1]; omega) (by rw [o1]; omega)
  rw [o1] at sT
  refine ⟨⟨?_, ?_, ?_, ?_, ?_, ?_⟩, ?_, ⟨?_, ?_, ?_, ?_⟩, fun x hx => ?_, fun g h0 hg => ?_, ?_, fun x hx => ?_, ?_, fun x hx => ?_⟩
  · rw [hI 0 (by decide) (by decide) (by decide), mI 4 (by decide) (by decide)]; exact b1
  · rw [hI 1 (by decide) (by decide) (by decide), mI 5 (by decide) (by decide)]; exact b2
  · rw [s2, m0, b3]
  · rw [hI 3 (by decide) (by decide) (by decide), mI 27 (by decide) (by decide)]; exact b4
  · rw [hI 4 (by decide) (by decide) (by decide), mI 28 (by decide) (by decide)]; exact b5
  · rw [s5, mI 29 (by decide) (by decide)]; exact b6
  · unfold rN
    rw [hN, mN]
    exact a2
  · rw [m0, sT]; omega
  · rw [m0, sT]; omega
  · rw [mI 29 (by decide) (by decide)]; exact t3
  · rw [m0, sT, mI 29 (by decide) (by decide)]; omega
  · rw [mN] at hx
    obtain ⟨p1, p2, p3, p4, p5⟩ := a4 x hx
    obtain ⟨q1, q2, q3⟩ := heat_eq a4 hx b1 (e12 x (by omega)) t2
    rw [hI 10 (by decide) (by decide) (by decide), s11 x (by omega), mI 1 (by decide) (by decide), m2 x (by omega), m0, sT]
    exact ⟨p1, q1, p3, q2, by omega⟩
  · rw [mN] at hg
    obtain ⟨c1, c2, c3, c4, c5, c6⟩ := a5 g h0 hg
    rw [hO, hI 22 (by decide) (by decide) (by decide), hW, mN, mI 7 (by decide) (by decide), mW, m0, sT]
    exact ⟨c1, c2, c3, c4, c5, by omega⟩
  · exact a6.c (by rw [mN]) (by rw [mN]) (mI 19 (by decide) (by decide)) (by rw [mN]) (by rw [mN]) (hI 24 (by decide) (by decide) (by decide))
  · rw [mN] at hx
    obtain ⟨c, d1, d2, d3, d4⟩ := a7 x hx
    rw [hN, hI 32 (by decide) (by decide) (by decide), hW, hI 34 (by decide) (by decide) (by decide), hI 35 (by decide) (by decide) (by decide), hB, hI 37 (by decide) (by decide) (by decide), hI 41 (by decide) (by decide) (by decide), hO, hI 38 (by decide) (by decide) (by decide), hI 39 (by decide) (by decide) (by decide), hI 40 (by decide) (by decide) (by decide), mN, mI 11 (by decide) (by decide), mW, mI 13 (by decide) (by decide), mI 19 (by decide) (by decide), mB, mI 14 (by decide) (by decide), mI 18 (by decide) (by decide), mO, mI 15 (by decide) (by decide), mI 16 (by decide) (by decide), mI 17 (by decide) (by decide), m0, sT]
    exact ⟨c, d1, ⟨d2.1, by omega⟩, d3, d4⟩
  · exact a8.c hL (by rw [hO]) (fun l hl => by rw [hN]) (by rw [mN]) (by rw [mO]) (by rw [mO]) (mI 23 (by decide) (by decide)) (by rw [mI 25 (by decide) (by decide)])
  · rw [mN, eC] at hx
    rw [m2b x hx]
    exact a9 x (by rw [eC]; exact hx)
theorem tick_eq {n : Nat} {σ μ : KS} (R : Rel n σ μ) (hd : dWF μ) (hp : kO σ 20 0 = none) (hT : (kI μ 0 0).toInt < 900) : Rel n (tickS σ) (tkM μ).2 ∧ kI (tickS σ) 24 0 = kI σ 24 0 + (tkM μ).1 ∧ (kN (tkM μ).2 = kN μ ∧ kO (tkM μ).2 22 = kO μ 22 ∧ kO (tkM μ).2 26 = kO μ 26 ∧ kI (tkM μ).2 33 = kI μ 33) ∧ kO (tickS σ) 20 = kO σ 20 ∧ kI (tkM μ).2 0 0 = kI μ 0 0 + 1 := by
  obtain ⟨r1, r2, r3⟩ := rel_all R hT (kN μ 24 0) (Nat.le_refl _)
  have rk := rl_pk μ (kN μ 24 0)
  have hd1 := rk.wf hd
  have eN2 : kN σ 62 2 = kN μ 24 0 := R.2.1.2.2
  have eN0 : kN σ 62 0 = kN μ 3 0 := R.2.1.1
  obtain ⟨g1, g2, g3⟩ := cho_eqb true r1 hd1 (by rw [r2]; exact hp)
  have e1 : tk1 σ = choS true (relS (kN μ 24 0) σ) := by
    unfold tk1
    rw [eN2]
  have R2 : Rel n (tk1 σ) (t1M μ) := by
    rw [e1]
    exact r1.sf g1 g2
  have pk1 : PK μ (t1M μ) := rk.tr g2.pk
  have hd2 := pk1.wf hd
  have o20 : kO (tk1 σ) 20 = kO σ 20 := by rw [e1, g1.2.2.2.1 20 (by decide), r2]
  have o24 : kI (tk1 σ) 24 = kI σ 24 := by rw [e1, g1.1 24 (by decide), r3]
  have T2 : (kI (t1M μ) 0 0).toInt < 900 := by
    rw [pk1.2.2.2.2]
    exact hT
  have n3 : kN (t1M μ) 3 0 = kN μ 3 0 := by rw [pk1.1]
  have e12 : ∀ i, i < kN (t1M μ) 3 0 → kO (tk1 σ) 12 i = kO (t1M μ) 30 i := by
    intro i hi
    rw [n3] at hi
    rw [e1]
    exact g3 i (by rw [rk.1]; exact hi)
  have h30 : ∀ c, c < kN (t1M μ) 3 0 → ∀ t, kO (t1M μ) 30 c = some t → t < kN (t1M μ) 24 0 := by
    intro c hc t e
    rw [n3] at hc
    rw [pk1.1]
    exact t1M_30 hd c hc t e
  obtain ⟨w1, w2, w3, w4, w5, w6⟩ := work_all (R2.mid T2) (by omega) hd2 (by rw [o20]; exact hp) e12 h30 (kN μ 3 0) (by rw [n3]; exact Nat.le_refl _)
  have c3 := hd.1.1
  have TQ : kI (wlM (t1M μ) (kN μ 3 0)).2 0 = kI μ 0 := w5.2.2.2.2.trans pk1.2.2.2.2
  have NQ : kN (wlM (t1M μ) (kN μ 3 0)).2 = kN μ := w5.1.trans pk1.1
  obtain ⟨⟨h1, h2, h3, h4, h5, h6⟩, h7, h8⟩ := htL_spec (wkL (kN μ 3 0) (tk1 σ)) (kN μ 3 0)
  obtain ⟨⟨q1, q2, q3, q4, q5⟩, q7, q8⟩ := htM_spec (wlM (t1M μ) (kN μ 3 0)).2 (kN μ 3 0)
  have eA : tk2 σ = htL (kN μ 3 0) (wkL (kN μ 3 0) (tk1 σ)) := by
    unfold tk2
    rw [eN0]
  have pick : ∀ c, c < kN μ 3 0 → kO (wkL (kN μ 3 0) (tk1 σ)) 12 c = kO (wlM (t1M μ) (kN μ 3 0)).2 30 c := by
    intro c hc
    rw [w3, w6]
    exact e12 c (by rw [n3]; exact hc)
  have eB : t2M μ = htM (kN μ 3 0) (wlM (t1M μ) (kN μ 3 0)).2 := rfl
  have eC : tkM μ = ((wlM (t1M μ) (kN μ 3 0)).1, sI (t2M μ) 0 (va_up (kI (t2M μ) 0) 0 (kI (t2M μ) 0 0 + 1))) := rfl
  have pk5 := pk1.tr w5
  rw [pk1.2.2.2.2] at w1
  unfold tickS
  rw [eC, eB, eA, eN0]
  generalize wkL (kN μ 3 0) (tk1 σ) = P at w1 w2 w3 w4 h1 h2 h3 h4 h5 h6 h7 h8 pick ⊢
  generalize wlM (t1M μ) (kN μ 3 0) = Q at w1 w2 w5 w6 pk5 TQ NQ q1 q2 q3 q4 q5 q7 q8 pick ⊢
  generalize htL (kN μ 3 0) P = A at h1 h2 h3 h4 h5 h6 h7 h8 ⊢
  generalize htM (kN μ 3 0) Q.2 = B at q1 q2 q3 q4 q5 q7 q8 ⊢
  refine ⟨Mid.tick (C := kN μ 3 0) w1 (by rw [NQ]) c3 (by rw [TQ]; omega) pick ?_ ?_ ?_ ?_ ?_ ?_ ?_ ?_ ?_ ?_ ?_ ?_ ?_ ?_ ?_ ?_ ?_, ?_, ⟨?_, ?_, ?_, ?_⟩, ?_, ?_⟩
  · rw [← h1 2 (by decide)]
    exact vu_s (kI A 2) 0 (kI A 2 0 + 1)
  · rw [← h1 5 (by decide)]
    exact vu_s (kI A 5) 0 (kI A 5 0 + nI (kN μ 3 0))
  · intro c hc
    exact h7 c hc
  · intro f f2 f5 f11
    exact (vu_n _ _ f2).trans ((vu_n _ _ f5).trans (h1 f f11))
  · exact h2
  · exact h3
  · exact h4
  · exact h5
  · exact h6
  · rw [← q1 0 (by decide)]
    exact vu_s (kI B 0) 0 (kI B 0 0 + 1)
  · intro c hc
    exact q7 c hc
  · intro c hc
    exact q8 c hc
  · intro f f0 f2
    exact (vu_n _ _ f0).trans (q1 f f2)
  · exact q2
  · exact q3
  · exact q4
  · exact q5
  · show kI A 24 0 = kI σ 24 0 + Q.1
    rw [h1 24 (by decide), w2, o24]
  · show kN B = kN μ
    rw [q3, NQ]
  · show kO B 22 = kO μ 22
    rw [q4, pk5.2.1]
  · show kO B 26 = kO μ 26
    rw [q4, pk5.2.2.1]
  · show kI B 33 = kI μ 33
    rw [q1 33 (by decide), pk5.2.2.2.1]
  · show kO A 20 = kO σ 20
    rw [h4, w4, o20]
  · show va_up (kI B 0) 0 (kI B 0 0 + 1) 0 = kI μ 0 0 + 1
    rw [vu_s, q1 0 (by decide), TQ]
theorem pass_all {n : Nat} {σ μ : KS} (R : Rel n σ μ) (hd : dWF μ) (hp : kO σ 20 0 = none) (k : Nat) (hT : (kI μ 0 0).toInt + k ≤ 900) : ∀ m, m ≤ k → Rel n (tkN m σ) (tnM μ m).2 ∧ kI (tkN m σ) 24 0 = kI σ 24 0 + (tnM μ m).1 ∧ (kN (tnM μ m).2 = kN μ ∧ kO (tnM μ m).2 22 = kO μ 22 ∧ kO (tnM μ m).2 26 = kO μ 26) ∧ kI (tnM μ m).2 33 = kI μ 33 ∧ kO (tkN m σ) 20 = kO σ 20 ∧ (kI (tnM μ m).2 0 0).toInt = (kI μ 0 0).toInt + m := by
  have T0 := R.2.2.1.1
  have o1 : (1 : Int32).toInt = 1 := by decide
  intro m
  induction m with
  | zero =>
    intro _
    exact ⟨R, (Int32.add_zero _).symm, ⟨rfl, rfl, rfl⟩, rfl, rfl, by show (kI μ 0 0).toInt = (kI μ 0 0).toInt + ((0 : Nat) : Int); omega⟩
  | succ m ih =>
    intro hm
    obtain ⟨i1, i2, ⟨i3, i3b, i3c⟩, i4, i5, i6⟩ := ih (by omega)
    obtain ⟨j1, j2, ⟨j3, j4, j5, j6⟩, j7, j8⟩ := tick_eq i1 (dWF_same hd i3 i3b i3c) (by rw [i5]; exact hp) (by rw [i6]; omega)
    refine ⟨j1, ?_, ⟨j3.trans i3, j4.trans i3b, j5.trans i3c⟩, j6.trans i4, j7.trans i5, ?_⟩
    · show kI (tickS (tkN m σ)) 24 0 = kI σ 24 0 + ((tnM μ m).1 + (tkM (tnM μ m).2).1)
      rw [j2, i2, Int32.add_assoc]
    · show (kI (tkM (tnM μ m).2).2 0 0).toInt = _
      have s : (kI (tnM μ m).2 0 0 + 1).toInt = (kI (tnM μ m).2 0 0).toInt + (1 : Int32).toInt := i32_add (by rw [o1, i6]; omega) (by rw [o1, i6]; omega)
      rw [j8, s, i6, o1]
      omega
theorem s_pass {n : Nat} {σ μ : KS} {x0 : Int32} {r : Int32} {v : Int64} {σ1 : KS} {b : Int32} {μ1 : KS} (hc : cWF σ) (hd : dWF μ) (R : Rel n σ μ) (h1 : oc_pass σ x0 r v σ1) (h2 : om_pass μ x0 b μ1) : okR n r v b.toInt64 σ1 μ1 := by
  have eT : kI σ 2 0 = kI μ 0 0 := R.1.2.2.1
  have T0 := R.2.2.1.1
  have T9 := R.2.2.1.2.1
  have o1 : (1 : Int32).toInt = 1 := by decide
  have o50 : (50 : Int32).toInt = 50 := by decide
  have o900 : (900 : Int32).toInt = 900 := by decide
  have rgn : ∀ k, inR x0 51 = some k → 1 ≤ k → rg x0 1 50 = true := by
    intro k e h
    obtain ⟨f1, f2⟩ := inR_some e
    have t : x0.toInt = k := by
      rw [f1]
      exact nI_toInt (by omega)
    exact rg_t.mpr ⟨Int32.le_iff_toInt_le.mpr (by rw [o1]; omega), Int32.le_iff_toInt_le.mpr (by rw [o50]; omega)⟩
  rcases h1 with ⟨k, rfl, ⟨p1, p2, p3⟩, rfl, rfl⟩ | ⟨rfl, p1, rfl⟩ | ⟨rfl, ⟨p1, p2, p3⟩, rfl⟩ <;> rcases h2 with ⟨q1, rfl⟩ | ⟨q1, q2, rfl⟩ | ⟨k2, q1, q2, q3, rfl, rfl⟩
  · rw [rgn k p1 p2] at q1
    cases q1
  · rw [eT] at p3
    exact absurd p3 q2
  · cases p1.symm.trans q1
    obtain ⟨f1, f2⟩ := inR_some p1
    have t : x0.toInt = k := by
      rw [f1]
      exact nI_toInt (by omega)
    have l := toI_le q3
    have sx : (kI μ 0 0 + x0).toInt = (kI μ 0 0).toInt + x0.toInt := i32_add (by omega) (by omega)
    rw [sx, t, o900] at l
    obtain ⟨g1, g2, g3, g4, g5, g6⟩ := pass_all (R.th 0) (μ := thS μ 0) hd hc.2.2.2.2.1.1 k l k (Nat.le_refl _)
    refine ⟨by rw [g4]; exact th33 μ 0, fun _ => ?_, g1.mono (Nat.le_succ n)⟩
    rw [g2, Int32.add_comm, Int32.add_sub_cancel]
  · exact ⟨th33 _ _, fun z => absurd z (by decide), (R.th 1).mono (Nat.le_succ n)⟩
  · exact absurd q1 (rg_p p1)
  · exact absurd (rgn k2 q1 q2) (rg_p p1)
  · rw [rg_n (fun z => z.elim p1 (fun y => absurd p2 (Int32.not_le.mpr y)))] at q1
    cases q1
  · exact ⟨th33 _ _, fun z => absurd z (by decide), (R.th 2).mono (Nat.le_succ n)⟩
  · rw [eT] at p3
    exact absurd q3 p3
