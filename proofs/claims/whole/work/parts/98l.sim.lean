/-! EVERY CALL KEEPS THE TWO STATES SIDE BY SIDE -/
theorem n_heat {μ : KS} {x0 : Int32} {b : Int32} {μ1 : KS} (h : NW μ) (h2 : om_heat μ x0 b μ1) : NW μ1 := by
  rcases h2 with ⟨t, q, rfl, z⟩ | ⟨q, rfl⟩
  · exact h
  · exact h
theorem n_pace {μ : KS} {x0 : Int32} {b : Int32} {μ1 : KS} (h : NW μ) (h2 : om_pace μ x0 b μ1) : NW μ1 := by
  rcases h2 with ⟨t, q, rfl, z⟩ | ⟨q, rfl⟩
  · exact h
  · exact h
theorem n_left {μ : KS} {x0 : Int32} {b : Int32} {μ1 : KS} (h : NW μ) (h2 : om_left μ x0 b μ1) : NW μ1 := by
  rcases h2 with ⟨t, q, rfl, z⟩ | ⟨q, rfl⟩
  · exact h
  · exact h
theorem n_timeOf {μ : KS} {x0 : Int32} {b : Int64} {μ1 : KS} (h : NW μ) (h2 : om_timeOf μ x0 b μ1) : NW μ1 := by
  rcases h2 with ⟨t, q, rfl, z⟩ | ⟨q, rfl⟩
  · exact h
  · exact h
theorem n_doneBy {μ : KS} {x0 : Int32} {b : Int32} {μ1 : KS} (h : NW μ) (h2 : om_doneBy μ x0 b μ1) : NW μ1 := by
  rcases h2 with ⟨t, q, rfl, z⟩ | ⟨q, rfl⟩
  · exact h
  · exact h
theorem n_missesOf {μ : KS} {x0 : Int32} {b : Int32} {μ1 : KS} (h : NW μ) (h2 : om_missesOf μ x0 b μ1) : NW μ1 := by
  rcases h2 with ⟨t, q, rfl, z⟩ | ⟨q, rfl⟩
  · exact h
  · exact h
theorem n_stateOf {μ : KS} {x0 : Int32} {b : Int32} {μ1 : KS} (h : NW μ) (h2 : om_stateOf μ x0 b μ1) : NW μ1 := by
  rcases h2 with ⟨t, q, rfl, z⟩ | ⟨q, rfl⟩
  · exact h
  · exact h
theorem n_setLimit {μ : KS} {x0 : Int32} {b : Int32} {μ1 : KS} (h : NW μ) (h2 : om_setLimit μ x0 b μ1) : NW μ1 := by
  rcases h2 with ⟨q, rfl, z⟩ | ⟨q, rfl⟩
  · exact h.c rfl rfl rfl
  · exact h.c rfl rfl rfl
theorem n_setCap {μ : KS} {x0 : Int32} {b : Int32} {μ1 : KS} (h : NW μ) (h2 : om_setCap μ x0 b μ1) : NW μ1 := by
  rcases h2 with ⟨q, rfl, z⟩ | ⟨q, rfl⟩
  · exact h.c rfl rfl rfl
  · exact h.c rfl rfl rfl
theorem n_addCore {μ : KS} {x0 : Int32} {b : Int32} {μ1 : KS} (h : NW μ) (h2 : om_addCore μ x0 b μ1) : NW μ1 := by
  rcases h2 with ⟨q, rfl⟩ | ⟨q, z, rfl⟩ | ⟨q, z, rfl, y⟩
  · exact h
  · exact h
  · exact h.c rfl rfl rfl
theorem n_timeOfGroup {μ : KS} {x0 : Int32} {b : Int64} {μ1 : KS} (h : NW μ) (h2 : om_timeOfGroup μ x0 b μ1) : NW μ1 := by
  rcases h2 with ⟨t, q, z, rfl, y⟩ | ⟨q, rfl⟩
  · exact h
  · exact h
theorem n_addGroup {μ : KS} {x0 x1 : Int32} {b : Int32} {μ1 : KS} (h : NW μ) (h2 : om_addGroup μ x0 x1 b μ1) : NW μ1 := by
  rcases h2 with ⟨q, rfl⟩ | ⟨q, z, rfl⟩ | ⟨q, z, y, rfl⟩ | ⟨t, q, z, y, rfl, x⟩
  · exact h
  · exact h
  · exact h
  · exact h.c rfl rfl rfl
theorem n_addPlain {μ : KS} {x0 x1 x2 : Int32} {b : Int32} {μ1 : KS} (h : NW μ) (h2 : om_addPlain μ x0 x1 x2 b μ1) : NW μ1 := by
  rcases h2 with ⟨q, rfl⟩ | ⟨q, z, rfl⟩ | ⟨q, z, y, rfl⟩ | ⟨t, q, z, y, rfl, x⟩
  · exact h
  · exact h
  · exact h
  · exact NW.ad (μ := thS μ 0) h _ _ _ _
theorem n_addTimed {μ : KS} {x0 x1 x2 x3 : Int32} {b : Int32} {μ1 : KS} (h : NW μ) (h2 : om_addTimed μ x0 x1 x2 x3 b μ1) : NW μ1 := by
  rcases h2 with ⟨q, rfl⟩ | ⟨q, z, rfl⟩ | ⟨q, z, y, rfl⟩ | ⟨q, z, y, x, rfl⟩ | ⟨t, q, z, y, x, rfl, u⟩
  · exact h
  · exact h
  · exact h
  · exact h
  · exact NW.ad (μ := thS μ 0) h _ _ _ _
theorem n_deadlineOf {μ : KS} {x0 : Int32} {b : Int32} {μ1 : KS} (h : NW μ) (h2 : om_deadlineOf μ x0 b μ1) : NW μ1 := by
  rcases h2 with ⟨q, rfl⟩ | ⟨t, q, z, rfl⟩ | ⟨t, q, z, rfl, y⟩
  · exact h
  · exact h
  · exact h
theorem n_doneIn {μ : KS} {x0 : Int32} {b : Int32} {μ1 : KS} (h : NW μ) (h2 : om_doneIn μ x0 b μ1) : NW μ1 := by
  rcases h2 with ⟨q, rfl⟩ | ⟨t, q, rfl, z⟩
  · exact h
  · exact h
theorem n_urgencyOf {μ : KS} {x0 : Int32} {b : Int32} {μ1 : KS} (h : NW μ) (h2 : om_urgencyOf μ x0 b μ1) : NW μ1 := by
  rcases h2 with ⟨q, rfl⟩ | ⟨t, q, z, rfl⟩ | ⟨t, q, z, rfl, y⟩
  · exact h.fu
  · exact h.fu
  · exact h.fu
theorem n_end {μ : KS} {x0 : Int32} {b : Int32} {μ1 : KS} (h : NW μ) (h2 : om_end μ x0 b μ1) : NW μ1 := by
  rcases h2 with ⟨q, rfl⟩ | ⟨t, q, z, rfl⟩ | ⟨t, q, z, rfl, y⟩
  · exact h
  · exact h
  · exact h.em t
theorem n_take {μ : KS} {x0 x1 : Int32} {b : Int32} {μ1 : KS} (h : NW μ) (h2 : om_take μ x0 x1 b μ1) : NW μ1 := by
  rcases h2 with ⟨q, rfl⟩ | ⟨q, z, rfl⟩ | ⟨t, w, q, z, ⟨y, rfl⟩ | ⟨y, x, rfl⟩ | ⟨hb, x, y, rfl, u⟩ | ⟨hb, x, y, rfl, u⟩⟩
  · exact h
  · exact h
  · exact h
  · exact h
  · exact h.ta hb
  · exact h.tb hb
theorem n_release {μ : KS} {x0 : Int32} {b : Int32} {μ1 : KS} (h : NW μ) (h2 : om_release μ x0 b μ1) : NW μ1 := by
  rcases h2 with ⟨q, rfl⟩ | ⟨w, q, z, rfl⟩ | ⟨w, q, z, rfl, y⟩
  · exact h
  · exact h
  · exact NW.pn (μ := thS μ 0) h w
theorem n_holderOf {μ : KS} {x0 : Int32} {b : Int32} {μ1 : KS} (h : NW μ) (h2 : om_holderOf μ x0 b μ1) : NW μ1 := by
  rcases h2 with ⟨q, rfl⟩ | ⟨w, q, rfl, z⟩
  · exact h
  · exact h
theorem n_waiterAt {μ : KS} {x0 x1 : Int32} {b : Int32} {μ1 : KS} (h : NW μ) (h2 : om_waiterAt μ x0 x1 b μ1) : NW μ1 := by
  rcases h2 with ⟨q, rfl⟩ | ⟨w, q, ⟨z, rfl⟩ | ⟨z, t, y, rfl, x⟩⟩
  · exact h
  · exact h
  · exact h
theorem n_choice {μ : KS} {x0 : Int32} {b : Int32} {μ1 : KS} (h : NW μ) (h2 : om_choice μ x0 b μ1) : NW μ1 := by
  rcases h2 with ⟨q, rfl⟩ | ⟨t, q, rfl, z⟩
  · exact h
  · exact NW.cs (μ := thS μ 0) h
theorem n_choiceByComparing {μ : KS} {x0 : Int32} {b : Int32} {μ1 : KS} (h : NW μ) (h2 : om_choiceByComparing μ x0 b μ1) : NW μ1 := by
  rcases h2 with ⟨q, rfl⟩ | ⟨t, q, rfl, z⟩
  · exact h
  · exact NW.cs (μ := thS μ 0) h
theorem n_usedShare {μ : KS} {b : UInt32} {μ1 : KS} (h : NW μ) (h2 : om_usedShare μ b μ1) : NW μ1 := by
  rcases h2 with ⟨q, rfl⟩ | ⟨q, rfl, z⟩
  · exact h
  · exact h
theorem n_meanHeat {μ : KS} {b : UInt64} {μ1 : KS} (h : NW μ) (h2 : om_meanHeat μ b μ1) : NW μ1 := by
  rcases h2 with ⟨q, rfl⟩ | ⟨q, rfl, z⟩
  · exact h
  · exact h
theorem s_usedShare {n : Nat} {σ μ : KS} {r : Int32} {v : UInt64} {σ1 : KS} {b : UInt32} {μ1 : KS} (R : Rel n σ μ) (h1 : oc_usedShare σ r v σ1) (h2 : om_usedShare μ b μ1) : Rel (n + 1) σ1 μ1 ∧ kI μ1 33 0 = r ∧ (r = 0 → v = FP.f2d b) := by
  have e4 : kI σ 4 0 = kI μ 28 0 := R.1.2.2.2.2.1
  have e5 : kI σ 5 0 = kI μ 29 0 := R.1.2.2.2.2.2
  rcases h1 with ⟨rfl, p1, rfl, rfl⟩ | ⟨rfl, p1, rfl⟩ <;> rcases h2 with ⟨q1, rfl⟩ | ⟨q1, rfl, rfl⟩
  · exact absurd (e5.trans q1) p1
  · exact ⟨s_th R, th33 μ 0, fun _ => by rw [e4, e5]⟩
  · exact ⟨(R.th 1).mono (Nat.le_succ n), th33 μ 1, fun z => absurd z (by decide)⟩
  · exact absurd (e5.symm.trans p1) q1
theorem s_meanHeat {n : Nat} {σ μ : KS} {r : Int32} {v : UInt64} {σ1 : KS} {b : UInt64} {μ1 : KS} (R : Rel n σ μ) (h1 : oc_meanHeat σ r v σ1) (h2 : om_meanHeat μ b μ1) : Rel (n + 1) σ1 μ1 ∧ kI μ1 33 0 = r ∧ (r = 0 → v = b) := by
  have e3 : kN σ 62 0 = kN μ 3 0 := R.2.1.1
  have eS : sumI (fun t => kI σ 11 t) (kN σ 62 0) = sumI (fun c => kI μ 2 c) (kN μ 3 0) := by
    rw [e3]
    exact sumI_c (fun c hc => (R.2.2.2.1 c hc).2.1)
  rcases h1 with ⟨rfl, p1, rfl, rfl⟩ | ⟨rfl, p1, rfl⟩ <;> rcases h2 with ⟨q1, rfl⟩ | ⟨q1, rfl, rfl⟩
  · exact absurd (e3.trans q1) p1
  · exact ⟨s_th R, th33 μ 0, fun _ => by rw [eS, e3]⟩
  · exact ⟨(R.th 1).mono (Nat.le_succ n), th33 μ 1, fun z => absurd z (by decide)⟩
  · exact absurd (e3.symm.trans p1) q1
/-- the relation: side by side, and nobody waits for himself -/
def RN (n : Nat) (σ μ : KS) : Prop := Rel n σ μ ∧ NW μ
theorem RN.mk {n : Nat} {r : Int32} {v b : Int64} {σ1 μ1 : KS} (h : okR n r v b σ1 μ1) (w : NW μ1) : RN (n + 1) σ1 μ1 ∧ kI μ1 33 0 = r ∧ (r = 0 → v = b) := ⟨⟨h.2.2, w⟩, h.1, h.2.1⟩
theorem simP : SimP RN := by
  refine ⟨?_, ?_, ?_, ?_, ?_, ?_, ?_, ?_, ?_, ?_, ?_, ?_, ?_, ?_, ?_, ?_, ?_, ?_, ?_, ?_, ?_, ?_, ?_, ?_, ?_, ?_, ?_, ?_, ?_, ?_, ?_, ?_, ?_, ?_, ?_, ?_, ?_, ?_, ?_, ?_, ?_, ?_, ?_, ?_, ?_, ?_, ?_, ?_⟩
  · exact ⟨Rel.init, fun t ht => absurd ht (Nat.not_lt_zero _)⟩
  · exact fp_dc
  · exact fun n σ μ x0 r v σ1 b μ1 hn w R h1 h2 w1 => RN.mk (s_addCore w.1 hn R.1 h1 h2) (n_addCore R.2 h2)
  · exact fun n σ μ x0 r v σ1 b μ1 hn w R h1 h2 w1 => RN.mk (s_setLimit R.1 h1 h2) (n_setLimit R.2 h2)
  · exact fun n σ μ x0 r v σ1 b μ1 hn w R h1 h2 w1 => RN.mk (s_setCap R.1 h1 h2) (n_setCap R.2 h2)
  · exact fun n σ μ x0 r v σ1 b μ1 hn w R h1 h2 w1 => RN.mk (s_heat R.1 h1 h2) (n_heat R.2 h2)
  · exact fun n σ μ x0 r v σ1 b μ1 hn w R h1 h2 w1 => RN.mk (s_pace R.1 h1 h2) (n_pace R.2 h2)
  · exact fun n σ μ x0 x1 r v σ1 b μ1 hn w R h1 h2 w1 => RN.mk (s_addGroup w.1 w.2 R.1 h1 h2) (n_addGroup R.2 h2)
  · exact fun n σ μ x0 x1 x2 r v σ1 b μ1 hn w R h1 h2 w1 => RN.mk (s_addPlain w.1 w.2 R.1 h1 h2) (n_addPlain R.2 h2)
  · exact fun n σ μ x0 x1 x2 x3 r v σ1 b μ1 hn w R h1 h2 w1 => RN.mk (s_addTimed w.1 w.2 R.1 h1 h2) (n_addTimed R.2 h2)
  · exact fun n σ μ x0 r v σ1 b μ1 hn w R h1 h2 w1 => RN.mk (s_end w.2 R.1 h1 h2) (n_end R.2 h2)
  · exact fun n σ μ x0 r v σ1 b μ1 hn w R h1 h2 w1 => RN.mk (s_left R.1 h1 h2) (n_left R.2 h2)
  · exact fun n σ μ x0 r v σ1 b μ1 hn w R h1 h2 w1 => RN.mk (s_stateOf R.1 h1 h2) (n_stateOf R.2 h2)
  · exact fun n σ μ x0 r v σ1 b μ1 hn w R h1 h2 w1 => RN.mk (s_timeOf R.1 h1 h2) (n_timeOf R.2 h2)
  · exact fun n σ μ x0 r v σ1 b μ1 hn w R h1 h2 w1 => RN.mk (s_timeOfGroup R.1 h1 h2) (n_timeOfGroup R.2 h2)
  · exact fun n σ μ x0 r v σ1 b μ1 hn w R h1 h2 w1 => RN.mk (s_doneBy R.1 h1 h2) (n_doneBy R.2 h2)
  · exact fun n σ μ x0 r v σ1 b μ1 hn w R h1 h2 w1 => RN.mk (s_doneIn R.1 h1 h2) (n_doneIn R.2 h2)
  · exact fun n σ μ x0 r v σ1 b μ1 hn w R h1 h2 w1 => RN.mk (s_deadlineOf R.1 h1 h2) (n_deadlineOf R.2 h2)
  · exact fun n σ μ x0 r v σ1 b μ1 hn w R h1 h2 w1 => RN.mk (s_urgencyOf w.2 R.1 h1 h2) (n_urgencyOf R.2 h2)
  · exact fun n σ μ x0 r v σ1 b μ1 hn w R h1 h2 w1 => RN.mk (s_missesOf R.1 h1 h2) (n_missesOf R.2 h2)
  · exact fun n σ μ x0 x1 r v σ1 b μ1 hn w R h1 h2 w1 => RN.mk (s_take w.1 w.2 hn R.1 h1 h2) (n_take R.2 h2)
  · exact fun n σ μ hn w R => hz_take R.1 w.2
  · exact fun n σ μ x0 r v σ1 b μ1 hn w R h1 h2 w1 => RN.mk (s_release w.1 w.2 R.1 h1 h2) (n_release R.2 h2)
  · exact fun n σ μ x0 r v σ1 b μ1 hn w R h1 h2 w1 => RN.mk (s_holderOf w.1 R.1 h1 h2) (n_holderOf R.2 h2)
  · exact fun n σ μ x0 x1 r v σ1 b μ1 hn w R h1 h2 w1 => RN.mk (s_waiterAt w.1 w.2 R.1 h1 h2) (n_waiterAt R.2 h2)
  · exact fun n σ μ x0 r v σ1 b μ1 hn w R h1 h2 w1 => RN.mk (s_choice w.1 w.2 R.1 h1 h2) (n_choice R.2 h2)
  · exact fun n σ μ x0 r v σ1 b μ1 hn w R h1 h2 w1 => RN.mk (s_choiceByComparing w.1 w.2 R.1 h1 h2) (n_choiceByComparing R.2 h2)
  · exact fun n σ μ x0 r v σ1 b μ1 hn w R h1 h2 w1 => RN.mk (s_pass w.1 w.2 R.1 h1 h2) (R.2.pa w.1 w.2 R.1 h2)
  · exact fun n σ μ hn w R => dI_pass R.1 w.1
  · exact fun n σ μ r v σ1 b μ1 hn w R h1 h2 w1 => ⟨⟨(s_usedShare R.1 h1 h2).1, n_usedShare R.2 h2⟩, (s_usedShare R.1 h1 h2).2⟩
  · exact fun n σ μ hn w R h => by rw [R.1.1.2.2.2.2.2] at h ⊢; exact nan_us (off_bd R.1).1 (off_bd R.1).2 h
  · exact fun n σ μ hn w R h => by rw [R.1.1.2.2.2.2.2] at h ⊢; exact f2d_nn (nan_us (off_bd R.1).1 (off_bd R.1).2 h)
  · exact fun n σ μ hn w R h => nan_us (off_bd R.1).1 (off_bd R.1).2 h
  · exact fun n σ μ r v σ1 b μ1 hn w R h1 h2 w1 => ⟨⟨(s_meanHeat R.1 h1 h2).1, n_meanHeat R.2 h2⟩, (s_meanHeat R.1 h1 h2).2⟩
  · exact fun n σ μ hn w R h => nan_mh w.1.1.1 h
  · exact fun n σ μ hn w R h => nan_mh w.2.1.1 h
  · exact fun n σ μ R => ⟨s_up R.1, R.2⟩
  · exact fun n σ μ R => ⟨s_th R.1, R.2⟩
  · exact fun n σ μ hn w R => e_admitted R.1
  · exact fun n σ μ hn w R => e_promise R.1
  · exact fun n σ μ hn w R => e_misses R.1
  · exact fun n σ μ hn w R => e_now R.1
  · exact fun n σ μ hn w R => e_moves R.1
  · exact fun n σ μ hn w R i hi => alike w.1 w.2 R.1 i i hi
  · exact fun n σ μ hn w R => hDs_sound R.1 w.2 _
  · exact fun n σ μ hn w R => no_self R.1 w.2 R.2 _
  · exact fun n σ μ hn w R w1 => ⟨s_isSound R.1 _, R.2⟩
  · exact fun n σ μ hn w R h => f2d_nn (nan_us (off_bd R.1).1 (off_bd R.1).2 h)
