set_option maxHeartbeats 4000000 in
set_option maxRecDepth 100000 in
theorem c_X4_urgencyOf {l : Launch} (hfl : l.stackTraces = false) {D : va_G} {cs : mC} {df : Nat} {P : Nat → Prop} {h0 : mH} {L : KL} {σ : KS} {hh : mH} (sz : Nat) (hC : CRep cs df P h0 L σ hh) (x0 : Int32) : vx_Met l yX4_urgencyOf wsX4_urgencyOf ({ frames := 6, cells := 1, slots := 6, locals := 90 }) (mPre [.ref (L 0 0), .int x0] D cs df hh sz) (va_Qi ((fun (r : Int32) (h1 : mH) => ∃ t, inR x0 (kN σ 62 2) = some t ∧ CRep cs df P h0 L (urgS σ) h1 ∧ ¬ kI (urgS σ) 44 t = 2147483647 ∧ r = kI (urgS σ) 44 t)) (mB D hh sz) (mA hh sz)) (mX D hh sz (fun E h1 => E = "java/util/NoSuchElementException" ∧ (h1 = hh ∧ inR x0 (kN σ 62 2) = none ∨ ∃ t, inR x0 (kN σ 62 2) = some t ∧ CRep cs df P h0 L (urgS σ) h1 ∧ kI (urgS σ) 44 t = 2147483647))) 1 6 (mA hh sz) := by
  refine vx_ofW (cc := cX4_urgencyOf) (maxL := 3) (ret := (some .int)) (by decide) rfl ?_
  intro p e s m args below meth c s₁ B0 hml hnx hv
  obtain ⟨hargs, hsz, hV, hE⟩ := hv
  subst hsz
  have hx := B0.exec
  have hb := B0.bytes
  have hr := B0.returns
  have hlocks := B0.notSynchronized
  have hts := atoms_spec (ws := wsX4_urgencyOf) B0.pre
  have hown : s.vm.findClass RX4 = some m.cls := findClass_of_methodNamed B0.named
  have hK := hE.1.1
  have hA : ∀ q : Nat, s.heap.size ≤ q → mA hh s.heap.size q := mA.top
  have hS : va_S (mA hh s.heap.size) s.heap s.heap [] := va_S.rf
  have hi_X3 : ∀ w ∈ u_ws RX3 TX3 16, w ∈ wsX4_urgencyOf := by decide +kernel
  have kn219 : va_Nw (.fieldLinkNest RX4 219 "TaskKernel$Task" "urgency" "I" "TaskKernel") s := hE.1.2.1 _ (List.mem_of_getElem? (i := 25) rfl)
  have kk222 : (Cond.constant RX4 222 (2147483647)).before args s = true := hts _ (by decide +kernel)
  have kc153 : (Cond.classLink RX4 153 "java/util/NoSuchElementException").before args s = true := hts _ (by decide +kernel)
  have hl := lv_entry ([.ref (L 0 0), .int x0]) (n := 3) (by first | exact Nat.le_of_ble_eq_true rfl | simp [lg_sl, rf_cat, ct_ref, ct_int, ct_null, ct_long])
  have hent := lg_entry_eq m ([.ref (L 0 0), .int x0]) 3
  rw [← hargs] at hent
  rw [hent]
  generalize (lg_sl ([.ref (L 0 0), .int x0]) ++ List.replicate (3 - (lg_sl ([.ref (L 0 0), .int x0])).length) Slot.unset).toArray = ls at hl ⊢
  replace hl : lv_has ls 3 [(0, .ref (L 0 0)), (1, .int x0)] := hl
  have hwf := hC.wf
  obtain ⟨⟨z0, z1, z2, z3, z4⟩, z5, z6, z7, z8, z9, z10, z11, z12⟩ := hwf
  have en : kN (urgS σ) 62 2 = kN σ 62 2 := by unfold urgS; rw [lendAll_N, ownAll_N]
  refine lv_aload_n hx hb dX4_urgencyOf_0 rfl (lv_at hl 0 rfl) ?_
  refine lv_iload_n hx hb dX4_urgencyOf_1 rfl (lv_at hl 1 rfl) ?_
  refine m_callq (va_runV (As := [.int x0]) (rest := []) ⟨hx, hb, hml, hown, hts⟩ (c_X4_taskAt (l := l) (s.heap.size) hC x0) (cwV 1 hts gX4_urgencyOf_X4_taskAt rfl rfl rfl (by decide +kernel) ⟨by decide, by decide⟩) (m_preV (r := (RX4, TX4, 11)) hE hV hS hA (hC.at (k := 0) (i := 0) rfl) rfl) rfl rfl hl.1 rfl (lv_room (by first | exact Nat.le_of_ble_eq_true rfl | simp [rf_cat, ct_ref, ct_int, ct_null, ct_long])) dX4_urgencyOf_2 ⟨by decide, by decide⟩) hV hS hA (fun r h1 H locs hV hS hp _ => ?_)
  obtain ⟨e1, e2⟩ := hp
  subst e2
  rw [e1] at hV; clear e1
  refine m_astore_nq (i := 2) (lv' := [(2, va_rf (((inR x0 (kN σ 62 2))).map (L 3))), (0, .ref (L 0 0)), (1, .int x0)]) hx hb dX4_urgencyOf_5 rfl hl (by decide) (by first | rfl | simp [rf_cat, ct_ref, ct_int, ct_long]) (fun ls hl => ?_)
  refine m_aload_nq hx hb dX4_urgencyOf_6 rfl (lv_at hl 0 rfl) ?_
  refine m_ifnonnull_q (o := (inR x0 (kN σ 62 2))) (f := L 3) (tgt := 20) hx hb dX4_urgencyOf_7 (by decide) (fun k7 c7 => ?_) (fun c7 => ?_)
  · have bk7 := (inR_some c7).2
    replace hl : lv_has ls 3 [(2, .ref (L 3 k7)), (0, .ref (L 0 0)), (1, .int x0)] := by have h9 := hl; rw [c7] at h9; exact h9
    refine lv_aload_n hx hb dX4_urgencyOf_20 rfl (lv_at hl 1 rfl) ?_
    refine m_callv (va_runV (As := []) (rest := []) ⟨hx, hb, hml, hown, hts⟩ (c_X4_lendUrgencies (l := l) (H.size) hC ) (cwV 0 hts gX4_urgencyOf_X4_lendUrgencies rfl rfl rfl (by decide +kernel) ⟨by decide, by decide⟩) (m_preV (r := (RX4, TX4, 11)) hE hV hS hA (hC.at (k := 0) (i := 0) rfl) rfl) rfl rfl hl.1 rfl (lv_room (by first | exact Nat.le_of_ble_eq_true rfl | simp [rf_cat, ct_ref, ct_int, ct_null, ct_long])) dX4_urgencyOf_21 ⟨by decide, by decide⟩) hV hS hA (fun h H locs hV hS hp _ => ?_)
    replace hC := hp; clear hp
    refine lv_aload_n hx hb dX4_urgencyOf_24 rfl (lv_at hl 0 rfl) ?_
    refine m_getN (C := RX3) (T := TX3) (N := 16) (host := "TaskKernel") hx hb hts hi_X3 hown hK hV 14 (v := .int (kI (urgS σ) 44 k7)) (g_task14 hC (by first | assumption | (show k7 < kN (urgS σ) 62 2; omega))) rfl (by decide) kn219 (fun _ h9 => h9) dX4_urgencyOf_25 ?_
    refine lv_ldc (v := 2147483647) hx hb hown kk222 dX4_urgencyOf_28 ?_
    refine lv_icmp_ne (tgt := 43) hx hb dX4_urgencyOf_30 (by decide) (fun c30 => ?_) (fun c30 => ?_)
    · refine lv_aload_n hx hb dX4_urgencyOf_43 rfl (lv_at hl 0 rfl) ?_
      refine m_getN (C := RX3) (T := TX3) (N := 16) (host := "TaskKernel") hx hb hts hi_X3 hown hK hV 14 (v := .int (kI (urgS σ) 44 k7)) (g_task14 hC (by first | assumption | (show k7 < kN (urgS σ) 62 2; omega))) rfl (by decide) kn219 (fun _ h9 => h9) dX4_urgencyOf_44 ?_
      refine W.widen (k := 1) (n := 6) (by decide) (by first | decide | omega) ?_
      exact vx_ret (m_iret (v := (kI (urgS σ) 44 k7)) hx hb hr hlocks hV hS (⟨k7, c7, hC, c30, rfl⟩) dX4_urgencyOf_47)
    · exact m_throwX hx hb hfl (own := RX4) (cls := "java/util/NoSuchElementException") (text := "the task has no urgency") (names := ["java/lang/RuntimeException", "java/lang/Exception"]) (ik := 153) (is := 223) (ic := 157) (ix := 13) (rx := prog_29_method_4_code) (by decide +kernel) (by decide +kernel) (by decide +kernel) (by decide +kernel) hown (by decide) (by decide) kc153 (hts _ (by decide +kernel)) (hE.1.2.2.2.1 _ (List.mem_of_getElem? (i := 15) rfl)) (m_hat hE (by decide +kernel) hts) (by decide +kernel) hE hV hS (by rw [hml]; exact hl.1) dX4_urgencyOf_33 dX4_urgencyOf_36 dX4_urgencyOf_37 dX4_urgencyOf_39 dX4_urgencyOf_42 hnx (by decide) (by decide) (by decide) (by decide) hlocks (⟨rfl, Or.inr ⟨k7, c7, hC, c30⟩⟩) (by decide) (by decide)
  · replace hl : lv_has ls 3 [(2, .null), (0, .ref (L 0 0)), (1, .int x0)] := by have h9 := hl; rw [c7] at h9; exact h9
    exact m_throwX hx hb hfl (own := RX4) (cls := "java/util/NoSuchElementException") (text := "there is no such task") (names := ["java/lang/RuntimeException", "java/lang/Exception"]) (ik := 153) (is := 155) (ic := 157) (ix := 13) (rx := prog_29_method_4_code) (by decide +kernel) (by decide +kernel) (by decide +kernel) (by decide +kernel) hown (by decide) (by decide) kc153 (hts _ (by decide +kernel)) (hE.1.2.2.2.1 _ (List.mem_of_getElem? (i := 11) rfl)) (m_hat hE (by decide +kernel) hts) (by decide +kernel) hE hV hS (by rw [hml]; exact hl.1) dX4_urgencyOf_10 dX4_urgencyOf_13 dX4_urgencyOf_14 dX4_urgencyOf_16 dX4_urgencyOf_19 hnx (by decide) (by decide) (by decide) (by decide) hlocks (⟨rfl, Or.inl ⟨rfl, c7⟩⟩) (by decide) (by decide)
