set_option maxHeartbeats 4000000 in
set_option maxRecDepth 100000 in
theorem c_X4_heat {l : Launch} (hfl : l.stackTraces = false) {D : va_G} {cs : mC} {df : Nat} {P : Nat → Prop} {h0 : mH} {L : KL} {σ : KS} {hh : mH} (sz : Nat) (hC : CRep cs df P h0 L σ hh) (x0 : Int32) : vx_Met l yX4_heat wsX4_heat ({ frames := 6, cells := 1, slots := 6, locals := 90 }) (mPre [.ref (L 0 0), .int x0] D cs df hh sz) (va_Qi ((fun (r : Int32) (h1 : mH) => ∃ t, inR x0 (kN σ 62 0) = some t ∧ h1 = hh ∧ r = kI σ 11 t)) (mB D hh sz) (mA hh sz)) (mX D hh sz (fun E h1 => E = "java/lang/IndexOutOfBoundsException" ∧ h1 = hh ∧ inR x0 (kN σ 62 0) = none)) 1 6 (mA hh sz) := by
  refine vx_ofW (cc := cX4_heat) (maxL := 3) (ret := (some .int)) (by decide) rfl ?_
  intro p e s m args below meth c s₁ B0 hml hnx hv
  obtain ⟨hargs, hsz, hV, hE⟩ := hv
  subst hsz
  have hx := B0.exec
  have hb := B0.bytes
  have hr := B0.returns
  have hlocks := B0.notSynchronized
  have hts := atoms_spec (ws := wsX4_heat) B0.pre
  have hown : s.vm.findClass RX4 = some m.cls := findClass_of_methodNamed B0.named
  have hK := hE.1.1
  have hA : ∀ q : Nat, s.heap.size ≤ q → mA hh s.heap.size q := mA.top
  have hS : va_S (mA hh s.heap.size) s.heap s.heap [] := va_S.rf
  have hi_X0 : ∀ w ∈ u_ws RX0 TX0 3, w ∈ wsX4_heat := by decide +kernel
  have kn96 : va_Nw (.fieldLinkNest RX4 96 "TaskKernel$Core" "heat" "I" "TaskKernel") s := hE.1.2.1 _ (List.mem_of_getElem? (i := 9) rfl)
  have kc91 : (Cond.classLink RX4 91 "java/lang/IndexOutOfBoundsException").before args s = true := hts _ (by decide +kernel)
  have hl := lv_entry ([.ref (L 0 0), .int x0]) (n := 3) (by first | exact Nat.le_of_ble_eq_true rfl | simp [lg_sl, rf_cat, ct_ref, ct_int, ct_null, ct_long])
  have hent := lg_entry_eq m ([.ref (L 0 0), .int x0]) 3
  rw [← hargs] at hent
  rw [hent]
  generalize (lg_sl ([.ref (L 0 0), .int x0]) ++ List.replicate (3 - (lg_sl ([.ref (L 0 0), .int x0])).length) Slot.unset).toArray = ls at hl ⊢
  replace hl : lv_has ls 3 [(0, .ref (L 0 0)), (1, .int x0)] := hl
  have hwf := hC.wf
  obtain ⟨⟨z0, z1, z2, z3, z4⟩, z5, z6, z7, z8, z9, z10, z11, z12⟩ := hwf
  refine lv_aload_n hx hb dX4_heat_0 rfl (lv_at hl 0 rfl) ?_
  refine lv_iload_n hx hb dX4_heat_1 rfl (lv_at hl 1 rfl) ?_
  refine m_callq (va_runV (As := [.int x0]) (rest := []) ⟨hx, hb, hml, hown, hts⟩ (c_X4_coreAt (l := l) (s.heap.size) hC x0) (cwV 1 hts gX4_heat_X4_coreAt rfl rfl rfl (by decide +kernel) ⟨by decide, by decide⟩) (m_preV (r := (RX4, TX4, 11)) hE hV hS hA (hC.at (k := 0) (i := 0) rfl) rfl) rfl rfl hl.1 rfl (lv_room (by first | exact Nat.le_of_ble_eq_true rfl | simp [rf_cat, ct_ref, ct_int, ct_null, ct_long])) dX4_heat_2 ⟨by decide, by decide⟩) hV hS hA (fun r h1 H locs hV hS hp _ => ?_)
  obtain ⟨e1, e2⟩ := hp
  subst e2
  rw [e1] at hV; clear e1
  refine m_astore_nq (lv' := [(2, va_rf (((inR x0 (kN σ 62 0))).map (L 1))), (0, .ref (L 0 0)), (1, .int x0)]) hx hb dX4_heat_5 rfl hl (by decide) (by first | rfl | simp [rf_cat]) (fun ls hl => ?_)
  refine m_aload_nq hx hb dX4_heat_6 rfl (lv_at hl 0 rfl) ?_
  refine m_ifnonnull_q (o := (inR x0 (kN σ 62 0))) (f := L 1) (tgt := 20) hx hb dX4_heat_7 (by decide) (fun k7 c7 => ?_) (fun c7 => ?_)
  · have bk7 := (inR_some c7).2
    replace hl : lv_has ls 3 [(2, .ref (L 1 k7)), (0, .ref (L 0 0)), (1, .int x0)] := by have h9 := hl; rw [c7] at h9; exact h9
    refine lv_aload_n hx hb dX4_heat_20 rfl (lv_at hl 0 rfl) ?_
    refine m_getN (C := RX0) (T := TX0) (N := 3) (host := "TaskKernel") hx hb hts hi_X0 hown hK hV 1 (v := .int (kI σ 11 k7)) (g_core1 hC (by first | assumption | (show k7 < kN σ 62 0; omega))) rfl (by decide) kn96 (fun _ h9 => h9) dX4_heat_21 ?_
    refine W.widen (k := 1) (n := 6) (by decide) (by first | decide | omega) ?_
    exact vx_ret (m_iret (v := (kI σ 11 k7)) hx hb hr hlocks hV hS (⟨k7, c7, rfl, rfl⟩) dX4_heat_24)
  · replace hl : lv_has ls 3 [(2, .null), (0, .ref (L 0 0)), (1, .int x0)] := by have h9 := hl; rw [c7] at h9; exact h9
    exact m_throw hx hb hfl (own := RX4) (cls := "java/lang/IndexOutOfBoundsException") (text := "there is no such core") (names := ["java/lang/RuntimeException", "java/lang/Exception"]) (ik := 91) (is := 93) (ic := 95) hown (by decide) (by decide) kc91 (hts _ (by decide +kernel)) (hE.1.2.2.2.1 _ (List.mem_of_getElem? (i := 0) rfl)) (m_hat hE (by decide +kernel) hts) (by decide +kernel) hE hV hS (by rw [hml]; exact hl.1) dX4_heat_10 dX4_heat_13 dX4_heat_14 dX4_heat_16 dX4_heat_19 hnx (by decide) (by decide) (by decide) (by decide) hlocks (⟨rfl, rfl, c7⟩) (by decide) (by decide)
set_option maxHeartbeats 4000000 in
set_option maxRecDepth 100000 in
theorem c_X4_pace {l : Launch} (hfl : l.stackTraces = false) {D : va_G} {cs : mC} {df : Nat} {P : Nat → Prop} {h0 : mH} {L : KL} {σ : KS} {hh : mH} (sz : Nat) (hC : CRep cs df P h0 L σ hh) (x0 : Int32) : vx_Met l yX4_pace wsX4_pace ({ frames := 6, cells := 1, slots := 6, locals := 90 }) (mPre [.ref (L 0 0), .int x0] D cs df hh sz) (va_Qi ((fun (r : Int32) (h1 : mH) => ∃ t, inR x0 (kN σ 62 0) = some t ∧ h1 = hh ∧ r = paceS (kI σ 10 t) (kI σ 11 t) (kI σ 0 0))) (mB D hh sz) (mA hh sz)) (mX D hh sz (fun E h1 => E = "java/lang/IndexOutOfBoundsException" ∧ h1 = hh ∧ inR x0 (kN σ 62 0) = none)) 1 6 (mA hh sz) := by
  refine vx_ofW (cc := cX4_pace) (maxL := 3) (ret := (some .int)) (by decide) rfl ?_
  intro p e s m args below meth c s₁ B0 hml hnx hv
  obtain ⟨hargs, hsz, hV, hE⟩ := hv
  subst hsz
  have hx := B0.exec
  have hb := B0.bytes
  have hr := B0.returns
  have hlocks := B0.notSynchronized
  have hts := atoms_spec (ws := wsX4_pace) B0.pre
  have hown : s.vm.findClass RX4 = some m.cls := findClass_of_methodNamed B0.named
  have hK := hE.1.1
  have hA : ∀ q : Nat, s.heap.size ≤ q → mA hh s.heap.size q := mA.top
  have hS : va_S (mA hh s.heap.size) s.heap s.heap [] := va_S.rf
  have hi_X4 : ∀ w ∈ u_ws RX4 TX4 11, w ∈ wsX4_pace := by decide +kernel
  have k36 : (Cond.fieldLink RX4 36 "TaskKernel" "heatLimit" "I").before args s = true := hts _ (by decide +kernel)
  have kq99 : va_Nw (.methodLinkNest RX4 99 yX0_paceUnder "TaskKernel") s := hE.1.2.2.1 _ (List.mem_of_getElem? (i := 7) rfl)
  have kc91 : (Cond.classLink RX4 91 "java/lang/IndexOutOfBoundsException").before args s = true := hts _ (by decide +kernel)
  have hl := lv_entry ([.ref (L 0 0), .int x0]) (n := 3) (by first | exact Nat.le_of_ble_eq_true rfl | simp [lg_sl, rf_cat, ct_ref, ct_int, ct_null, ct_long])
  have hent := lg_entry_eq m ([.ref (L 0 0), .int x0]) 3
  rw [← hargs] at hent
  rw [hent]
  generalize (lg_sl ([.ref (L 0 0), .int x0]) ++ List.replicate (3 - (lg_sl ([.ref (L 0 0), .int x0])).length) Slot.unset).toArray = ls at hl ⊢
  replace hl : lv_has ls 3 [(0, .ref (L 0 0)), (1, .int x0)] := hl
  have hwf := hC.wf
  obtain ⟨⟨z0, z1, z2, z3, z4⟩, z5, z6, z7, z8, z9, z10, z11, z12⟩ := hwf
  refine lv_aload_n hx hb dX4_pace_0 rfl (lv_at hl 0 rfl) ?_
  refine lv_iload_n hx hb dX4_pace_1 rfl (lv_at hl 1 rfl) ?_
  refine m_callq (va_runV (As := [.int x0]) (rest := []) ⟨hx, hb, hml, hown, hts⟩ (c_X4_coreAt (l := l) (s.heap.size) hC x0) (cwV 1 hts gX4_pace_X4_coreAt rfl rfl rfl (by decide +kernel) ⟨by decide, by decide⟩) (m_preV (r := (RX4, TX4, 11)) hE hV hS hA (hC.at (k := 0) (i := 0) rfl) rfl) rfl rfl hl.1 rfl (lv_room (by first | exact Nat.le_of_ble_eq_true rfl | simp [rf_cat, ct_ref, ct_int, ct_null, ct_long])) dX4_pace_2 ⟨by decide, by decide⟩) hV hS hA (fun r h1 H locs hV hS hp _ => ?_)
  obtain ⟨e1, e2⟩ := hp
  subst e2
  rw [e1] at hV; clear e1
  refine m_astore_nq (lv' := [(2, va_rf (((inR x0 (kN σ 62 0))).map (L 1))), (0, .ref (L 0 0)), (1, .int x0)]) hx hb dX4_pace_5 rfl hl (by decide) (by first | rfl | simp [rf_cat]) (fun ls hl => ?_)
  refine m_aload_nq hx hb dX4_pace_6 rfl (lv_at hl 0 rfl) ?_
  refine m_ifnonnull_q (o := (inR x0 (kN σ 62 0))) (f := L 1) (tgt := 20) hx hb dX4_pace_7 (by decide) (fun k7 c7 => ?_) (fun c7 => ?_)
  · have bk7 := (inR_some c7).2
    replace hl : lv_has ls 3 [(2, .ref (L 1 k7)), (0, .ref (L 0 0)), (1, .int x0)] := by have h9 := hl; rw [c7] at h9; exact h9
    refine lv_aload_n hx hb dX4_pace_20 rfl (lv_at hl 0 rfl) ?_
    refine lv_aload_n hx hb dX4_pace_21 rfl (lv_at hl 1 rfl) ?_
    refine m_get (C := RX4) (T := TX4) (N := 11) hx hb hts hi_X4 hown hK hV 5 (v := .int (kI σ 0 0)) (g_kern5 hC rfl) rfl (by decide) k36 (fun _ h9 => h9) dX4_pace_22 ?_
    refine m_calli (va_runVN (As := [.int (kI σ 0 0)]) (rest := []) ⟨hx, hb, hml, hown, hts⟩ (c_X0_paceUnder (l := l) (H.size) hC k7 (kI σ 0 0) (by first | assumption | omega)) ⟨va_cnB 1 hts gX4_pace_X0_paceUnder_n99 rfl rfl rfl kq99 (hts (.initialized RX0) (by decide +kernel)) (by decide +kernel) ⟨by decide, by decide⟩, hts (.instanceMethod yX0_paceUnder) (by decide +kernel), hts (.selects RX0 yX0_paceUnder yX0_paceUnder) (by decide +kernel)⟩ (m_preV (r := (RX0, TX0, 3)) hE hV hS hA (hC.at (k := 1) (i := k7) (by first | assumption | (show k7 < kN σ 62 0; omega))) rfl) rfl rfl hl.1 rfl (lv_room (by first | exact Nat.le_of_ble_eq_true rfl | simp [rf_cat, ct_ref, ct_int, ct_null, ct_long])) dX4_pace_25 ⟨by decide, by decide⟩) hV hS hA (fun r h1 H locs hV hS hp _ => ?_)
    obtain ⟨e1, e2⟩ := hp
    subst e2
    rw [e1] at hV; clear e1
    refine W.widen (k := 1) (n := 6) (by decide) (by first | decide | omega) ?_
    exact vx_ret (m_iret (v := (paceS (kI σ 10 k7) (kI σ 11 k7) (kI σ 0 0))) hx hb hr hlocks hV hS (⟨k7, c7, rfl, rfl⟩) dX4_pace_28)
  · replace hl : lv_has ls 3 [(2, .null), (0, .ref (L 0 0)), (1, .int x0)] := by have h9 := hl; rw [c7] at h9; exact h9
    exact m_throw hx hb hfl (own := RX4) (cls := "java/lang/IndexOutOfBoundsException") (text := "there is no such core") (names := ["java/lang/RuntimeException", "java/lang/Exception"]) (ik := 91) (is := 93) (ic := 95) hown (by decide) (by decide) kc91 (hts _ (by decide +kernel)) (hE.1.2.2.2.1 _ (List.mem_of_getElem? (i := 0) rfl)) (m_hat hE (by decide +kernel) hts) (by decide +kernel) hE hV hS (by rw [hml]; exact hl.1) dX4_pace_10 dX4_pace_13 dX4_pace_14 dX4_pace_16 dX4_pace_19 hnx (by decide) (by decide) (by decide) (by decide) hlocks (⟨rfl, rfl, c7⟩) (by decide) (by decide)
set_option maxHeartbeats 4000000 in
set_option maxRecDepth 100000 in
theorem c_X4_left {l : Launch} (hfl : l.stackTraces = false) {D : va_G} {cs : mC} {df : Nat} {P : Nat → Prop} {h0 : mH} {L : KL} {σ : KS} {hh : mH} (sz : Nat) (hC : CRep cs df P h0 L σ hh) (x0 : Int32) : vx_Met l yX4_left wsX4_left ({ frames := 6, cells := 1, slots := 6, locals := 90 }) (mPre [.ref (L 0 0), .int x0] D cs df hh sz) (va_Qi ((fun (r : Int32) (h1 : mH) => ∃ t, inR x0 (kN σ 62 2) = some t ∧ h1 = hh ∧ r = kI σ 34 t)) (mB D hh sz) (mA hh sz)) (mX D hh sz (fun E h1 => E = "java/util/NoSuchElementException" ∧ h1 = hh ∧ inR x0 (kN σ 62 2) = none)) 1 6 (mA hh sz) := by
  refine vx_ofW (cc := cX4_left) (maxL := 3) (ret := (some .int)) (by decide) rfl ?_
  intro p e s m args below meth c s₁ B0 hml hnx hv
  obtain ⟨hargs, hsz, hV, hE⟩ := hv
  subst hsz
  have hx := B0.exec
  have hb := B0.bytes
  have hr := B0.returns
  have hlocks := B0.notSynchronized
  have hts := atoms_spec (ws := wsX4_left) B0.pre
  have hown : s.vm.findClass RX4 = some m.cls := findClass_of_methodNamed B0.named
  have hK := hE.1.1
  have hA : ∀ q : Nat, s.heap.size ≤ q → mA hh s.heap.size q := mA.top
  have hS : va_S (mA hh s.heap.size) s.heap s.heap [] := va_S.rf
  have hi_X3 : ∀ w ∈ u_ws RX3 TX3 16, w ∈ wsX4_left := by decide +kernel
  have kn164 : va_Nw (.fieldLinkNest RX4 164 "TaskKernel$Task" "left" "I" "TaskKernel") s := hE.1.2.1 _ (List.mem_of_getElem? (i := 15) rfl)
  have kc153 : (Cond.classLink RX4 153 "java/util/NoSuchElementException").before args s = true := hts _ (by decide +kernel)
  have hl := lv_entry ([.ref (L 0 0), .int x0]) (n := 3) (by first | exact Nat.le_of_ble_eq_true rfl | simp [lg_sl, rf_cat, ct_ref, ct_int, ct_null, ct_long])
  have hent := lg_entry_eq m ([.ref (L 0 0), .int x0]) 3
  rw [← hargs] at hent
  rw [hent]
  generalize (lg_sl ([.ref (L 0 0), .int x0]) ++ List.replicate (3 - (lg_sl ([.ref (L 0 0), .int x0])).length) Slot.unset).toArray = ls at hl ⊢
  replace hl : lv_has ls 3 [(0, .ref (L 0 0)), (1, .int x0)] := hl
  have hwf := hC.wf
  obtain ⟨⟨z0, z1, z2, z3, z4⟩, z5, z6, z7, z8, z9, z10, z11, z12⟩ := hwf
  refine lv_aload_n hx hb dX4_left_0 rfl (lv_at hl 0 rfl) ?_
  refine lv_iload_n hx hb dX4_left_1 rfl (lv_at hl 1 rfl) ?_
  refine m_callq (va_runV (As := [.int x0]) (rest := []) ⟨hx, hb, hml, hown, hts⟩ (c_X4_taskAt (l := l) (s.heap.size) hC x0) (cwV 1 hts gX4_left_X4_taskAt rfl rfl rfl (by decide +kernel) ⟨by decide, by decide⟩) (m_preV (r := (RX4, TX4, 11)) hE hV hS hA (hC.at (k := 0) (i := 0) rfl) rfl) rfl rfl hl.1 rfl (lv_room (by first | exact Nat.le_of_ble_eq_true rfl | simp [rf_cat, ct_ref, ct_int, ct_null, ct_long])) dX4_left_2 ⟨by decide, by decide⟩) hV hS hA (fun r h1 H locs hV hS hp _ => ?_)
  obtain ⟨e1, e2⟩ := hp
  subst e2
  rw [e1] at hV; clear e1
  refine m_astore_nq (lv' := [(2, va_rf (((inR x0 (kN σ 62 2))).map (L 3))), (0, .ref (L 0 0)), (1, .int x0)]) hx hb dX4_left_5 rfl hl (by decide) (by first | rfl | simp [rf_cat]) (fun ls hl => ?_)
  refine m_aload_nq hx hb dX4_left_6 rfl (lv_at hl 0 rfl) ?_
  refine m_ifnonnull_q (o := (inR x0 (kN σ 62 2))) (f := L 3) (tgt := 20) hx hb dX4_left_7 (by decide) (fun k7 c7 => ?_) (fun c7 => ?_)
  · have bk7 := (inR_some c7).2
    replace hl : lv_has ls 3 [(2, .ref (L 3 k7)), (0, .ref (L 0 0)), (1, .int x0)] := by have h9 := hl; rw [c7] at h9; exact h9
    refine lv_aload_n hx hb dX4_left_20 rfl (lv_at hl 0 rfl) ?_
    refine m_getN (C := RX3) (T := TX3) (N := 16) (host := "TaskKernel") hx hb hts hi_X3 hown hK hV 4 (v := .int (kI σ 34 k7)) (g_task4 hC (by first | assumption | (show k7 < kN σ 62 2; omega))) rfl (by decide) kn164 (fun _ h9 => h9) dX4_left_21 ?_
    refine W.widen (k := 1) (n := 6) (by decide) (by first | decide | omega) ?_
    exact vx_ret (m_iret (v := (kI σ 34 k7)) hx hb hr hlocks hV hS (⟨k7, c7, rfl, rfl⟩) dX4_left_24)
  · replace hl : lv_has ls 3 [(2, .null), (0, .ref (L 0 0)), (1, .int x0)] := by have h9 := hl; rw [c7] at h9; exact h9
    exact m_throwX hx hb hfl (own := RX4) (cls := "java/util/NoSuchElementException") (text := "there is no such task") (names := ["java/lang/RuntimeException", "java/lang/Exception"]) (ik := 153) (is := 155) (ic := 157) (ix := 13) (rx := prog_29_method_4_code) (by decide +kernel) (by decide +kernel) (by decide +kernel) (by decide +kernel) hown (by decide) (by decide) kc153 (hts _ (by decide +kernel)) (hE.1.2.2.2.1 _ (List.mem_of_getElem? (i := 11) rfl)) (m_hat hE (by decide +kernel) hts) (by decide +kernel) hE hV hS (by rw [hml]; exact hl.1) dX4_left_10 dX4_left_13 dX4_left_14 dX4_left_16 dX4_left_19 hnx (by decide) (by decide) (by decide) (by decide) hlocks (⟨rfl, rfl, c7⟩) (by decide) (by decide)
set_option maxHeartbeats 4000000 in
set_option maxRecDepth 100000 in
theorem c_X4_timeOf {l : Launch} (hfl : l.stackTraces = false) {D : va_G} {cs : mC} {df : Nat} {P : Nat → Prop} {h0 : mH} {L : KL} {σ : KS} {hh : mH} (sz : Nat) (hC : CRep cs df P h0 L σ hh) (x0 : Int32) : vx_Met l yX4_timeOf wsX4_timeOf ({ frames := 6, cells := 1, slots := 6, locals := 90 }) (mPre [.ref (L 0 0), .int x0] D cs df hh sz) (va_Ql ((fun (r : Int64) (h1 : mH) => ∃ t, inR x0 (kN σ 62 2) = some t ∧ h1 = hh ∧ r = kW σ 33 t)) (mB D hh sz) (mA hh sz)) (mX D hh sz (fun E h1 => E = "java/util/NoSuchElementException" ∧ h1 = hh ∧ inR x0 (kN σ 62 2) = none)) 1 6 (mA hh sz) := by
  refine vx_ofW (cc := cX4_timeOf) (maxL := 3) (ret := (some .long)) (by decide) rfl ?_
  intro p e s m args below meth c s₁ B0 hml hnx hv
  obtain ⟨hargs, hsz, hV, hE⟩ := hv
  subst hsz
  have hx := B0.exec
  have hb := B0.bytes
  have hr := B0.returns
  have hlocks := B0.notSynchronized
  have hts := atoms_spec (ws := wsX4_timeOf) B0.pre
  have hown : s.vm.findClass RX4 = some m.cls := findClass_of_methodNamed B0.named
  have hK := hE.1.1
  have hA : ∀ q : Nat, s.heap.size ≤ q → mA hh s.heap.size q := mA.top
  have hS : va_S (mA hh s.heap.size) s.heap s.heap [] := va_S.rf
  have hi_X3 : ∀ w ∈ u_ws RX3 TX3 16, w ∈ wsX4_timeOf := by decide +kernel
  have kn191 : va_Nw (.fieldLinkNest RX4 191 "TaskKernel$Task" "time" "J" "TaskKernel") s := hE.1.2.1 _ (List.mem_of_getElem? (i := 14) rfl)
  have kc153 : (Cond.classLink RX4 153 "java/util/NoSuchElementException").before args s = true := hts _ (by decide +kernel)
  have hl := lv_entry ([.ref (L 0 0), .int x0]) (n := 3) (by first | exact Nat.le_of_ble_eq_true rfl | simp [lg_sl, rf_cat, ct_ref, ct_int, ct_null, ct_long])
  have hent := lg_entry_eq m ([.ref (L 0 0), .int x0]) 3
  rw [← hargs] at hent
  rw [hent]
  generalize (lg_sl ([.ref (L 0 0), .int x0]) ++ List.replicate (3 - (lg_sl ([.ref (L 0 0), .int x0])).length) Slot.unset).toArray = ls at hl ⊢
  replace hl : lv_has ls 3 [(0, .ref (L 0 0)), (1, .int x0)] := hl
  have hwf := hC.wf
  obtain ⟨⟨z0, z1, z2, z3, z4⟩, z5, z6, z7, z8, z9, z10, z11, z12⟩ := hwf
  refine lv_aload_n hx hb dX4_timeOf_0 rfl (lv_at hl 0 rfl) ?_
  refine lv_iload_n hx hb dX4_timeOf_1 rfl (lv_at hl 1 rfl) ?_
  refine m_callq (va_runV (As := [.int x0]) (rest := []) ⟨hx, hb, hml, hown, hts⟩ (c_X4_taskAt (l := l) (s.heap.size) hC x0) (cwV 1 hts gX4_timeOf_X4_taskAt rfl rfl rfl (by decide +kernel) ⟨by decide, by decide⟩) (m_preV (r := (RX4, TX4, 11)) hE hV hS hA (hC.at (k := 0) (i := 0) rfl) rfl) rfl rfl hl.1 rfl (lv_room (by first | exact Nat.le_of_ble_eq_true rfl | simp [rf_cat, ct_ref, ct_int, ct_null, ct_long])) dX4_timeOf_2 ⟨by decide, by decide⟩) hV hS hA (fun r h1 H locs hV hS hp _ => ?_)
  obtain ⟨e1, e2⟩ := hp
  subst e2
  rw [e1] at hV; clear e1
  refine m_astore_nq (lv' := [(2, va_rf (((inR x0 (kN σ 62 2))).map (L 3))), (0, .ref (L 0 0)), (1, .int x0)]) hx hb dX4_timeOf_5 rfl hl (by decide) (by first | rfl | simp [rf_cat]) (fun ls hl => ?_)
  refine m_aload_nq hx hb dX4_timeOf_6 rfl (lv_at hl 0 rfl) ?_
  refine m_ifnonnull_q (o := (inR x0 (kN σ 62 2))) (f := L 3) (tgt := 20) hx hb dX4_timeOf_7 (by decide) (fun k7 c7 => ?_) (fun c7 => ?_)
  · have bk7 := (inR_some c7).2
    replace hl : lv_has ls 3 [(2, .ref (L 3 k7)), (0, .ref (L 0 0)), (1, .int x0)] := by have h9 := hl; rw [c7] at h9; exact h9
    refine lv_aload_n hx hb dX4_timeOf_20 rfl (lv_at hl 0 rfl) ?_
    refine m_getN (C := RX3) (T := TX3) (N := 16) (host := "TaskKernel") hx hb hts hi_X3 hown hK hV 3 (v := .long (kW σ 33 k7)) (g_task3 hC (by first | assumption | (show k7 < kN σ 62 2; omega))) rfl (by decide) kn191 (fun _ h9 => h9) dX4_timeOf_21 ?_
    refine W.widen (k := 1) (n := 6) (by decide) (by first | decide | omega) ?_
    exact vx_ret (m_lret (v := (kW σ 33 k7)) hx hb hr hlocks hV hS (⟨k7, c7, rfl, rfl⟩) dX4_timeOf_24)
  · replace hl : lv_has ls 3 [(2, .null), (0, .ref (L 0 0)), (1, .int x0)] := by have h9 := hl; rw [c7] at h9; exact h9
    exact m_throwX hx hb hfl (own := RX4) (cls := "java/util/NoSuchElementException") (text := "there is no such task") (names := ["java/lang/RuntimeException", "java/lang/Exception"]) (ik := 153) (is := 155) (ic := 157) (ix := 13) (rx := prog_29_method_4_code) (by decide +kernel) (by decide +kernel) (by decide +kernel) (by decide +kernel) hown (by decide) (by decide) kc153 (hts _ (by decide +kernel)) (hE.1.2.2.2.1 _ (List.mem_of_getElem? (i := 11) rfl)) (m_hat hE (by decide +kernel) hts) (by decide +kernel) hE hV hS (by rw [hml]; exact hl.1) dX4_timeOf_10 dX4_timeOf_13 dX4_timeOf_14 dX4_timeOf_16 dX4_timeOf_19 hnx (by decide) (by decide) (by decide) (by decide) hlocks (⟨rfl, rfl, c7⟩) (by decide) (by decide)
set_option maxHeartbeats 4000000 in
set_option maxRecDepth 100000 in
theorem c_X4_doneBy {l : Launch} (hfl : l.stackTraces = false) {D : va_G} {cs : mC} {df : Nat} {P : Nat → Prop} {h0 : mH} {L : KL} {σ : KS} {hh : mH} (sz : Nat) (hC : CRep cs df P h0 L σ hh) (x0 : Int32) : vx_Met l yX4_doneBy wsX4_doneBy ({ frames := 6, cells := 1, slots := 6, locals := 90 }) (mPre [.ref (L 0 0), .int x0] D cs df hh sz) (va_Qi ((fun (r : Int32) (h1 : mH) => ∃ t, inR x0 (kN σ 62 2) = some t ∧ h1 = hh ∧ r = kI σ 35 t)) (mB D hh sz) (mA hh sz)) (mX D hh sz (fun E h1 => E = "java/util/NoSuchElementException" ∧ h1 = hh ∧ inR x0 (kN σ 62 2) = none)) 1 6 (mA hh sz) := by
  refine vx_ofW (cc := cX4_doneBy) (maxL := 3) (ret := (some .int)) (by decide) rfl ?_
  intro p e s m args below meth c s₁ B0 hml hnx hv
  obtain ⟨hargs, hsz, hV, hE⟩ := hv
  subst hsz
  have hx := B0.exec
  have hb := B0.bytes
  have hr := B0.returns
  have hlocks := B0.notSynchronized
  have hts := atoms_spec (ws := wsX4_doneBy) B0.pre
  have hown : s.vm.findClass RX4 = some m.cls := findClass_of_methodNamed B0.named
  have hK := hE.1.1
  have hA : ∀ q : Nat, s.heap.size ≤ q → mA hh s.heap.size q := mA.top
  have hS : va_S (mA hh s.heap.size) s.heap s.heap [] := va_S.rf
  have hi_X3 : ∀ w ∈ u_ws RX3 TX3 16, w ∈ wsX4_doneBy := by decide +kernel
  have kn198 : va_Nw (.fieldLinkNest RX4 198 "TaskKernel$Task" "done" "I" "TaskKernel") s := hE.1.2.1 _ (List.mem_of_getElem? (i := 16) rfl)
  have kc153 : (Cond.classLink RX4 153 "java/util/NoSuchElementException").before args s = true := hts _ (by decide +kernel)
  have hl := lv_entry ([.ref (L 0 0), .int x0]) (n := 3) (by first | exact Nat.le_of_ble_eq_true rfl | simp [lg_sl, rf_cat, ct_ref, ct_int, ct_null, ct_long])
  have hent := lg_entry_eq m ([.ref (L 0 0), .int x0]) 3
  rw [← hargs] at hent
  rw [hent]
  generalize (lg_sl ([.ref (L 0 0), .int x0]) ++ List.replicate (3 - (lg_sl ([.ref (L 0 0), .int x0])).length) Slot.unset).toArray = ls at hl ⊢
  replace hl : lv_has ls 3 [(0, .ref (L 0 0)), (1, .int x0)] := hl
  have hwf := hC.wf
  obtain ⟨⟨z0, z1, z2, z3, z4⟩, z5, z6, z7, z8, z9, z10, z11, z12⟩ := hwf
  refine lv_aload_n hx hb dX4_doneBy_0 rfl (lv_at hl 0 rfl) ?_
  refine lv_iload_n hx hb dX4_doneBy_1 rfl (lv_at hl 1 rfl) ?_
  refine m_callq (va_runV (As := [.int x0]) (rest := []) ⟨hx, hb, hml, hown, hts⟩ (c_X4_taskAt (l := l) (s.heap.size) hC x0) (cwV 1 hts gX4_doneBy_X4_taskAt rfl rfl rfl (by decide +kernel) ⟨by decide, by decide⟩) (m_preV (r := (RX4, TX4, 11)) hE hV hS hA (hC.at (k := 0) (i := 0) rfl) rfl) rfl rfl hl.1 rfl (lv_room (by first | exact Nat.le_of_ble_eq_true rfl | simp [rf_cat, ct_ref, ct_int, ct_null, ct_long])) dX4_doneBy_2 ⟨by decide, by decide⟩) hV hS hA (fun r h1 H locs hV hS hp _ => ?_)
  obtain ⟨e1, e2⟩ := hp
  subst e2
  rw [e1] at hV; clear e1
  refine m_astore_nq (lv' := [(2, va_rf (((inR x0 (kN σ 62 2))).map (L 3))), (0, .ref (L 0 0)), (1, .int x0)]) hx hb dX4_doneBy_5 rfl hl (by decide) (by first | rfl | simp [rf_cat]) (fun ls hl => ?_)
  refine m_aload_nq hx hb dX4_doneBy_6 rfl (lv_at hl 0 rfl) ?_
  refine m_ifnonnull_q (o := (inR x0 (kN σ 62 2))) (f := L 3) (tgt := 20) hx hb dX4_doneBy_7 (by decide) (fun k7 c7 => ?_) (fun c7 => ?_)
  · have bk7 := (inR_some c7).2
    replace hl : lv_has ls 3 [(2, .ref (L 3 k7)), (0, .ref (L 0 0)), (1, .int x0)] := by have h9 := hl; rw [c7] at h9; exact h9
    refine lv_aload_n hx hb dX4_doneBy_20 rfl (lv_at hl 0 rfl) ?_
    refine m_getN (C := RX3) (T := TX3) (N := 16) (host := "TaskKernel") hx hb hts hi_X3 hown hK hV 5 (v := .int (kI σ 35 k7)) (g_task5 hC (by first | assumption | (show k7 < kN σ 62 2; omega))) rfl (by decide) kn198 (fun _ h9 => h9) dX4_doneBy_21 ?_
    refine W.widen (k := 1) (n := 6) (by decide) (by first | decide | omega) ?_
    exact vx_ret (m_iret (v := (kI σ 35 k7)) hx hb hr hlocks hV hS (⟨k7, c7, rfl, rfl⟩) dX4_doneBy_24)
  · replace hl : lv_has ls 3 [(2, .null), (0, .ref (L 0 0)), (1, .int x0)] := by have h9 := hl; rw [c7] at h9; exact h9
    exact m_throwX hx hb hfl (own := RX4) (cls := "java/util/NoSuchElementException") (text := "there is no such task") (names := ["java/lang/RuntimeException", "java/lang/Exception"]) (ik := 153) (is := 155) (ic := 157) (ix := 13) (rx := prog_29_method_4_code) (by decide +kernel) (by decide +kernel) (by decide +kernel) (by decide +kernel) hown (by decide) (by decide) kc153 (hts _ (by decide +kernel)) (hE.1.2.2.2.1 _ (List.mem_of_getElem? (i := 11) rfl)) (m_hat hE (by decide +kernel) hts) (by decide +kernel) hE hV hS (by rw [hml]; exact hl.1) dX4_doneBy_10 dX4_doneBy_13 dX4_doneBy_14 dX4_doneBy_16 dX4_doneBy_19 hnx (by decide) (by decide) (by decide) (by decide) hlocks (⟨rfl, rfl, c7⟩) (by decide) (by decide)
set_option maxHeartbeats 4000000 in
set_option maxRecDepth 100000 in
theorem c_X4_doneIn {l : Launch} (hfl : l.stackTraces = false) {D : va_G} {cs : mC} {df : Nat} {P : Nat → Prop} {h0 : mH} {L : KL} {σ : KS} {hh : mH} (sz : Nat) (hC : CRep cs df P h0 L σ hh) (x0 : Int32) : vx_Met l yX4_doneIn wsX4_doneIn ({ frames := 6, cells := 1, slots := 6, locals := 90 }) (mPre [.ref (L 0 0), .int x0] D cs df hh sz) (va_Qi ((fun (r : Int32) (h1 : mH) => ∃ t, inR x0 (kN σ 62 1) = some t ∧ h1 = hh ∧ r = kI σ 24 t)) (mB D hh sz) (mA hh sz)) (mX D hh sz (fun E h1 => E = "java/lang/IndexOutOfBoundsException" ∧ h1 = hh ∧ inR x0 (kN σ 62 1) = none)) 1 6 (mA hh sz) := by
  refine vx_ofW (cc := cX4_doneIn) (maxL := 3) (ret := (some .int)) (by decide) rfl ?_
  intro p e s m args below meth c s₁ B0 hml hnx hv
  obtain ⟨hargs, hsz, hV, hE⟩ := hv
  subst hsz
  have hx := B0.exec
  have hb := B0.bytes
  have hr := B0.returns
  have hlocks := B0.notSynchronized
  have hts := atoms_spec (ws := wsX4_doneIn) B0.pre
  have hown : s.vm.findClass RX4 = some m.cls := findClass_of_methodNamed B0.named
  have hK := hE.1.1
  have hA : ∀ q : Nat, s.heap.size ≤ q → mA hh s.heap.size q := mA.top
  have hS : va_S (mA hh s.heap.size) s.heap s.heap [] := va_S.rf
  have hi_X1 : ∀ w ∈ u_ws RX1 TX1 6, w ∈ wsX4_doneIn := by decide +kernel
  have kn201 : va_Nw (.fieldLinkNest RX4 201 "TaskKernel$Group" "done" "I" "TaskKernel") s := hE.1.2.1 _ (List.mem_of_getElem? (i := 4) rfl)
  have kc91 : (Cond.classLink RX4 91 "java/lang/IndexOutOfBoundsException").before args s = true := hts _ (by decide +kernel)
  have hl := lv_entry ([.ref (L 0 0), .int x0]) (n := 3) (by first | exact Nat.le_of_ble_eq_true rfl | simp [lg_sl, rf_cat, ct_ref, ct_int, ct_null, ct_long])
  have hent := lg_entry_eq m ([.ref (L 0 0), .int x0]) 3
  rw [← hargs] at hent
  rw [hent]
  generalize (lg_sl ([.ref (L 0 0), .int x0]) ++ List.replicate (3 - (lg_sl ([.ref (L 0 0), .int x0])).length) Slot.unset).toArray = ls at hl ⊢
  replace hl : lv_has ls 3 [(0, .ref (L 0 0)), (1, .int x0)] := hl
  have hwf := hC.wf
  obtain ⟨⟨z0, z1, z2, z3, z4⟩, z5, z6, z7, z8, z9, z10, z11, z12⟩ := hwf
  refine lv_aload_n hx hb dX4_doneIn_0 rfl (lv_at hl 0 rfl) ?_
  refine lv_iload_n hx hb dX4_doneIn_1 rfl (lv_at hl 1 rfl) ?_
  refine m_callq (va_runV (As := [.int x0]) (rest := []) ⟨hx, hb, hml, hown, hts⟩ (c_X4_groupAt (l := l) (s.heap.size) hC x0) (cwV 1 hts gX4_doneIn_X4_groupAt rfl rfl rfl (by decide +kernel) ⟨by decide, by decide⟩) (m_preV (r := (RX4, TX4, 11)) hE hV hS hA (hC.at (k := 0) (i := 0) rfl) rfl) rfl rfl hl.1 rfl (lv_room (by first | exact Nat.le_of_ble_eq_true rfl | simp [rf_cat, ct_ref, ct_int, ct_null, ct_long])) dX4_doneIn_2 ⟨by decide, by decide⟩) hV hS hA (fun r h1 H locs hV hS hp _ => ?_)
  obtain ⟨e1, e2⟩ := hp
  subst e2
  rw [e1] at hV; clear e1
  refine m_astore_nq (lv' := [(2, va_rf (((inR x0 (kN σ 62 1))).map (L 2))), (0, .ref (L 0 0)), (1, .int x0)]) hx hb dX4_doneIn_5 rfl hl (by decide) (by first | rfl | simp [rf_cat]) (fun ls hl => ?_)
  refine m_aload_nq hx hb dX4_doneIn_6 rfl (lv_at hl 0 rfl) ?_
  refine m_ifnonnull_q (o := (inR x0 (kN σ 62 1))) (f := L 2) (tgt := 20) hx hb dX4_doneIn_7 (by decide) (fun k7 c7 => ?_) (fun c7 => ?_)
  · have bk7 := (inR_some c7).2
    replace hl : lv_has ls 3 [(2, .ref (L 2 k7)), (0, .ref (L 0 0)), (1, .int x0)] := by have h9 := hl; rw [c7] at h9; exact h9
    refine lv_aload_n hx hb dX4_doneIn_20 rfl (lv_at hl 0 rfl) ?_
    refine m_getN (C := RX1) (T := TX1) (N := 6) (host := "TaskKernel") hx hb hts hi_X1 hown hK hV 4 (v := .int (kI σ 24 k7)) (g_grp4 hC (by first | assumption | (show k7 < kN σ 62 1; omega))) rfl (by decide) kn201 (fun _ h9 => h9) dX4_doneIn_21 ?_
    refine W.widen (k := 1) (n := 6) (by decide) (by first | decide | omega) ?_
    exact vx_ret (m_iret (v := (kI σ 24 k7)) hx hb hr hlocks hV hS (⟨k7, c7, rfl, rfl⟩) dX4_doneIn_24)
  · replace hl : lv_has ls 3 [(2, .null), (0, .ref (L 0 0)), (1, .int x0)] := by have h9 := hl; rw [c7] at h9; exact h9
    exact m_throw hx hb hfl (own := RX4) (cls := "java/lang/IndexOutOfBoundsException") (text := "there is no such group") (names := ["java/lang/RuntimeException", "java/lang/Exception"]) (ik := 91) (is := 107) (ic := 95) hown (by decide) (by decide) kc91 (hts _ (by decide +kernel)) (hE.1.2.2.2.1 _ (List.mem_of_getElem? (i := 5) rfl)) (m_hat hE (by decide +kernel) hts) (by decide +kernel) hE hV hS (by rw [hml]; exact hl.1) dX4_doneIn_10 dX4_doneIn_13 dX4_doneIn_14 dX4_doneIn_16 dX4_doneIn_19 hnx (by decide) (by decide) (by decide) (by decide) hlocks (⟨rfl, rfl, c7⟩) (by decide) (by decide)
set_option maxHeartbeats 4000000 in
set_option maxRecDepth 100000 in
theorem c_X4_missesOf {l : Launch} (hfl : l.stackTraces = false) {D : va_G} {cs : mC} {df : Nat} {P : Nat → Prop} {h0 : mH} {L : KL} {σ : KS} {hh : mH} (sz : Nat) (hC : CRep cs df P h0 L σ hh) (x0 : Int32) : vx_Met l yX4_missesOf wsX4_missesOf ({ frames := 6, cells := 1, slots := 6, locals := 90 }) (mPre [.ref (L 0 0), .int x0] D cs df hh sz) (va_Qi ((fun (r : Int32) (h1 : mH) => ∃ t, inR x0 (kN σ 62 2) = some t ∧ h1 = hh ∧ r = kI σ 41 t)) (mB D hh sz) (mA hh sz)) (mX D hh sz (fun E h1 => E = "java/util/NoSuchElementException" ∧ h1 = hh ∧ inR x0 (kN σ 62 2) = none)) 1 6 (mA hh sz) := by
  refine vx_ofW (cc := cX4_missesOf) (maxL := 3) (ret := (some .int)) (by decide) rfl ?_
  intro p e s m args below meth c s₁ B0 hml hnx hv
  obtain ⟨hargs, hsz, hV, hE⟩ := hv
  subst hsz
  have hx := B0.exec
  have hb := B0.bytes
  have hr := B0.returns
  have hlocks := B0.notSynchronized
  have hts := atoms_spec (ws := wsX4_missesOf) B0.pre
  have hown : s.vm.findClass RX4 = some m.cls := findClass_of_methodNamed B0.named
  have hK := hE.1.1
  have hA : ∀ q : Nat, s.heap.size ≤ q → mA hh s.heap.size q := mA.top
  have hS : va_S (mA hh s.heap.size) s.heap s.heap [] := va_S.rf
  have hi_X3 : ∀ w ∈ u_ws RX3 TX3 16, w ∈ wsX4_missesOf := by decide +kernel
  have kn225 : va_Nw (.fieldLinkNest RX4 225 "TaskKernel$Task" "missed" "I" "TaskKernel") s := hE.1.2.1 _ (List.mem_of_getElem? (i := 22) rfl)
  have kc153 : (Cond.classLink RX4 153 "java/util/NoSuchElementException").before args s = true := hts _ (by decide +kernel)
  have hl := lv_entry ([.ref (L 0 0), .int x0]) (n := 3) (by first | exact Nat.le_of_ble_eq_true rfl | simp [lg_sl, rf_cat, ct_ref, ct_int, ct_null, ct_long])
  have hent := lg_entry_eq m ([.ref (L 0 0), .int x0]) 3
  rw [← hargs] at hent
  rw [hent]
  generalize (lg_sl ([.ref (L 0 0), .int x0]) ++ List.replicate (3 - (lg_sl ([.ref (L 0 0), .int x0])).length) Slot.unset).toArray = ls at hl ⊢
  replace hl : lv_has ls 3 [(0, .ref (L 0 0)), (1, .int x0)] := hl
  have hwf := hC.wf
  obtain ⟨⟨z0, z1, z2, z3, z4⟩, z5, z6, z7, z8, z9, z10, z11, z12⟩ := hwf
  refine lv_aload_n hx hb dX4_missesOf_0 rfl (lv_at hl 0 rfl) ?_
  refine lv_iload_n hx hb dX4_missesOf_1 rfl (lv_at hl 1 rfl) ?_
  refine m_callq (va_runV (As := [.int x0]) (rest := []) ⟨hx, hb, hml, hown, hts⟩ (c_X4_taskAt (l := l) (s.heap.size) hC x0) (cwV 1 hts gX4_missesOf_X4_taskAt rfl rfl rfl (by decide +kernel) ⟨by decide, by decide⟩) (m_preV (r := (RX4, TX4, 11)) hE hV hS hA (hC.at (k := 0) (i := 0) rfl) rfl) rfl rfl hl.1 rfl (lv_room (by first | exact Nat.le_of_ble_eq_true rfl | simp [rf_cat, ct_ref, ct_int, ct_null, ct_long])) dX4_missesOf_2 ⟨by decide, by decide⟩) hV hS hA (fun r h1 H locs hV hS hp _ => ?_)
  obtain ⟨e1, e2⟩ := hp
  subst e2
  rw [e1] at hV; clear e1
  refine m_astore_nq (lv' := [(2, va_rf (((inR x0 (kN σ 62 2))).map (L 3))), (0, .ref (L 0 0)), (1, .int x0)]) hx hb dX4_missesOf_5 rfl hl (by decide) (by first | rfl | simp [rf_cat]) (fun ls hl => ?_)
  refine m_aload_nq hx hb dX4_missesOf_6 rfl (lv_at hl 0 rfl) ?_
  refine m_ifnonnull_q (o := (inR x0 (kN σ 62 2))) (f := L 3) (tgt := 20) hx hb dX4_missesOf_7 (by decide) (fun k7 c7 => ?_) (fun c7 => ?_)
  · have bk7 := (inR_some c7).2
    replace hl : lv_has ls 3 [(2, .ref (L 3 k7)), (0, .ref (L 0 0)), (1, .int x0)] := by have h9 := hl; rw [c7] at h9; exact h9
    refine lv_aload_n hx hb dX4_missesOf_20 rfl (lv_at hl 0 rfl) ?_
    refine m_getN (C := RX3) (T := TX3) (N := 16) (host := "TaskKernel") hx hb hts hi_X3 hown hK hV 11 (v := .int (kI σ 41 k7)) (g_task11 hC (by first | assumption | (show k7 < kN σ 62 2; omega))) rfl (by decide) kn225 (fun _ h9 => h9) dX4_missesOf_21 ?_
    refine W.widen (k := 1) (n := 6) (by decide) (by first | decide | omega) ?_
    exact vx_ret (m_iret (v := (kI σ 41 k7)) hx hb hr hlocks hV hS (⟨k7, c7, rfl, rfl⟩) dX4_missesOf_24)
  · replace hl : lv_has ls 3 [(2, .null), (0, .ref (L 0 0)), (1, .int x0)] := by have h9 := hl; rw [c7] at h9; exact h9
    exact m_throwX hx hb hfl (own := RX4) (cls := "java/util/NoSuchElementException") (text := "there is no such task") (names := ["java/lang/RuntimeException", "java/lang/Exception"]) (ik := 153) (is := 155) (ic := 157) (ix := 13) (rx := prog_29_method_4_code) (by decide +kernel) (by decide +kernel) (by decide +kernel) (by decide +kernel) hown (by decide) (by decide) kc153 (hts _ (by decide +kernel)) (hE.1.2.2.2.1 _ (List.mem_of_getElem? (i := 11) rfl)) (m_hat hE (by decide +kernel) hts) (by decide +kernel) hE hV hS (by rw [hml]; exact hl.1) dX4_missesOf_10 dX4_missesOf_13 dX4_missesOf_14 dX4_missesOf_16 dX4_missesOf_19 hnx (by decide) (by decide) (by decide) (by decide) hlocks (⟨rfl, rfl, c7⟩) (by decide) (by decide)
set_option maxHeartbeats 4000000 in
set_option maxRecDepth 100000 in
theorem c_X4_setLimit {l : Launch} (hfl : l.stackTraces = false) {D : va_G} {cs : mC} {df : Nat} {P : Nat → Prop} {h0 : mH} {L : KL} {σ : KS} {hh : mH} (sz : Nat) (hC : CRep cs df P h0 L σ hh) (x0 : Int32) : vx_Met l yX4_setLimit wsX4_setLimit ({ frames := 6, cells := 1, slots := 6, locals := 90 }) (mPre [.ref (L 0 0), .int x0] D cs df hh sz) (va_Qi ((fun (r : Int32) (h1 : mH) => CRep cs df P h0 L (sI σ 0 (va_up (kI σ 0) 0 x0)) h1 ∧ r = kI σ 0 0 ∧ 1 ≤ x0 ∧ x0 ≤ 99)) (mB D hh sz) (mA hh sz)) (mX D hh sz (fun E h1 => E = "java/lang/IllegalArgumentException" ∧ h1 = hh ∧ (x0 < 1 ∨ 99 < x0))) 1 6 (mA hh sz) := by
  refine vx_ofW (cc := cX4_setLimit) (maxL := 3) (ret := (some .int)) (by decide) rfl ?_
  intro p e s m args below meth c s₁ B0 hml hnx hv
  obtain ⟨hargs, hsz, hV, hE⟩ := hv
  subst hsz
  have hx := B0.exec
  have hb := B0.bytes
  have hr := B0.returns
  have hlocks := B0.notSynchronized
  have hts := atoms_spec (ws := wsX4_setLimit) B0.pre
  have hown : s.vm.findClass RX4 = some m.cls := findClass_of_methodNamed B0.named
  have hK := hE.1.1
  have hA : ∀ q : Nat, s.heap.size ≤ q → mA hh s.heap.size q := mA.top
  have hS : va_S (mA hh s.heap.size) s.heap s.heap [] := va_S.rf
  have kc62 : (Cond.classLink RX4 62 "java/lang/IllegalArgumentException").before args s = true := hts _ (by decide +kernel)
  have hi_X4 : ∀ w ∈ u_ws RX4 TX4 11, w ∈ wsX4_setLimit := by decide +kernel
  have k36 : (Cond.fieldLink RX4 36 "TaskKernel" "heatLimit" "I").before args s = true := hts _ (by decide +kernel)
  have hl := lv_entry ([.ref (L 0 0), .int x0]) (n := 3) (by first | exact Nat.le_of_ble_eq_true rfl | simp [lg_sl, rf_cat, ct_ref, ct_int, ct_null, ct_long])
  have hent := lg_entry_eq m ([.ref (L 0 0), .int x0]) 3
  rw [← hargs] at hent
  rw [hent]
  generalize (lg_sl ([.ref (L 0 0), .int x0]) ++ List.replicate (3 - (lg_sl ([.ref (L 0 0), .int x0])).length) Slot.unset).toArray = ls at hl ⊢
  replace hl : lv_has ls 3 [(0, .ref (L 0 0)), (1, .int x0)] := hl
  refine lv_iload_n hx hb dX4_setLimit_0 rfl (lv_at hl 1 rfl) ?_
  refine lv_iconst (v := 1) hx hb dX4_setLimit_1 (by decide) ?_
  refine lv_icmp_lt (tgt := 11) hx hb dX4_setLimit_2 (by decide) (fun c2 => ?_) (fun c2 => ?_)
  · exact m_throw hx hb hfl (own := RX4) (cls := "java/lang/IllegalArgumentException") (text := "the limit is out of range") (names := ["java/lang/RuntimeException", "java/lang/Exception"]) (ik := 62) (is := 83) (ic := 66) hown (by decide) (by decide) kc62 (hts _ (by decide +kernel)) (hE.1.2.2.2.1 _ (List.mem_of_getElem? (i := 3) rfl)) (m_hat hE (by decide +kernel) hts) (by decide +kernel) hE hV hS (by rw [hml]; exact hl.1) dX4_setLimit_11 dX4_setLimit_14 dX4_setLimit_15 dX4_setLimit_17 dX4_setLimit_20 hnx (by decide) (by decide) (by decide) (by decide) hlocks (⟨rfl, rfl, Or.inl c2⟩) (by decide) (by decide)
  · refine lv_iload_n hx hb dX4_setLimit_5 rfl (lv_at hl 1 rfl) ?_
    refine lv_bipush (v := 99) hx hb dX4_setLimit_6 (by decide) ?_
    refine lv_icmp_le (tgt := 21) hx hb dX4_setLimit_8 (by decide) (fun c8 => ?_) (fun c8 => ?_)
    · refine lv_aload_n hx hb dX4_setLimit_21 rfl (lv_at hl 0 rfl) ?_
      refine m_get (C := RX4) (T := TX4) (N := 11) hx hb hts hi_X4 hown hK hV 5 (v := .int (kI σ 0 0)) (g_kern5 hC rfl) rfl (by decide) k36 (fun _ h9 => h9) dX4_setLimit_22 ?_
      refine lv_istore_n (lv' := [(2, .int (kI σ 0 0)), (0, .ref (L 0 0)), (1, .int x0)]) hx hb dX4_setLimit_25 rfl hl (by decide) rfl (fun ls hl => ?_)
      refine lv_aload_n hx hb dX4_setLimit_26 rfl (lv_at hl 1 rfl) ?_
      refine lv_iload_n hx hb dX4_setLimit_27 rfl (lv_at hl 2 rfl) ?_
      refine m_put (C := RX4) (T := TX4) (N := 11) (v := .int x0) hx hb hts hi_X4 tyX4 tyX4_ok nmX4 hown hK hV hS 5 (p_kern5 hC rfl x0) rfl (by decide) k36 (fun _ h9 => h9) rfl (tyX4_ok 5 (by decide)) rfl rfl dX4_setLimit_28 (fun h H locs hV hS hC => ?_)
      refine lv_iload_n hx hb dX4_setLimit_31 rfl (lv_at hl 0 rfl) ?_
      refine W.widen (k := 1) (n := 6) (by decide) (by first | decide | omega) ?_
      exact vx_ret (m_iret (v := (kI σ 0 0)) hx hb hr hlocks hV hS (⟨hC, rfl, Int32.not_lt.mp c2, c8⟩) dX4_setLimit_32)
    · exact m_throw hx hb hfl (own := RX4) (cls := "java/lang/IllegalArgumentException") (text := "the limit is out of range") (names := ["java/lang/RuntimeException", "java/lang/Exception"]) (ik := 62) (is := 83) (ic := 66) hown (by decide) (by decide) kc62 (hts _ (by decide +kernel)) (hE.1.2.2.2.1 _ (List.mem_of_getElem? (i := 3) rfl)) (m_hat hE (by decide +kernel) hts) (by decide +kernel) hE hV hS (by rw [hml]; exact hl.1) dX4_setLimit_11 dX4_setLimit_14 dX4_setLimit_15 dX4_setLimit_17 dX4_setLimit_20 hnx (by decide) (by decide) (by decide) (by decide) hlocks (⟨rfl, rfl, Or.inr (Int32.not_le.mp c8)⟩) (by decide) (by decide)
set_option maxHeartbeats 4000000 in
set_option maxRecDepth 100000 in
theorem c_X4_setCap {l : Launch} (hfl : l.stackTraces = false) {D : va_G} {cs : mC} {df : Nat} {P : Nat → Prop} {h0 : mH} {L : KL} {σ : KS} {hh : mH} (sz : Nat) (hC : CRep cs df P h0 L σ hh) (x0 : Int32) : vx_Met l yX4_setCap wsX4_setCap ({ frames := 6, cells := 1, slots := 6, locals := 90 }) (mPre [.ref (L 0 0), .int x0] D cs df hh sz) (va_Qi ((fun (r : Int32) (h1 : mH) => CRep cs df P h0 L (sI σ 1 (va_up (kI σ 1) 0 x0)) h1 ∧ r = kI σ 1 0 ∧ 0 ≤ x0 ∧ x0 ≤ 12)) (mB D hh sz) (mA hh sz)) (mX D hh sz (fun E h1 => E = "java/lang/IllegalArgumentException" ∧ h1 = hh ∧ (x0 < 0 ∨ 12 < x0))) 1 6 (mA hh sz) := by
  refine vx_ofW (cc := cX4_setCap) (maxL := 3) (ret := (some .int)) (by decide) rfl ?_
  intro p e s m args below meth c s₁ B0 hml hnx hv
  obtain ⟨hargs, hsz, hV, hE⟩ := hv
  subst hsz
  have hx := B0.exec
  have hb := B0.bytes
  have hr := B0.returns
  have hlocks := B0.notSynchronized
  have hts := atoms_spec (ws := wsX4_setCap) B0.pre
  have hown : s.vm.findClass RX4 = some m.cls := findClass_of_methodNamed B0.named
  have hK := hE.1.1
  have hA : ∀ q : Nat, s.heap.size ≤ q → mA hh s.heap.size q := mA.top
  have hS : va_S (mA hh s.heap.size) s.heap s.heap [] := va_S.rf
  have kc62 : (Cond.classLink RX4 62 "java/lang/IllegalArgumentException").before args s = true := hts _ (by decide +kernel)
  have hi_X4 : ∀ w ∈ u_ws RX4 TX4 11, w ∈ wsX4_setCap := by decide +kernel
  have k40 : (Cond.fieldLink RX4 40 "TaskKernel" "powerCap" "I").before args s = true := hts _ (by decide +kernel)
  have hl := lv_entry ([.ref (L 0 0), .int x0]) (n := 3) (by first | exact Nat.le_of_ble_eq_true rfl | simp [lg_sl, rf_cat, ct_ref, ct_int, ct_null, ct_long])
  have hent := lg_entry_eq m ([.ref (L 0 0), .int x0]) 3
  rw [← hargs] at hent
  rw [hent]
  generalize (lg_sl ([.ref (L 0 0), .int x0]) ++ List.replicate (3 - (lg_sl ([.ref (L 0 0), .int x0])).length) Slot.unset).toArray = ls at hl ⊢
  replace hl : lv_has ls 3 [(0, .ref (L 0 0)), (1, .int x0)] := hl
  refine lv_iload_n hx hb dX4_setCap_0 rfl (lv_at hl 1 rfl) ?_
  refine lv_if_lt (tgt := 10) hx hb dX4_setCap_1 (by decide) (fun c1 => ?_) (fun c1 => ?_)
  · exact m_throw hx hb hfl (own := RX4) (cls := "java/lang/IllegalArgumentException") (text := "the power cap is out of range") (names := ["java/lang/RuntimeException", "java/lang/Exception"]) (ik := 62) (is := 85) (ic := 66) hown (by decide) (by decide) kc62 (hts _ (by decide +kernel)) (hE.1.2.2.2.1 _ (List.mem_of_getElem? (i := 4) rfl)) (m_hat hE (by decide +kernel) hts) (by decide +kernel) hE hV hS (by rw [hml]; exact hl.1) dX4_setCap_10 dX4_setCap_13 dX4_setCap_14 dX4_setCap_16 dX4_setCap_19 hnx (by decide) (by decide) (by decide) (by decide) hlocks (⟨rfl, rfl, Or.inl c1⟩) (by decide) (by decide)
  · refine lv_iload_n hx hb dX4_setCap_4 rfl (lv_at hl 1 rfl) ?_
    refine lv_bipush (v := 12) hx hb dX4_setCap_5 (by decide) ?_
    refine lv_icmp_le (tgt := 20) hx hb dX4_setCap_7 (by decide) (fun c7 => ?_) (fun c7 => ?_)
    · refine lv_aload_n hx hb dX4_setCap_20 rfl (lv_at hl 0 rfl) ?_
      refine m_get (C := RX4) (T := TX4) (N := 11) hx hb hts hi_X4 hown hK hV 6 (v := .int (kI σ 1 0)) (g_kern6 hC rfl) rfl (by decide) k40 (fun _ h9 => h9) dX4_setCap_21 ?_
      refine lv_istore_n (lv' := [(2, .int (kI σ 1 0)), (0, .ref (L 0 0)), (1, .int x0)]) hx hb dX4_setCap_24 rfl hl (by decide) rfl (fun ls hl => ?_)
      refine lv_aload_n hx hb dX4_setCap_25 rfl (lv_at hl 1 rfl) ?_
      refine lv_iload_n hx hb dX4_setCap_26 rfl (lv_at hl 2 rfl) ?_
      refine m_put (C := RX4) (T := TX4) (N := 11) (v := .int x0) hx hb hts hi_X4 tyX4 tyX4_ok nmX4 hown hK hV hS 6 (p_kern6 hC rfl x0) rfl (by decide) k40 (fun _ h9 => h9) rfl (tyX4_ok 6 (by decide)) rfl rfl dX4_setCap_27 (fun h H locs hV hS hC => ?_)
      refine lv_iload_n hx hb dX4_setCap_30 rfl (lv_at hl 0 rfl) ?_
      refine W.widen (k := 1) (n := 6) (by decide) (by first | decide | omega) ?_
      exact vx_ret (m_iret (v := (kI σ 1 0)) hx hb hr hlocks hV hS (⟨hC, rfl, Int32.not_lt.mp c1, c7⟩) dX4_setCap_31)
    · exact m_throw hx hb hfl (own := RX4) (cls := "java/lang/IllegalArgumentException") (text := "the power cap is out of range") (names := ["java/lang/RuntimeException", "java/lang/Exception"]) (ik := 62) (is := 85) (ic := 66) hown (by decide) (by decide) kc62 (hts _ (by decide +kernel)) (hE.1.2.2.2.1 _ (List.mem_of_getElem? (i := 4) rfl)) (m_hat hE (by decide +kernel) hts) (by decide +kernel) hE hV hS (by rw [hml]; exact hl.1) dX4_setCap_10 dX4_setCap_13 dX4_setCap_14 dX4_setCap_16 dX4_setCap_19 hnx (by decide) (by decide) (by decide) (by decide) hlocks (⟨rfl, rfl, Or.inr (Int32.not_le.mp c7)⟩) (by decide) (by decide)
set_option maxHeartbeats 4000000 in
set_option maxRecDepth 100000 in
theorem c_X4_now {l : Launch} {D : va_G} {cs : mC} {df : Nat} {P : Nat → Prop} {h0 : mH} {L : KL} {σ : KS} {hh : mH} (sz : Nat) (hC : CRep cs df P h0 L σ hh)  : Met l yX4_now wsX4_now ({ frames := 0, cells := 0, slots := 0, locals := 0 }) (mPre [.ref (L 0 0)] D cs df hh sz) (va_Qi ((fun (r : Int32) (h1 : mH) => h1 = hh ∧ r = (kI σ 2 0))) (mB D hh sz) (mA hh sz)) 0 0 (mA hh sz) := by
  refine Met.ofW (cc := cX4_now) (maxL := 1) (ret := (some .int)) (by decide) rfl ?_
  intro p e s m args below meth c s₁ B0 hml hv
  obtain ⟨hargs, hsz, hV, hE⟩ := hv
  subst hsz
  have hx := B0.exec
  have hb := B0.bytes
  have hr := B0.returns
  have hlocks := B0.notSynchronized
  have hts := atoms_spec (ws := wsX4_now) B0.pre
  have hown : s.vm.findClass RX4 = some m.cls := findClass_of_methodNamed B0.named
  have hK := hE.1.1
  have hA : ∀ q : Nat, s.heap.size ≤ q → mA hh s.heap.size q := mA.top
  have hS : va_S (mA hh s.heap.size) s.heap s.heap [] := va_S.rf
  have hi_X4 : ∀ w ∈ u_ws RX4 TX4 11, w ∈ wsX4_now := by decide +kernel
  have k43 : (Cond.fieldLink RX4 43 "TaskKernel" "presentTick" "I").before args s = true := hts _ (by decide +kernel)
  have hl := lv_entry ([.ref (L 0 0)]) (n := 1) (by first | exact Nat.le_of_ble_eq_true rfl | simp [lg_sl, rf_cat, ct_ref, ct_int, ct_null, ct_long])
  have hent := lg_entry_eq m ([.ref (L 0 0)]) 1
  rw [← hargs] at hent
  rw [hent]
  generalize (lg_sl ([.ref (L 0 0)]) ++ List.replicate (1 - (lg_sl ([.ref (L 0 0)])).length) Slot.unset).toArray = ls at hl ⊢
  replace hl : lv_has ls 1 [(0, .ref (L 0 0))] := hl
  refine lv_aload_n hx hb dX4_now_0 rfl (lv_at hl 0 rfl) ?_
  refine m_get (C := RX4) (T := TX4) (N := 11) hx hb hts hi_X4 hown hK hV 7 (v := .int (kI σ 2 0)) (g_kern7 hC rfl) rfl (by decide) k43 (fun _ h9 => h9) dX4_now_1 ?_
  exact m_iret (v := (kI σ 2 0)) hx hb hr hlocks hV hS (⟨rfl, rfl⟩) dX4_now_4
set_option maxHeartbeats 4000000 in
set_option maxRecDepth 100000 in
theorem c_X4_moves {l : Launch} {D : va_G} {cs : mC} {df : Nat} {P : Nat → Prop} {h0 : mH} {L : KL} {σ : KS} {hh : mH} (sz : Nat) (hC : CRep cs df P h0 L σ hh)  : Met l yX4_moves wsX4_moves ({ frames := 0, cells := 0, slots := 0, locals := 0 }) (mPre [.ref (L 0 0)] D cs df hh sz) (va_Qi ((fun (r : Int32) (h1 : mH) => h1 = hh ∧ r = (kI σ 3 0))) (mB D hh sz) (mA hh sz)) 0 0 (mA hh sz) := by
  refine Met.ofW (cc := cX4_moves) (maxL := 1) (ret := (some .int)) (by decide) rfl ?_
  intro p e s m args below meth c s₁ B0 hml hv
  obtain ⟨hargs, hsz, hV, hE⟩ := hv
  subst hsz
  have hx := B0.exec
  have hb := B0.bytes
  have hr := B0.returns
  have hlocks := B0.notSynchronized
  have hts := atoms_spec (ws := wsX4_moves) B0.pre
  have hown : s.vm.findClass RX4 = some m.cls := findClass_of_methodNamed B0.named
  have hK := hE.1.1
  have hA : ∀ q : Nat, s.heap.size ≤ q → mA hh s.heap.size q := mA.top
  have hS : va_S (mA hh s.heap.size) s.heap s.heap [] := va_S.rf
  have hi_X4 : ∀ w ∈ u_ws RX4 TX4 11, w ∈ wsX4_moves := by decide +kernel
  have k46 : (Cond.fieldLink RX4 46 "TaskKernel" "moveCount" "I").before args s = true := hts _ (by decide +kernel)
  have hl := lv_entry ([.ref (L 0 0)]) (n := 1) (by first | exact Nat.le_of_ble_eq_true rfl | simp [lg_sl, rf_cat, ct_ref, ct_int, ct_null, ct_long])
  have hent := lg_entry_eq m ([.ref (L 0 0)]) 1
  rw [← hargs] at hent
  rw [hent]
  generalize (lg_sl ([.ref (L 0 0)]) ++ List.replicate (1 - (lg_sl ([.ref (L 0 0)])).length) Slot.unset).toArray = ls at hl ⊢
  replace hl : lv_has ls 1 [(0, .ref (L 0 0))] := hl
  refine lv_aload_n hx hb dX4_moves_0 rfl (lv_at hl 0 rfl) ?_
  refine m_get (C := RX4) (T := TX4) (N := 11) hx hb hts hi_X4 hown hK hV 8 (v := .int (kI σ 3 0)) (g_kern8 hC rfl) rfl (by decide) k46 (fun _ h9 => h9) dX4_moves_1 ?_
  exact m_iret (v := (kI σ 3 0)) hx hb hr hlocks hV hS (⟨rfl, rfl⟩) dX4_moves_4
set_option maxHeartbeats 4000000 in
set_option maxRecDepth 100000 in
theorem c_X4_timeOfGroup {l : Launch} (hfl : l.stackTraces = false) {D : va_G} {cs : mC} {df : Nat} {P : Nat → Prop} {h0 : mH} {L : KL} {σ : KS} {hh : mH} (sz : Nat) (hC : CRep cs df P h0 L σ hh) (x0 : Int32) : vx_Met l yX4_timeOfGroup wsX4_timeOfGroup ({ frames := 6, cells := 1, slots := 6, locals := 90 }) (mPre [.ref (L 0 0), .int x0] D cs df hh sz) (va_Ql ((fun (r : Int64) (h1 : mH) => ∃ t, inR x0 (kN σ 62 1) = some t ∧ t ≠ 0 ∧ h1 = hh ∧ r = kW σ 23 t)) (mB D hh sz) (mA hh sz)) (mX D hh sz (fun E h1 => E = "java/lang/IndexOutOfBoundsException" ∧ h1 = hh ∧ (inR x0 (kN σ 62 1) = none ∨ inR x0 (kN σ 62 1) = some 0))) 1 6 (mA hh sz) := by
  refine vx_ofW (cc := cX4_timeOfGroup) (maxL := 3) (ret := (some .long)) (by decide) rfl ?_
  intro p e s m args below meth c s₁ B0 hml hnx hv
  obtain ⟨hargs, hsz, hV, hE⟩ := hv
  subst hsz
  have hx := B0.exec
  have hb := B0.bytes
  have hr := B0.returns
  have hlocks := B0.notSynchronized
  have hts := atoms_spec (ws := wsX4_timeOfGroup) B0.pre
  have hown : s.vm.findClass RX4 = some m.cls := findClass_of_methodNamed B0.named
  have hK := hE.1.1
  have hA : ∀ q : Nat, s.heap.size ≤ q → mA hh s.heap.size q := mA.top
  have hS : va_S (mA hh s.heap.size) s.heap s.heap [] := va_S.rf
  have kc91 : (Cond.classLink RX4 91 "java/lang/IndexOutOfBoundsException").before args s = true := hts _ (by decide +kernel)
  have hi_X4 : ∀ w ∈ u_ws RX4 TX4 11, w ∈ wsX4_timeOfGroup := by decide +kernel
  have k32 : (Cond.fieldLink RX4 32 "TaskKernel" "root" "LTaskKernel$Group;").before args s = true := hts _ (by decide +kernel)
  have hi_X1 : ∀ w ∈ u_ws RX1 TX1 6, w ∈ wsX4_timeOfGroup := by decide +kernel
  have kn197 : va_Nw (.fieldLinkNest RX4 197 "TaskKernel$Group" "time" "J" "TaskKernel") s := hE.1.2.1 _ (List.mem_of_getElem? (i := 3) rfl)
  have hl := lv_entry ([.ref (L 0 0), .int x0]) (n := 3) (by first | exact Nat.le_of_ble_eq_true rfl | simp [lg_sl, rf_cat, ct_ref, ct_int, ct_null, ct_long])
  have hent := lg_entry_eq m ([.ref (L 0 0), .int x0]) 3
  rw [← hargs] at hent
  rw [hent]
  generalize (lg_sl ([.ref (L 0 0), .int x0]) ++ List.replicate (3 - (lg_sl ([.ref (L 0 0), .int x0])).length) Slot.unset).toArray = ls at hl ⊢
  replace hl : lv_has ls 3 [(0, .ref (L 0 0)), (1, .int x0)] := hl
  have hwf := hC.wf
  obtain ⟨⟨z0, z1, z2, z3, z4⟩, z5, z6, z7, z8, z9, z10, z11, z12⟩ := hwf
  refine lv_aload_n hx hb dX4_timeOfGroup_0 rfl (lv_at hl 0 rfl) ?_
  refine lv_iload_n hx hb dX4_timeOfGroup_1 rfl (lv_at hl 1 rfl) ?_
  refine m_callq (va_runV (As := [.int x0]) (rest := []) ⟨hx, hb, hml, hown, hts⟩ (c_X4_groupAt (l := l) (s.heap.size) hC x0) (cwV 1 hts gX4_timeOfGroup_X4_groupAt rfl rfl rfl (by decide +kernel) ⟨by decide, by decide⟩) (m_preV (r := (RX4, TX4, 11)) hE hV hS hA (hC.at (k := 0) (i := 0) rfl) rfl) rfl rfl hl.1 rfl (lv_room (by first | exact Nat.le_of_ble_eq_true rfl | simp [rf_cat, ct_ref, ct_int, ct_null, ct_long])) dX4_timeOfGroup_2 ⟨by decide, by decide⟩) hV hS hA (fun r h1 H locs hV hS hp _ => ?_)
  obtain ⟨e1, e2⟩ := hp
  subst e2
  rw [e1] at hV; clear e1
  refine m_astore_nq (lv' := [(2, va_rf (((inR x0 (kN σ 62 1))).map (L 2))), (0, .ref (L 0 0)), (1, .int x0)]) hx hb dX4_timeOfGroup_5 rfl hl (by decide) (by first | rfl | simp [rf_cat]) (fun ls hl => ?_)
  refine m_aload_nq hx hb dX4_timeOfGroup_6 rfl (lv_at hl 0 rfl) ?_
  refine m_ifnull_q (o := (inR x0 (kN σ 62 1))) (f := L 2) (tgt := 18) hx hb dX4_timeOfGroup_7 (by decide) (fun c7 => ?_) (fun k7 c7 => ?_)
  · replace hl : lv_has ls 3 [(2, .null), (0, .ref (L 0 0)), (1, .int x0)] := by have h9 := hl; rw [c7] at h9; exact h9
    exact m_throw hx hb hfl (own := RX4) (cls := "java/lang/IndexOutOfBoundsException") (text := "there is no such group with a virtual time") (names := ["java/lang/RuntimeException", "java/lang/Exception"]) (ik := 91) (is := 195) (ic := 95) hown (by decide) (by decide) kc91 (hts _ (by decide +kernel)) (hE.1.2.2.2.1 _ (List.mem_of_getElem? (i := 13) rfl)) (m_hat hE (by decide +kernel) hts) (by decide +kernel) hE hV hS (by rw [hml]; exact hl.1) dX4_timeOfGroup_18 dX4_timeOfGroup_21 dX4_timeOfGroup_22 dX4_timeOfGroup_24 dX4_timeOfGroup_27 hnx (by decide) (by decide) (by decide) (by decide) hlocks (⟨rfl, rfl, Or.inl c7⟩) (by decide) (by decide)
  · have bk7 := (inR_some c7).2
    replace hl : lv_has ls 3 [(2, .ref (L 2 k7)), (0, .ref (L 0 0)), (1, .int x0)] := by have h9 := hl; rw [c7] at h9; exact h9
    refine lv_aload_n hx hb dX4_timeOfGroup_10 rfl (lv_at hl 0 rfl) ?_
    refine lv_aload_n hx hb dX4_timeOfGroup_11 rfl (lv_at hl 1 rfl) ?_
    refine m_get (C := RX4) (T := TX4) (N := 11) hx hb hts hi_X4 hown hK hV 4 (v := .ref (L 2 0)) (g_kern4 hC rfl) rfl (by decide) k32 (fun _ h9 => h9) dX4_timeOfGroup_12 ?_
    refine lv_acmp_ne (rx := (some (L 2 k7))) (ry := (some (L 2 0))) (tgt := 28) hx hb dX4_timeOfGroup_15 (by decide) (fun c15 => ?_) (fun c15 => ?_)
    · replace c15 : ¬ k7 = 0 := fun q9 => c15 (by rw [q9])
      refine lv_aload_n hx hb dX4_timeOfGroup_28 rfl (lv_at hl 0 rfl) ?_
      refine m_getN (C := RX1) (T := TX1) (N := 6) (host := "TaskKernel") hx hb hts hi_X1 hown hK hV 3 (v := .long (kW σ 23 k7)) (g_grp3 hC (by first | assumption | (show k7 < kN σ 62 1; omega))) rfl (by decide) kn197 (fun _ h9 => h9) dX4_timeOfGroup_29 ?_
      refine W.widen (k := 1) (n := 6) (by decide) (by first | decide | omega) ?_
      exact vx_ret (m_lret (v := (kW σ 23 k7)) hx hb hr hlocks hV hS (⟨k7, c7, c15, rfl, rfl⟩) dX4_timeOfGroup_32)
    · replace c15 : k7 = 0 := (hC.inj (k := 2) (k2 := 2) (by first | assumption | (show k7 < kN σ 62 1; omega)) (hC.wf.1.2.1) (Option.some.inj c15)).2
      exact m_throw hx hb hfl (own := RX4) (cls := "java/lang/IndexOutOfBoundsException") (text := "there is no such group with a virtual time") (names := ["java/lang/RuntimeException", "java/lang/Exception"]) (ik := 91) (is := 195) (ic := 95) hown (by decide) (by decide) kc91 (hts _ (by decide +kernel)) (hE.1.2.2.2.1 _ (List.mem_of_getElem? (i := 13) rfl)) (m_hat hE (by decide +kernel) hts) (by decide +kernel) hE hV hS (by rw [hml]; exact hl.1) dX4_timeOfGroup_18 dX4_timeOfGroup_21 dX4_timeOfGroup_22 dX4_timeOfGroup_24 dX4_timeOfGroup_27 hnx (by decide) (by decide) (by decide) (by decide) hlocks (⟨rfl, rfl, Or.inr (by rw [c7, c15])⟩) (by decide) (by decide)
set_option maxHeartbeats 4000000 in
set_option maxRecDepth 100000 in
theorem c_X4_deadlineOf {l : Launch} (hfl : l.stackTraces = false) {D : va_G} {cs : mC} {df : Nat} {P : Nat → Prop} {h0 : mH} {L : KL} {σ : KS} {hh : mH} (sz : Nat) (hC : CRep cs df P h0 L σ hh) (x0 : Int32) : vx_Met l yX4_deadlineOf wsX4_deadlineOf ({ frames := 6, cells := 1, slots := 6, locals := 90 }) (mPre [.ref (L 0 0), .int x0] D cs df hh sz) (va_Qi ((fun (r : Int32) (h1 : mH) => ∃ t, inR x0 (kN σ 62 2) = some t ∧ 0 < kI σ 37 t ∧ h1 = hh ∧ r = kI σ 40 t)) (mB D hh sz) (mA hh sz)) (mX D hh sz (fun E h1 => h1 = hh ∧ (E = "java/util/NoSuchElementException" ∧ inR x0 (kN σ 62 2) = none ∨ E = "java/lang/UnsupportedOperationException" ∧ ∃ t, inR x0 (kN σ 62 2) = some t ∧ ¬ 0 < kI σ 37 t))) 1 6 (mA hh sz) := by
  refine vx_ofW (cc := cX4_deadlineOf) (maxL := 3) (ret := (some .int)) (by decide) rfl ?_
  intro p e s m args below meth c s₁ B0 hml hnx hv
  obtain ⟨hargs, hsz, hV, hE⟩ := hv
  subst hsz
  have hx := B0.exec
  have hb := B0.bytes
  have hr := B0.returns
  have hlocks := B0.notSynchronized
  have hts := atoms_spec (ws := wsX4_deadlineOf) B0.pre
  have hown : s.vm.findClass RX4 = some m.cls := findClass_of_methodNamed B0.named
  have hK := hE.1.1
  have hA : ∀ q : Nat, s.heap.size ≤ q → mA hh s.heap.size q := mA.top
  have hS : va_S (mA hh s.heap.size) s.heap s.heap [] := va_S.rf
  have kq211 : va_Nw (.methodLinkNest RX4 211 yX3_isTimed "TaskKernel") s := hE.1.2.2.1 _ (List.mem_of_getElem? (i := 2) rfl)
  have hi_X3 : ∀ w ∈ u_ws RX3 TX3 16, w ∈ wsX4_deadlineOf := by decide +kernel
  have kn146 : va_Nw (.fieldLinkNest RX4 146 "TaskKernel$Task" "deadline" "I" "TaskKernel") s := hE.1.2.1 _ (List.mem_of_getElem? (i := 21) rfl)
  have kc132 : (Cond.classLink RX4 132 "java/lang/UnsupportedOperationException").before args s = true := hts _ (by decide +kernel)
  have kc153 : (Cond.classLink RX4 153 "java/util/NoSuchElementException").before args s = true := hts _ (by decide +kernel)
  have hl := lv_entry ([.ref (L 0 0), .int x0]) (n := 3) (by first | exact Nat.le_of_ble_eq_true rfl | simp [lg_sl, rf_cat, ct_ref, ct_int, ct_null, ct_long])
  have hent := lg_entry_eq m ([.ref (L 0 0), .int x0]) 3
  rw [← hargs] at hent
  rw [hent]
  generalize (lg_sl ([.ref (L 0 0), .int x0]) ++ List.replicate (3 - (lg_sl ([.ref (L 0 0), .int x0])).length) Slot.unset).toArray = ls at hl ⊢
  replace hl : lv_has ls 3 [(0, .ref (L 0 0)), (1, .int x0)] := hl
  have hwf := hC.wf
  obtain ⟨⟨z0, z1, z2, z3, z4⟩, z5, z6, z7, z8, z9, z10, z11, z12⟩ := hwf
  refine lv_aload_n hx hb dX4_deadlineOf_0 rfl (lv_at hl 0 rfl) ?_
  refine lv_iload_n hx hb dX4_deadlineOf_1 rfl (lv_at hl 1 rfl) ?_
  refine m_callq (va_runV (As := [.int x0]) (rest := []) ⟨hx, hb, hml, hown, hts⟩ (c_X4_taskAt (l := l) (s.heap.size) hC x0) (cwV 1 hts gX4_deadlineOf_X4_taskAt rfl rfl rfl (by decide +kernel) ⟨by decide, by decide⟩) (m_preV (r := (RX4, TX4, 11)) hE hV hS hA (hC.at (k := 0) (i := 0) rfl) rfl) rfl rfl hl.1 rfl (lv_room (by first | exact Nat.le_of_ble_eq_true rfl | simp [rf_cat, ct_ref, ct_int, ct_null, ct_long])) dX4_deadlineOf_2 ⟨by decide, by decide⟩) hV hS hA (fun r h1 H locs hV hS hp _ => ?_)
  obtain ⟨e1, e2⟩ := hp
  subst e2
  rw [e1] at hV; clear e1
  refine m_astore_nq (lv' := [(2, va_rf (((inR x0 (kN σ 62 2))).map (L 3))), (0, .ref (L 0 0)), (1, .int x0)]) hx hb dX4_deadlineOf_5 rfl hl (by decide) (by first | rfl | simp [rf_cat]) (fun ls hl => ?_)
  refine m_aload_nq hx hb dX4_deadlineOf_6 rfl (lv_at hl 0 rfl) ?_
  refine m_ifnonnull_q (o := (inR x0 (kN σ 62 2))) (f := L 3) (tgt := 20) hx hb dX4_deadlineOf_7 (by decide) (fun k7 c7 => ?_) (fun c7 => ?_)
  · have bk7 := (inR_some c7).2
    replace hl : lv_has ls 3 [(2, .ref (L 3 k7)), (0, .ref (L 0 0)), (1, .int x0)] := by have h9 := hl; rw [c7] at h9; exact h9
    refine lv_aload_n hx hb dX4_deadlineOf_20 rfl (lv_at hl 0 rfl) ?_
    refine m_calli (va_runVN (As := []) (rest := []) ⟨hx, hb, hml, hown, hts⟩ (c_X3_isTimed (l := l) (H.size) hC k7 (by first | assumption | omega)) ⟨va_cnB 0 hts gX4_deadlineOf_X3_isTimed_n211 rfl rfl rfl kq211 (hts (.initialized RX3) (by decide +kernel)) (by decide +kernel) ⟨by decide, by decide⟩, hts (.instanceMethod yX3_isTimed) (by decide +kernel), hts (.selects RX3 yX3_isTimed yX3_isTimed) (by decide +kernel)⟩ (m_preV (r := (RX3, TX3, 16)) hE hV hS hA (hC.at (k := 3) (i := k7) (by first | assumption | (show k7 < kN σ 62 2; omega))) rfl) rfl rfl hl.1 rfl (lv_room (by first | exact Nat.le_of_ble_eq_true rfl | simp [rf_cat, ct_ref, ct_int, ct_null, ct_long])) dX4_deadlineOf_21 ⟨by decide, by decide⟩) hV hS hA (fun r h1 H locs hV hS hp _ => ?_)
    obtain ⟨e1, e2⟩ := hp
    subst e2
    rw [e1] at hV; clear e1
    refine lv_if_ne (tgt := 37) hx hb dX4_deadlineOf_24 (by decide) (fun c24 => ?_) (fun c24 => ?_)
    · replace c24 : (decide (0 < kI σ 37 k7)) = true := bI_1.mp c24
      refine lv_aload_n hx hb dX4_deadlineOf_37 rfl (lv_at hl 0 rfl) ?_
      refine m_getN (C := RX3) (T := TX3) (N := 16) (host := "TaskKernel") hx hb hts hi_X3 hown hK hV 10 (v := .int (kI σ 40 k7)) (g_task10 hC (by first | assumption | (show k7 < kN σ 62 2; omega))) rfl (by decide) kn146 (fun _ h9 => h9) dX4_deadlineOf_38 ?_
      refine W.widen (k := 1) (n := 6) (by decide) (by first | decide | omega) ?_
      exact vx_ret (m_iret (v := (kI σ 40 k7)) hx hb hr hlocks hV hS (⟨k7, c7, by simpa using c24, rfl, rfl⟩) dX4_deadlineOf_41)
    · replace c24 : (decide (0 < kI σ 37 k7)) = false := bI_0.mp c24
      exact m_throw hx hb hfl (own := RX4) (cls := "java/lang/UnsupportedOperationException") (text := "the task is plain") (names := ["java/lang/RuntimeException", "java/lang/Exception"]) (ik := 132) (is := 214) (ic := 136) hown (by decide) (by decide) kc132 (hts _ (by decide +kernel)) (hE.1.2.2.2.1 _ (List.mem_of_getElem? (i := 14) rfl)) (m_hat hE (by decide +kernel) hts) (by decide +kernel) hE hV hS (by rw [hml]; exact hl.1) dX4_deadlineOf_27 dX4_deadlineOf_30 dX4_deadlineOf_31 dX4_deadlineOf_33 dX4_deadlineOf_36 hnx (by decide) (by decide) (by decide) (by decide) hlocks (⟨rfl, Or.inr ⟨rfl, k7, c7, by simpa using c24⟩⟩) (by decide) (by decide)
  · replace hl : lv_has ls 3 [(2, .null), (0, .ref (L 0 0)), (1, .int x0)] := by have h9 := hl; rw [c7] at h9; exact h9
    exact m_throwX hx hb hfl (own := RX4) (cls := "java/util/NoSuchElementException") (text := "there is no such task") (names := ["java/lang/RuntimeException", "java/lang/Exception"]) (ik := 153) (is := 155) (ic := 157) (ix := 13) (rx := prog_29_method_4_code) (by decide +kernel) (by decide +kernel) (by decide +kernel) (by decide +kernel) hown (by decide) (by decide) kc153 (hts _ (by decide +kernel)) (hE.1.2.2.2.1 _ (List.mem_of_getElem? (i := 11) rfl)) (m_hat hE (by decide +kernel) hts) (by decide +kernel) hE hV hS (by rw [hml]; exact hl.1) dX4_deadlineOf_10 dX4_deadlineOf_13 dX4_deadlineOf_14 dX4_deadlineOf_16 dX4_deadlineOf_19 hnx (by decide) (by decide) (by decide) (by decide) hlocks (⟨rfl, Or.inl ⟨rfl, c7⟩⟩) (by decide) (by decide)
