def stS (σ : KS) (t : Nat) : Int32 := if kB σ 36 t = true then 101 else match kO σ 42 t with
  | some _ => 119
  | none => if readyS σ t = true then 114 else 105
set_option maxHeartbeats 4000000 in
set_option maxRecDepth 100000 in
theorem c_X4_stateOf {l : Launch} (hfl : l.stackTraces = false) {D : va_G} {cs : mC} {df : Nat} {P : Nat → Prop} {h0 : mH} {L : KL} {σ : KS} {hh : mH} (sz : Nat) (hC : CRep cs df P h0 L σ hh) (x0 : Int32) : vx_Met l yX4_stateOf wsX4_stateOf ({ frames := 6, cells := 1, slots := 6, locals := 90 }) (mPre [.ref (L 0 0), .int x0] D cs df hh sz) (va_Qi ((fun (r : Int32) (h1 : mH) => ∃ t, inR x0 (kN σ 62 2) = some t ∧ h1 = hh ∧ r = stS σ t)) (mB D hh sz) (mA hh sz)) (mX D hh sz (fun E h1 => E = "java/util/NoSuchElementException" ∧ h1 = hh ∧ inR x0 (kN σ 62 2) = none)) 1 6 (mA hh sz) := by
  refine vx_ofW (cc := cX4_stateOf) (maxL := 3) (ret := (some .char)) (by decide) rfl ?_
  intro p e s m args below meth c s₁ B0 hml hnx hv
  obtain ⟨hargs, hsz, hV, hE⟩ := hv
  subst hsz
  have hx := B0.exec
  have hb := B0.bytes
  have hr := B0.returns
  have hlocks := B0.notSynchronized
  have hts := atoms_spec (ws := wsX4_stateOf) B0.pre
  have hown : s.vm.findClass RX4 = some m.cls := findClass_of_methodNamed B0.named
  have hK := hE.1.1
  have hA : ∀ q : Nat, s.heap.size ≤ q → mA hh s.heap.size q := mA.top
  have hS : va_S (mA hh s.heap.size) s.heap s.heap [] := va_S.rf
  have hi_X3 : ∀ w ∈ u_ws RX3 TX3 16, w ∈ wsX4_stateOf := by decide +kernel
  have kn158 : va_Nw (.fieldLinkNest RX4 158 "TaskKernel$Task" "ended" "Z" "TaskKernel") s := hE.1.2.1 _ (List.mem_of_getElem? (i := 17) rfl)
  have kn183 : va_Nw (.fieldLinkNest RX4 183 "TaskKernel$Task" "awaited" "LTaskKernel$Lock;" "TaskKernel") s := hE.1.2.1 _ (List.mem_of_getElem? (i := 23) rfl)
  have kq187 : va_Nw (.methodLinkNest RX4 187 yX3_isReady "TaskKernel") s := hE.1.2.2.1 _ (List.mem_of_getElem? (i := 1) rfl)
  have kc153 : (Cond.classLink RX4 153 "java/util/NoSuchElementException").before args s = true := hts _ (by decide +kernel)
  have hl := lv_entry ([.ref (L 0 0), .int x0]) (n := 3) (by first | exact Nat.le_of_ble_eq_true rfl | simp [lg_sl, rf_cat, ct_ref, ct_int, ct_null, ct_long])
  have hent := lg_entry_eq m ([.ref (L 0 0), .int x0]) 3
  rw [← hargs] at hent
  rw [hent]
  generalize (lg_sl ([.ref (L 0 0), .int x0]) ++ List.replicate (3 - (lg_sl ([.ref (L 0 0), .int x0])).length) Slot.unset).toArray = ls at hl ⊢
  replace hl : lv_has ls 3 [(0, .ref (L 0 0)), (1, .int x0)] := hl
  have hwf := hC.wf
  obtain ⟨⟨z0, z1, z2, z3, z4⟩, z5, z6, z7, z8, z9, z10, z11, z12⟩ := hwf
  refine lv_aload_n hx hb dX4_stateOf_0 rfl (lv_at hl 0 rfl) ?_
  refine lv_iload_n hx hb dX4_stateOf_1 rfl (lv_at hl 1 rfl) ?_
  refine m_callq (va_runV (As := [.int x0]) (rest := []) ⟨hx, hb, hml, hown, hts⟩ (c_X4_taskAt (l := l) (s.heap.size) hC x0) (cwV 1 hts gX4_stateOf_X4_taskAt rfl rfl rfl (by decide +kernel) ⟨by decide, by decide⟩) (m_preV (r := (RX4, TX4, 11)) hE hV hS hA (hC.at (k := 0) (i := 0) rfl) rfl) rfl rfl hl.1 rfl (lv_room (by first | exact Nat.le_of_ble_eq_true rfl | simp [rf_cat, ct_ref, ct_int, ct_null, ct_long])) dX4_stateOf_2 ⟨by decide, by decide⟩) hV hS hA (fun r h1 H locs hV hS hp _ => ?_)
  obtain ⟨e1, e2⟩ := hp
  subst e2
  rw [e1] at hV; clear e1
  refine m_astore_nq (i := 2) (lv' := [(2, va_rf (((inR x0 (kN σ 62 2))).map (L 3))), (0, .ref (L 0 0)), (1, .int x0)]) hx hb dX4_stateOf_5 rfl hl (by decide) (by first | rfl | simp [rf_cat, ct_ref, ct_int, ct_long]) (fun ls hl => ?_)
  refine m_aload_nq hx hb dX4_stateOf_6 rfl (lv_at hl 0 rfl) ?_
  refine m_ifnonnull_q (o := (inR x0 (kN σ 62 2))) (f := L 3) (tgt := 20) hx hb dX4_stateOf_7 (by decide) (fun k7 c7 => ?_) (fun c7 => ?_)
  · have bk7 := (inR_some c7).2
    replace hl : lv_has ls 3 [(2, .ref (L 3 k7)), (0, .ref (L 0 0)), (1, .int x0)] := by have h9 := hl; rw [c7] at h9; exact h9
    refine lv_aload_n hx hb dX4_stateOf_20 rfl (lv_at hl 0 rfl) ?_
    refine m_getN (C := RX3) (T := TX3) (N := 16) (host := "TaskKernel") hx hb hts hi_X3 hown hK hV 6 (v := .int (bI (kB σ 36 k7))) (g_task6 hC (by first | assumption | (show k7 < kN σ 62 2; omega))) rfl (by decide) kn158 (fun _ h9 => h9) dX4_stateOf_21 ?_
    refine lv_if_eq (tgt := 30) hx hb dX4_stateOf_24 (by decide) (fun c24 => ?_) (fun c24 => ?_)
    · replace c24 : kB σ 36 k7 = false := bI_0.mp c24
      refine lv_aload_n hx hb dX4_stateOf_30 rfl (lv_at hl 0 rfl) ?_
      refine m_getN (C := RX3) (T := TX3) (N := 16) (host := "TaskKernel") hx hb hts hi_X3 hown hK hV 12 (v := va_rf ((kO σ 42 k7).map (L 4))) (g_task12 hC (by first | assumption | (show k7 < kN σ 62 2; omega))) rfl (by decide) kn183 (fun _ h9 => h9) dX4_stateOf_31 ?_
      refine m_ifnull_q (o := (kO σ 42 k7)) (f := L 4) (tgt := 40) hx hb dX4_stateOf_34 (by decide) (fun c34 => ?_) (fun k34 c34 => ?_)
      · refine lv_aload_n hx hb dX4_stateOf_40 rfl (lv_at hl 0 rfl) ?_
        refine m_calli (va_runVN (As := []) (rest := []) ⟨hx, hb, hml, hown, hts⟩ (c_X3_isReady (l := l) (H.size) hC k7 (by first | assumption | omega)) ⟨va_cnB 0 hts gX4_stateOf_X3_isReady_n187 rfl rfl rfl kq187 (hts (.initialized RX3) (by decide +kernel)) (by decide +kernel) ⟨by decide, by decide⟩, hts (.instanceMethod yX3_isReady) (by decide +kernel), hts (.selects RX3 yX3_isReady yX3_isReady) (by decide +kernel)⟩ (m_preV (r := (RX3, TX3, 16)) hE hV hS hA (hC.at (k := 3) (i := k7) (by first | assumption | (show k7 < kN σ 62 2; omega))) rfl) rfl rfl hl.1 rfl (lv_room (by first | exact Nat.le_of_ble_eq_true rfl | simp [rf_cat, ct_ref, ct_int, ct_null, ct_long])) dX4_stateOf_41 ⟨by decide, by decide⟩) hV hS hA (fun r h1 H locs hV hS hp _ => ?_)
        obtain ⟨e1, e2⟩ := hp
        subst e2
        rw [e1] at hV; clear e1
        refine lv_if_eq (tgt := 52) hx hb dX4_stateOf_44 (by decide) (fun c44 => ?_) (fun c44 => ?_)
        · replace c44 : (readyS σ k7) = false := bI_0.mp c44
          refine lv_bipush (v := 105) hx hb dX4_stateOf_52 (by decide) ?_
          refine W.widen (k := 1) (n := 6) (by decide) (by first | decide | omega) ?_
          exact vx_ret (m_zret (v := 105) hx hb hr hlocks (by decide) hV hS (⟨k7, c7, rfl, by unfold stS; rw [if_neg (by rw [c24]; decide), c34]; dsimp only; rw [if_neg (by rw [c44]; decide)]⟩) dX4_stateOf_54)
        · replace c44 : (readyS σ k7) = true := bI_1.mp c44
          refine lv_bipush (v := 114) hx hb dX4_stateOf_47 (by decide) ?_
          refine lv_goto (tgt := 54) hx hb dX4_stateOf_49 (by decide) ?_
          refine W.widen (k := 1) (n := 6) (by decide) (by first | decide | omega) ?_
          exact vx_ret (m_zret (v := 114) hx hb hr hlocks (by decide) hV hS (⟨k7, c7, rfl, by unfold stS; rw [if_neg (by rw [c24]; decide), c34]; dsimp only; rw [if_pos c44]⟩) dX4_stateOf_54)
      · have bk34 : k34 < 4 := hC.wf.2.2.2.2.2.2.1 k7 (by first | assumption | (show k7 < kN σ 62 2; omega)) _ c34
        refine lv_bipush (v := 119) hx hb dX4_stateOf_37 (by decide) ?_
        refine W.widen (k := 1) (n := 6) (by decide) (by first | decide | omega) ?_
        exact vx_ret (m_zret (v := 119) hx hb hr hlocks (by decide) hV hS (⟨k7, c7, rfl, by unfold stS; rw [if_neg (by rw [c24]; decide), c34]⟩) dX4_stateOf_39)
    · replace c24 : kB σ 36 k7 = true := bI_1.mp c24
      refine lv_bipush (v := 101) hx hb dX4_stateOf_27 (by decide) ?_
      refine W.widen (k := 1) (n := 6) (by decide) (by first | decide | omega) ?_
      exact vx_ret (m_zret (v := 101) hx hb hr hlocks (by decide) hV hS (⟨k7, c7, rfl, by unfold stS; rw [if_pos c24]⟩) dX4_stateOf_29)
  · replace hl : lv_has ls 3 [(2, .null), (0, .ref (L 0 0)), (1, .int x0)] := by have h9 := hl; rw [c7] at h9; exact h9
    exact m_throwX hx hb hfl (own := RX4) (cls := "java/util/NoSuchElementException") (text := "there is no such task") (names := ["java/lang/RuntimeException", "java/lang/Exception"]) (ik := 153) (is := 155) (ic := 157) (ix := 13) (rx := prog_29_method_4_code) (by decide +kernel) (by decide +kernel) (by decide +kernel) (by decide +kernel) hown (by decide) (by decide) kc153 (hts _ (by decide +kernel)) (hE.1.2.2.2.1 _ (List.mem_of_getElem? (i := 11) rfl)) (m_hat hE (by decide +kernel) hts) (by decide +kernel) hE hV hS (by rw [hml]; exact hl.1) dX4_stateOf_10 dX4_stateOf_13 dX4_stateOf_14 dX4_stateOf_16 dX4_stateOf_19 hnx (by decide) (by decide) (by decide) (by decide) hlocks (⟨rfl, rfl, c7⟩) (by decide) (by decide)
set_option maxHeartbeats 4000000 in
set_option maxRecDepth 100000 in
theorem c_X4_waiterAt {l : Launch} (hfl : l.stackTraces = false) {D : va_G} {cs : mC} {df : Nat} {P : Nat → Prop} {h0 : mH} {L : KL} {σ : KS} {hh : mH} (sz : Nat) (hC : CRep cs df P h0 L σ hh) (x0 : Int32) (x1 : Int32) : vx_Met l yX4_waiterAt wsX4_waiterAt ({ frames := 6, cells := 1, slots := 6, locals := 90 }) (mPre [.ref (L 0 0), .int x0, .int x1] D cs df hh sz) (va_Qi ((fun (r : Int32) (h1 : mH) => ∃ w i, inR x0 (kN σ 62 3) = some w ∧ inR x1 (kN σ 62 (4 + w)) = some i ∧ h1 = hh ∧ r = nI ((kL σ (4 + w)).getD i 0))) (mB D hh sz) (mA hh sz)) (mX D hh sz (fun E h1 => h1 = hh ∧ (E = "java/lang/IndexOutOfBoundsException" ∧ inR x0 (kN σ 62 3) = none ∨ E = "java/util/NoSuchElementException" ∧ ∃ w, inR x0 (kN σ 62 3) = some w ∧ inR x1 (kN σ 62 (4 + w)) = none))) 1 6 (mA hh sz) := by
  refine vx_ofW (cc := cX4_waiterAt) (maxL := 4) (ret := (some .int)) (by decide) rfl ?_
  intro p e s m args below meth c s₁ B0 hml hnx hv
  obtain ⟨hargs, hsz, hV, hE⟩ := hv
  subst hsz
  have hx := B0.exec
  have hb := B0.bytes
  have hr := B0.returns
  have hlocks := B0.notSynchronized
  have hts := atoms_spec (ws := wsX4_waiterAt) B0.pre
  have hown : s.vm.findClass RX4 = some m.cls := findClass_of_methodNamed B0.named
  have hK := hE.1.1
  have hA : ∀ q : Nat, s.heap.size ≤ q → mA hh s.heap.size q := mA.top
  have hS : va_S (mA hh s.heap.size) s.heap s.heap [] := va_S.rf
  have kc153 : (Cond.classLink RX4 153 "java/util/NoSuchElementException").before args s = true := hts _ (by decide +kernel)
  have hi_X2 : ∀ w ∈ u_ws RX2 TX2 2, w ∈ wsX4_waiterAt := by decide +kernel
  have kn242 : va_Nw (.fieldLinkNest RX4 242 "TaskKernel$Lock" "waiters" "Ljava/util/ArrayList;" "TaskKernel") s := hE.1.2.1 _ (List.mem_of_getElem? (i := 7) rfl)
  have kc121 : (Cond.classLink RX4 121 "TaskKernel$Task").before args s = true := hts _ (by decide +kernel)
  have kc91 : (Cond.classLink RX4 91 "java/lang/IndexOutOfBoundsException").before args s = true := hts _ (by decide +kernel)
  have hl := lv_entry ([.ref (L 0 0), .int x0, .int x1]) (n := 4) (by first | exact Nat.le_of_ble_eq_true rfl | simp [lg_sl, rf_cat, ct_ref, ct_int, ct_null, ct_long])
  have hent := lg_entry_eq m ([.ref (L 0 0), .int x0, .int x1]) 4
  rw [← hargs] at hent
  rw [hent]
  generalize (lg_sl ([.ref (L 0 0), .int x0, .int x1]) ++ List.replicate (4 - (lg_sl ([.ref (L 0 0), .int x0, .int x1])).length) Slot.unset).toArray = ls at hl ⊢
  replace hl : lv_has ls 4 [(0, .ref (L 0 0)), (1, .int x0), (2, .int x1)] := hl
  have hwf := hC.wf
  obtain ⟨⟨z0, z1, z2, z3, z4⟩, z5, z6, z7, z8, z9, z10, z11, z12⟩ := hwf
  refine lv_aload_n hx hb dX4_waiterAt_0 rfl (lv_at hl 0 rfl) ?_
  refine lv_iload_n hx hb dX4_waiterAt_1 rfl (lv_at hl 1 rfl) ?_
  refine m_callq (va_runV (As := [.int x0]) (rest := []) ⟨hx, hb, hml, hown, hts⟩ (c_X4_lockAt (l := l) (s.heap.size) hC x0) (cwV 1 hts gX4_waiterAt_X4_lockAt rfl rfl rfl (by decide +kernel) ⟨by decide, by decide⟩) (m_preV (r := (RX4, TX4, 11)) hE hV hS hA (hC.at (k := 0) (i := 0) rfl) rfl) rfl rfl hl.1 rfl (lv_room (by first | exact Nat.le_of_ble_eq_true rfl | simp [rf_cat, ct_ref, ct_int, ct_null, ct_long])) dX4_waiterAt_2 ⟨by decide, by decide⟩) hV hS hA (fun r h1 H locs hV hS hp _ => ?_)
  obtain ⟨e1, e2⟩ := hp
  subst e2
  rw [e1] at hV; clear e1
  refine m_astore_nq (i := 3) (lv' := [(3, va_rf (((inR x0 (kN σ 62 3))).map (L 4))), (0, .ref (L 0 0)), (1, .int x0), (2, .int x1)]) hx hb dX4_waiterAt_5 rfl hl (by decide) (by first | rfl | simp [rf_cat, ct_ref, ct_int, ct_long]) (fun ls hl => ?_)
  refine m_aload_nq hx hb dX4_waiterAt_6 rfl (lv_at hl 0 rfl) ?_
  refine m_ifnonnull_q (o := (inR x0 (kN σ 62 3))) (f := L 4) (tgt := 20) hx hb dX4_waiterAt_7 (by decide) (fun k7 c7 => ?_) (fun c7 => ?_)
  · have bk7 := (inR_some c7).2
    replace hl : lv_has ls 4 [(3, .ref (L 4 k7)), (0, .ref (L 0 0)), (1, .int x0), (2, .int x1)] := by have h9 := hl; rw [c7] at h9; exact h9
    refine lv_iload_n hx hb dX4_waiterAt_20 rfl (lv_at hl 3 rfl) ?_
    refine lv_if_lt (tgt := 35) hx hb dX4_waiterAt_21 (by decide) (fun c21 => ?_) (fun c21 => ?_)
    · exact m_throwX hx hb hfl (own := RX4) (cls := "java/util/NoSuchElementException") (text := "there is no such place") (names := ["java/lang/RuntimeException", "java/lang/Exception"]) (ik := 153) (is := 251) (ic := 157) (ix := 13) (rx := prog_29_method_4_code) (by decide +kernel) (by decide +kernel) (by decide +kernel) (by decide +kernel) hown (by decide) (by decide) kc153 (hts _ (by decide +kernel)) (hE.1.2.2.2.1 _ (List.mem_of_getElem? (i := 20) rfl)) (m_hat hE (by decide +kernel) hts) (by decide +kernel) hE hV hS (by rw [hml]; exact hl.1) dX4_waiterAt_35 dX4_waiterAt_38 dX4_waiterAt_39 dX4_waiterAt_41 dX4_waiterAt_44 hnx (by decide) (by decide) (by decide) (by decide) hlocks (⟨rfl, Or.inr ⟨rfl, k7, c7, inR_lt0 c21⟩⟩) (by decide) (by decide)
    · refine lv_iload_n hx hb dX4_waiterAt_24 rfl (lv_at hl 3 rfl) ?_
      refine lv_aload_n hx hb dX4_waiterAt_25 rfl (lv_at hl 0 rfl) ?_
      refine m_getN (C := RX2) (T := TX2) (N := 2) (host := "TaskKernel") hx hb hts hi_X2 hown hK hV 1 (v := .ref (L 5 (4 + k7))) (g_lock1 hC (show k7 < 4 by omega)) rfl (by decide) kn242 (fun _ h9 => h9) dX4_waiterAt_26 ?_
      refine m_calli (va_runV (As := []) (rest := [.int x1]) ⟨hx, hb, hml, hown, hts⟩ (l_size (H.size) hC (4 + k7) (by omega)) (cwV 0 hts gX4_waiterAt_Jx4a65c_size_8abf5 rfl rfl rfl (by decide +kernel) ⟨by decide, by decide⟩) (m_preV (r := (RJx4a65c, TJx4a65c, 3)) hE hV hS hA (CRep.atL hC (j := (4 + k7)) (by omega)) rfl) rfl rfl hl.1 rfl (lv_room (by first | exact Nat.le_of_ble_eq_true rfl | simp [rf_cat, ct_ref, ct_int, ct_null, ct_long])) dX4_waiterAt_29 ⟨by decide, by decide⟩) hV hS hA (fun r h1 H locs hV hS hp _ => ?_)
      obtain ⟨e1, e2⟩ := hp
      subst e2
      rw [e1] at hV; clear e1
      refine lv_icmp_lt (tgt := 45) hx hb dX4_waiterAt_32 (by decide) (fun c32 => ?_) (fun c32 => ?_)
      · obtain ⟨i, hi0, rfl, hi⟩ := inR_mid (x := x1) (n := kN σ 62 (4 + k7)) (by have z8 := hC.wf.2.1 (4 + k7) (by omega); omega) c21 (Int32.not_le.mpr c32)
        have bw := wt_ok hC.wf (show k7 < 4 by omega) hi
        refine lv_aload_n hx hb dX4_waiterAt_45 rfl (lv_at hl 0 rfl) ?_
        refine m_getN (C := RX2) (T := TX2) (N := 2) (host := "TaskKernel") hx hb hts hi_X2 hown hK hV 1 (v := .ref (L 5 (4 + k7))) (g_lock1 hC (show k7 < 4 by omega)) rfl (by decide) kn242 (fun _ h9 => h9) dX4_waiterAt_46 ?_
        refine lv_iload_n hx hb dX4_waiterAt_49 rfl (lv_at hl 3 rfl) ?_
        refine m_callq (va_runV (As := [.int (nI i)]) (rest := []) ⟨hx, hb, hml, hown, hts⟩ (l_getW (H.size) hC k7 i (by omega) (by first | assumption | omega)) (cwV 1 hts gX4_waiterAt_Jx4a65c_get_915e3 rfl rfl rfl (by decide +kernel) ⟨by decide, by decide⟩) (m_preV (r := (RJx4a65c, TJx4a65c, 3)) hE hV hS hA (CRep.atL hC (j := (4 + k7)) (by omega)) rfl) rfl rfl hl.1 rfl (lv_room (by first | exact Nat.le_of_ble_eq_true rfl | simp [rf_cat, ct_ref, ct_int, ct_null, ct_long])) dX4_waiterAt_50 ⟨by decide, by decide⟩) hV hS hA (fun r h1 H locs hV hS hp _ => ?_)
        obtain ⟨e1, e2⟩ := hp
        subst e2
        rw [e1] at hV; clear e1
        refine m_cast (r := (RX3, TX3, 16)) hx hb hE hV (hC.at (k := 3) (i := ((kL σ (4 + k7)).getD i 0)) bw) rfl hown kc121 dX4_waiterAt_53 ?_
        refine m_calli (va_runS (As := [.ref (L 3 ((kL σ (4 + k7)).getD i 0))]) (rest := []) ⟨hx, hb, hml, hown, hts⟩ (c_X4_numberOf (l := l) (H.size) hC (some ((kL σ (4 + k7)).getD i 0)) (fun t z => by cases z; exact bw)) (va_cwS 1 hts gX4_waiterAt_X4_numberOf rfl rfl rfl (by decide +kernel) ⟨by decide, by decide⟩) (m_preS hE hV hS hA) rfl rfl hl.1 rfl (lv_room (by first | exact Nat.le_of_ble_eq_true rfl | simp [rf_cat, ct_ref, ct_int, ct_null, ct_long])) dX4_waiterAt_56 ⟨by decide, by decide⟩) hV hS hA (fun r h1 H locs hV hS hp _ => ?_)
        obtain ⟨e1, e2⟩ := hp
        subst e2
        rw [e1] at hV; clear e1
        refine W.widen (k := 1) (n := 6) (by decide) (by first | decide | omega) ?_
        exact vx_ret (m_iret (v := oI (some ((kL σ (4 + k7)).getD i 0))) hx hb hr hlocks hV hS (⟨k7, i, c7, hi0, rfl, rfl⟩) dX4_waiterAt_59)
      · exact m_throwX hx hb hfl (own := RX4) (cls := "java/util/NoSuchElementException") (text := "there is no such place") (names := ["java/lang/RuntimeException", "java/lang/Exception"]) (ik := 153) (is := 251) (ic := 157) (ix := 13) (rx := prog_29_method_4_code) (by decide +kernel) (by decide +kernel) (by decide +kernel) (by decide +kernel) hown (by decide) (by decide) kc153 (hts _ (by decide +kernel)) (hE.1.2.2.2.1 _ (List.mem_of_getElem? (i := 20) rfl)) (m_hat hE (by decide +kernel) hts) (by decide +kernel) hE hV hS (by rw [hml]; exact hl.1) dX4_waiterAt_35 dX4_waiterAt_38 dX4_waiterAt_39 dX4_waiterAt_41 dX4_waiterAt_44 hnx (by decide) (by decide) (by decide) (by decide) hlocks (⟨rfl, Or.inr ⟨rfl, k7, c7, inR_ge (by have z8 := hC.wf.2.1 (4 + k7) (by omega); omega) (Int32.not_lt.mp c32)⟩⟩) (by decide) (by decide)
  · replace hl : lv_has ls 4 [(3, .null), (0, .ref (L 0 0)), (1, .int x0), (2, .int x1)] := by have h9 := hl; rw [c7] at h9; exact h9
    exact m_throw hx hb hfl (own := RX4) (cls := "java/lang/IndexOutOfBoundsException") (text := "there is no such lock") (names := ["java/lang/RuntimeException", "java/lang/Exception"]) (ik := 91) (is := 232) (ic := 95) hown (by decide) (by decide) kc91 (hts _ (by decide +kernel)) (hE.1.2.2.2.1 _ (List.mem_of_getElem? (i := 16) rfl)) (m_hat hE (by decide +kernel) hts) (by decide +kernel) hE hV hS (by rw [hml]; exact hl.1) dX4_waiterAt_10 dX4_waiterAt_13 dX4_waiterAt_14 dX4_waiterAt_16 dX4_waiterAt_19 hnx (by decide) (by decide) (by decide) (by decide) hlocks (⟨rfl, Or.inl ⟨rfl, c7⟩⟩) (by decide) (by decide)
set_option maxHeartbeats 4000000 in
set_option maxRecDepth 100000 in
theorem c_X4_usedShare {l : Launch} (hfl : l.stackTraces = false) {D : va_G} {cs : mC} {df : Nat} {P : Nat → Prop} {h0 : mH} {L : KL} {σ : KS} {hh : mH} (sz : Nat) (hC : CRep cs df P h0 L σ hh) (hnn : kI σ 5 0 ≠ 0 → vf_n32 (FP.fdiv (FP.i2f (kI σ 4 0)) (FP.i2f (kI σ 5 0)))) : vx_Met l yX4_usedShare wsX4_usedShare ({ frames := 6, cells := 1, slots := 6, locals := 90 }) (mPre [.ref (L 0 0)] D cs df hh sz) (va_Qf ((fun (r : UInt32) (h1 : mH) => h1 = hh ∧ kI σ 5 0 ≠ 0 ∧ r = FP.fdiv (FP.i2f (kI σ 4 0)) (FP.i2f (kI σ 5 0)))) (mB D hh sz) (mA hh sz)) (mX D hh sz (fun E h1 => E = "java/lang/ArithmeticException" ∧ h1 = hh ∧ kI σ 5 0 = 0)) 1 6 (mA hh sz) := by
  refine vx_ofW (cc := cX4_usedShare) (maxL := 1) (ret := (some .float)) (by decide) rfl ?_
  intro p e s m args below meth c s₁ B0 hml hnx hv
  obtain ⟨hargs, hsz, hV, hE⟩ := hv
  subst hsz
  have hx := B0.exec
  have hb := B0.bytes
  have hr := B0.returns
  have hlocks := B0.notSynchronized
  have hts := atoms_spec (ws := wsX4_usedShare) B0.pre
  have hown : s.vm.findClass RX4 = some m.cls := findClass_of_methodNamed B0.named
  have hK := hE.1.1
  have hA : ∀ q : Nat, s.heap.size ≤ q → mA hh s.heap.size q := mA.top
  have hS : va_S (mA hh s.heap.size) s.heap s.heap [] := va_S.rf
  have hi_X4 : ∀ w ∈ u_ws RX4 TX4 11, w ∈ wsX4_usedShare := by decide +kernel
  have k52 : (Cond.fieldLink RX4 52 "TaskKernel" "allCoreTicks" "I").before args s = true := hts _ (by decide +kernel)
  have k49 : (Cond.fieldLink RX4 49 "TaskKernel" "usedCoreTicks" "I").before args s = true := hts _ (by decide +kernel)
  have kc267 : (Cond.classLink RX4 267 "java/lang/ArithmeticException").before args s = true := hts _ (by decide +kernel)
  have hl := lv_entry ([.ref (L 0 0)]) (n := 1) (by first | exact Nat.le_of_ble_eq_true rfl | simp [lg_sl, rf_cat, ct_ref, ct_int, ct_null, ct_long])
  have hent := lg_entry_eq m ([.ref (L 0 0)]) 1
  rw [← hargs] at hent
  rw [hent]
  generalize (lg_sl ([.ref (L 0 0)]) ++ List.replicate (1 - (lg_sl ([.ref (L 0 0)])).length) Slot.unset).toArray = ls at hl ⊢
  replace hl : lv_has ls 1 [(0, .ref (L 0 0))] := hl
  refine lv_aload_n hx hb dX4_usedShare_0 rfl (lv_at hl 0 rfl) ?_
  refine m_get (C := RX4) (T := TX4) (N := 11) hx hb hts hi_X4 hown hK hV 10 (v := .int (kI σ 5 0)) (g_kern10 hC rfl) rfl (by decide) k52 (fun _ h9 => h9) dX4_usedShare_1 ?_
  refine lv_if_ne (tgt := 18) hx hb dX4_usedShare_4 (by decide) (fun c4 => ?_) (fun c4 => ?_)
  · refine lv_aload_n hx hb dX4_usedShare_18 rfl (lv_at hl 0 rfl) ?_
    refine m_get (C := RX4) (T := TX4) (N := 11) hx hb hts hi_X4 hown hK hV 9 (v := .int (kI σ 4 0)) (g_kern9 hC rfl) rfl (by decide) k49 (fun _ h9 => h9) dX4_usedShare_19 ?_
    refine lv_i2f hx hb dX4_usedShare_22 ?_
    refine lv_aload_n hx hb dX4_usedShare_23 rfl (lv_at hl 0 rfl) ?_
    refine m_get (C := RX4) (T := TX4) (N := 11) hx hb hts hi_X4 hown hK hV 10 (v := .int (kI σ 5 0)) (g_kern10 hC rfl) rfl (by decide) k52 (fun _ h9 => h9) dX4_usedShare_24 ?_
    refine lv_i2f hx hb dX4_usedShare_27 ?_
    refine lv_fdiv hx hb dX4_usedShare_28 (hnn c4) ?_
    refine W.widen (k := 1) (n := 6) (by decide) (by first | decide | omega) ?_
    exact vx_ret (m_fret (v := (FP.fdiv (FP.i2f (kI σ 4 0)) (FP.i2f (kI σ 5 0)))) hx hb hr hlocks hV hS (⟨rfl, c4, rfl⟩) dX4_usedShare_29)
  · exact m_throwW hx hb hfl (own := RX4) (cls := "java/lang/ArithmeticException") (text := "there were no core ticks") (names := ["java/lang/RuntimeException", "java/lang/Exception"]) (ik := 267) (is := 269) (ic := 271) hown (by decide) (by decide) kc267 (hts _ (by decide +kernel)) (hE.1.2.2.2.1 _ (List.mem_of_getElem? (i := 23) rfl)) (m_hat hE (by decide +kernel) hts) (by decide +kernel) hE hV hS (by rw [hml]; exact hl.1) dX4_usedShare_7 dX4_usedShare_10 dX4_usedShare_11 dX4_usedShare_14 dX4_usedShare_17 hnx (by decide) (by decide) (by decide) (by decide) hlocks (⟨rfl, rfl, c4⟩) (by decide) (by decide)
set_option maxHeartbeats 4000000 in
set_option maxRecDepth 100000 in
theorem c_X4_meanHeat {l : Launch} (hfl : l.stackTraces = false) {D : va_G} {cs : mC} {df : Nat} {P : Nat → Prop} {h0 : mH} {L : KL} {σ : KS} {hh : mH} (sz : Nat) (hC : CRep cs df P h0 L σ hh) (hnn : kN σ 62 0 ≠ 0 → vf_n64 (FP.ddiv (FP.i2d (sumI (fun t => kI σ 11 t) (kN σ 62 0))) (FP.i2d (nI (kN σ 62 0))))) : vx_Met l yX4_meanHeat wsX4_meanHeat ({ frames := 6, cells := 1, slots := 6, locals := 90 }) (mPre [.ref (L 0 0)] D cs df hh sz) (va_Qd ((fun (r : UInt64) (h1 : mH) => h1 = hh ∧ kN σ 62 0 ≠ 0 ∧ r = FP.ddiv (FP.i2d (sumI (fun t => kI σ 11 t) (kN σ 62 0))) (FP.i2d (nI (kN σ 62 0))))) (mB D hh sz) (mA hh sz)) (mX D hh sz (fun E h1 => E = "java/lang/ArithmeticException" ∧ h1 = hh ∧ kN σ 62 0 = 0)) 1 6 (mA hh sz) := by
  refine vx_ofW (cc := cX4_meanHeat) (maxL := 4) (ret := (some .double)) (by decide) rfl ?_
  intro p e s m args below meth c s₁ B0 hml hnx hv
  obtain ⟨hargs, hsz, hV, hE⟩ := hv
  subst hsz
  have hx := B0.exec
  have hb := B0.bytes
  have hr := B0.returns
  have hlocks := B0.notSynchronized
  have hts := atoms_spec (ws := wsX4_meanHeat) B0.pre
  have hown : s.vm.findClass RX4 = some m.cls := findClass_of_methodNamed B0.named
  have hK := hE.1.1
  have hA : ∀ q : Nat, s.heap.size ≤ q → mA hh s.heap.size q := mA.top
  have hS : va_S (mA hh s.heap.size) s.heap s.heap [] := va_S.rf
  have hi_X4 : ∀ w ∈ u_ws RX4 TX4 11, w ∈ wsX4_meanHeat := by decide +kernel
  have k12 : (Cond.fieldLink RX4 12 "TaskKernel" "cores" "Ljava/util/ArrayList;").before args s = true := hts _ (by decide +kernel)
  have kc78 : (Cond.classLink RX4 78 "TaskKernel$Core").before args s = true := hts _ (by decide +kernel)
  have hi_X0 : ∀ w ∈ u_ws RX0 TX0 3, w ∈ wsX4_meanHeat := by decide +kernel
  have kn96 : va_Nw (.fieldLinkNest RX4 96 "TaskKernel$Core" "heat" "I" "TaskKernel") s := hE.1.2.1 _ (List.mem_of_getElem? (i := 9) rfl)
  have kc267 : (Cond.classLink RX4 267 "java/lang/ArithmeticException").before args s = true := hts _ (by decide +kernel)
  have hl := lv_entry ([.ref (L 0 0)]) (n := 4) (by first | exact Nat.le_of_ble_eq_true rfl | simp [lg_sl, rf_cat, ct_ref, ct_int, ct_null, ct_long])
  have hent := lg_entry_eq m ([.ref (L 0 0)]) 4
  rw [← hargs] at hent
  rw [hent]
  generalize (lg_sl ([.ref (L 0 0)]) ++ List.replicate (4 - (lg_sl ([.ref (L 0 0)])).length) Slot.unset).toArray = ls at hl ⊢
  replace hl : lv_has ls 4 [(0, .ref (L 0 0))] := hl
  have hwf := hC.wf
  obtain ⟨⟨z0, z1, z2, z3, z4⟩, z5, z6, z7, z8, z9, z10, z11, z12⟩ := hwf
  refine lv_aload_n hx hb dX4_meanHeat_0 rfl (lv_at hl 0 rfl) ?_
  refine m_get (C := RX4) (T := TX4) (N := 11) hx hb hts hi_X4 hown hK hV 0 (v := .ref (L 5 0)) (g_kern0 hC rfl) rfl (by decide) k12 (fun _ h9 => h9) dX4_meanHeat_1 ?_
  refine m_calli (va_runV (As := []) (rest := []) ⟨hx, hb, hml, hown, hts⟩ (l_size (s.heap.size) hC 0 (by decide)) (cwV 0 hts gX4_meanHeat_Jx4a65c_size_8abf5 rfl rfl rfl (by decide +kernel) ⟨by decide, by decide⟩) (m_preV (r := (RJx4a65c, TJx4a65c, 3)) hE hV hS hA (CRep.atL hC (j := 0) (by decide)) rfl) rfl rfl hl.1 rfl (lv_room (by first | exact Nat.le_of_ble_eq_true rfl | simp [rf_cat, ct_ref, ct_int, ct_null, ct_long])) dX4_meanHeat_4 ⟨by decide, by decide⟩) hV hS hA (fun r h1 H locs hV hS hp _ => ?_)
  obtain ⟨e1, e2⟩ := hp
  subst e2
  rw [e1] at hV; clear e1
  refine lv_istore_n (lv' := [(1, .int (nI (kN σ 62 0))), (0, .ref (L 0 0))]) hx hb dX4_meanHeat_7 rfl hl (by decide) rfl (fun ls hl => ?_)
  refine lv_iload_n hx hb dX4_meanHeat_8 rfl (lv_at hl 0 rfl) ?_
  refine lv_if_ne (tgt := 23) hx hb dX4_meanHeat_9 (by decide) (fun c9 => ?_) (fun c9 => ?_)
  · replace c9 : ¬ kN σ 62 0 = 0 := fun q9 => c9 ((nI_eq (a := kN σ 62 0) (b := 0) (by omega) (by omega)).mpr q9)
    refine lv_iconst (v := 0) hx hb dX4_meanHeat_23 (by decide) ?_
    refine lv_istore_n (lv' := [(2, .int 0), (1, .int (nI (kN σ 62 0))), (0, .ref (L 0 0))]) hx hb dX4_meanHeat_24 rfl hl (by decide) rfl (fun ls hl => ?_)
    refine lv_iconst (v := 0) hx hb dX4_meanHeat_25 (by decide) ?_
    refine lv_istore_n (lv' := [(3, .int 0), (2, .int 0), (1, .int (nI (kN σ 62 0))), (0, .ref (L 0 0))]) hx hb dX4_meanHeat_26 rfl hl (by decide) rfl (fun ls hl => ?_)
    have lp27 : ∀ (fu : Nat) (i : Nat), (i ≤ kN σ 62 0) → kN σ 62 0 - i < fu → ∀ (H : Heap) (locs : List Loc), mV D hh (mA hh s.heap.size) H → va_S (mA hh s.heap.size) s.heap H locs → ∀ (ls : Array Slot), lv_has ls 4 [(1, .int (nI (kN σ 62 0))), (0, .ref (L 0 0)), (2, .int (sumI (fun t => kI σ 11 t) i)), (3, .int (nI i))] → W p l e ({ frames := 6, cells := 1, slots := 6, locals := 90 } : Room) s m args below meth c H locs 0 0 (vx_MQ below (va_Qd ((fun (r : UInt64) (h1 : mH) => h1 = hh ∧ kN σ 62 0 ≠ 0 ∧ r = FP.ddiv (FP.i2d (sumI (fun t => kI σ 11 t) (kN σ 62 0))) (FP.i2d (nI (kN σ 62 0))))) (mB D hh s.heap.size) (mA hh s.heap.size)) (mX D hh s.heap.size (fun E h1 => E = "java/lang/ArithmeticException" ∧ h1 = hh ∧ kN σ 62 0 = 0)) args s 1 6 (mA hh s.heap.size)) (F0 m 27 ls []) := by
      intro fu
      induction fu with
      | zero =>
        intro i hi hfu
        exact absurd hfu (Nat.not_lt_zero _)
      | succ fu ih27 =>
        intro i hi hfu H locs hV hS ls hl
        refine lv_iload_n hx hb dX4_meanHeat_27 rfl (lv_at hl 3 rfl) ?_
        refine lv_iload_n hx hb dX4_meanHeat_28 rfl (lv_at hl 0 rfl) ?_
        refine lv_icmp_ge (tgt := 55) hx hb dX4_meanHeat_29 (by decide) (fun c29 => ?_) (fun c29 => ?_)
        · replace c29 : kN σ 62 0 ≤ i := (nI_leI (a := kN σ 62 0) (b := i) (by omega) (by omega)).mp c29
          have ei : i = kN σ 62 0 := by omega
          subst ei
          refine lv_iload_n hx hb dX4_meanHeat_55 rfl (lv_at hl 2 rfl) ?_
          refine lv_i2d hx hb dX4_meanHeat_56 ?_
          refine lv_iload_n hx hb dX4_meanHeat_57 rfl (lv_at hl 0 rfl) ?_
          refine lv_i2d hx hb dX4_meanHeat_58 ?_
          refine lv_ddiv hx hb dX4_meanHeat_59 (hnn c9) ?_
          refine W.widen (k := 1) (n := 6) (by decide) (by first | decide | omega) ?_
          exact vx_ret (m_dret (v := (FP.ddiv (FP.i2d (sumI (fun t => kI σ 11 t) (kN σ 62 0))) (FP.i2d (nI (kN σ 62 0))))) hx hb hr hlocks hV hS (⟨rfl, c9, rfl⟩) dX4_meanHeat_60)
        · replace c29 : ¬ kN σ 62 0 ≤ i := fun q9 => c29 ((nI_leI (a := kN σ 62 0) (b := i) (by omega) (by omega)).mpr q9)
          refine lv_iload_n hx hb dX4_meanHeat_32 rfl (lv_at hl 2 rfl) ?_
          refine lv_aload_n hx hb dX4_meanHeat_33 rfl (lv_at hl 1 rfl) ?_
          refine m_get (C := RX4) (T := TX4) (N := 11) hx hb hts hi_X4 hown hK hV 0 (v := .ref (L 5 0)) (g_kern0 hC rfl) rfl (by decide) k12 (fun _ h9 => h9) dX4_meanHeat_34 ?_
          refine lv_iload_n hx hb dX4_meanHeat_37 rfl (lv_at hl 3 rfl) ?_
          refine m_callq (va_runV (As := [.int (nI i)]) (rest := [.int (sumI (fun t => kI σ 11 t) i)]) ⟨hx, hb, hml, hown, hts⟩ (l_get0 (H.size) hC i (by first | assumption | omega)) (cwV 1 hts gX4_meanHeat_Jx4a65c_get_915e3 rfl rfl rfl (by decide +kernel) ⟨by decide, by decide⟩) (m_preV (r := (RJx4a65c, TJx4a65c, 3)) hE hV hS hA (CRep.atL hC (j := 0) (by decide)) rfl) rfl rfl hl.1 rfl (lv_room (by first | exact Nat.le_of_ble_eq_true rfl | simp [rf_cat, ct_ref, ct_int, ct_null, ct_long])) dX4_meanHeat_38 ⟨by decide, by decide⟩) hV hS hA (fun r h1 H locs hV hS hp _ => ?_)
          obtain ⟨e1, e2⟩ := hp
          subst e2
          rw [e1] at hV; clear e1
          refine m_cast (r := (RX0, TX0, 3)) hx hb hE hV (hC.at (k := 1) (i := i) (by first | assumption | (show i < kN σ 62 0; omega))) rfl hown kc78 dX4_meanHeat_41 ?_
          refine m_getN (C := RX0) (T := TX0) (N := 3) (host := "TaskKernel") hx hb hts hi_X0 hown hK hV 1 (v := .int (kI σ 11 i)) (g_core1 hC (by first | assumption | (show i < kN σ 62 0; omega))) rfl (by decide) kn96 (fun _ h9 => h9) dX4_meanHeat_44 ?_
          refine lv_iadd hx hb dX4_meanHeat_47 ?_
          refine lv_istore_n (lv' := [(2, .int ((sumI (fun t => kI σ 11 t) i) + (kI σ 11 i))), (1, .int (nI (kN σ 62 0))), (0, .ref (L 0 0)), (3, .int (nI i))]) hx hb dX4_meanHeat_48 rfl hl (by decide) rfl (fun ls hl => ?_)
          refine lv_iinc (v := nI (i + 1)) (lv' := [(3, .int (nI (i + 1))), (2, .int ((sumI (fun t => kI σ 11 t) i) + (kI σ 11 i))), (1, .int (nI (kN σ 62 0))), (0, .ref (L 0 0))]) hx hb dX4_meanHeat_49 hl (k := 3) rfl (show nI i + Int32.ofInt 1 = _ from nI_add i 1) (by decide) rfl (fun ls hl => ?_)
          refine lv_goto (tgt := 27) hx hb dX4_meanHeat_52 (by decide) ?_
          have q1 : ((sumI (fun t => kI σ 11 t) i) + (kI σ 11 i)) = (sumI (fun t => kI σ 11 t) (i + 1)) := by simp [sumI]
          replace hl : lv_has ls 4 [(3, .int (nI (i + 1))), (2, .int (sumI (fun t => kI σ 11 t) (i + 1))), (1, .int (nI (kN σ 62 0))), (0, .ref (L 0 0))] := (congrArg (lv_has ls 4) (m_lc rfl (m_lc (congrArg Value.int q1) (m_lc rfl (m_lc rfl rfl))))).mp hl
          exact ih27 (i + 1) (by omega) (by omega) _ _ hV hS ls (lv_sub hl [2, 3, 1, 0] rfl)
    have q2 : 0 = (sumI (fun t => kI σ 11 t) 0) := rfl
    have q3 : 0 = nI 0 := rfl
    replace hl : lv_has ls 4 [(3, .int (nI 0)), (2, .int (sumI (fun t => kI σ 11 t) 0)), (1, .int (nI (kN σ 62 0))), (0, .ref (L 0 0))] := (congrArg (lv_has ls 4) (m_lc (congrArg Value.int q3) (m_lc (congrArg Value.int q2) (m_lc rfl (m_lc rfl rfl))))).mp hl
    exact lp27 ((kN σ 62 0 - 0) + 1) 0 (Nat.zero_le _) (Nat.lt_succ_self _) _ _ hV hS ls (lv_sub hl [2, 3, 1, 0] rfl)
  · replace c9 : kN σ 62 0 = 0 := (nI_eq (a := kN σ 62 0) (b := 0) (by omega) (by omega)).mp c9
    exact m_throwW hx hb hfl (own := RX4) (cls := "java/lang/ArithmeticException") (text := "there are no cores") (names := ["java/lang/RuntimeException", "java/lang/Exception"]) (ik := 267) (is := 272) (ic := 271) hown (by decide) (by decide) kc267 (hts _ (by decide +kernel)) (hE.1.2.2.2.1 _ (List.mem_of_getElem? (i := 24) rfl)) (m_hat hE (by decide +kernel) hts) (by decide +kernel) hE hV hS (by rw [hml]; exact hl.1) dX4_meanHeat_12 dX4_meanHeat_15 dX4_meanHeat_16 dX4_meanHeat_19 dX4_meanHeat_22 hnx (by decide) (by decide) (by decide) (by decide) hlocks (⟨rfl, rfl, c9⟩) (by decide) (by decide)
set_option maxHeartbeats 4000000 in
set_option maxRecDepth 100000 in
theorem c_X4_end {l : Launch} (hfl : l.stackTraces = false) {D : va_G} {cs : mC} {df : Nat} {P : Nat → Prop} {h0 : mH} {L : KL} {σ : KS} {hh : mH} (sz : Nat) (hC : CRep cs df P h0 L σ hh) (x0 : Int32) : vx_Met l yX4_end wsX4_end ({ frames := 6, cells := 1, slots := 6, locals := 128 }) (mPre [.ref (L 0 0), .int x0] D cs df hh sz) (va_Qi ((fun (r : Int32) (h1 : mH) => ∃ t, inR x0 (kN σ 62 2) = some t ∧ kB σ 36 t = false ∧ CRep cs df P h0 L (endS σ t) h1 ∧ r = kI σ 34 t)) (mB D hh sz) (mA hh sz)) (mX D hh sz (fun E h1 => h1 = hh ∧ (E = "java/util/NoSuchElementException" ∧ inR x0 (kN σ 62 2) = none ∨ E = "java/lang/IllegalStateException" ∧ ∃ t, inR x0 (kN σ 62 2) = some t ∧ kB σ 36 t = true))) 1 6 (mA hh sz) := by
  refine vx_ofW (cc := cX4_end) (maxL := 6) (ret := (some .int)) (by decide) rfl ?_
  intro p e s m args below meth c s₁ B0 hml hnx hv
  obtain ⟨hargs, hsz, hV, hE⟩ := hv
  subst hsz
  have hx := B0.exec
  have hb := B0.bytes
  have hr := B0.returns
  have hlocks := B0.notSynchronized
  have hts := atoms_spec (ws := wsX4_end) B0.pre
  have hown : s.vm.findClass RX4 = some m.cls := findClass_of_methodNamed B0.named
  have hK := hE.1.1
  have hA : ∀ q : Nat, s.heap.size ≤ q → mA hh s.heap.size q := mA.top
  have hS : va_S (mA hh s.heap.size) s.heap s.heap [] := va_S.rf
  have hi_X3 : ∀ w ∈ u_ws RX3 TX3 16, w ∈ wsX4_end := by decide +kernel
  have kn158 : va_Nw (.fieldLinkNest RX4 158 "TaskKernel$Task" "ended" "Z" "TaskKernel") s := hE.1.2.1 _ (List.mem_of_getElem? (i := 17) rfl)
  have kn164 : va_Nw (.fieldLinkNest RX4 164 "TaskKernel$Task" "left" "I" "TaskKernel") s := hE.1.2.1 _ (List.mem_of_getElem? (i := 15) rfl)
  have hi_X4 : ∀ w ∈ u_ws RX4 TX4 11, w ∈ wsX4_end := by decide +kernel
  have k24 : (Cond.fieldLink RX4 24 "TaskKernel" "locks" "Ljava/util/ArrayList;").before args s = true := hts _ (by decide +kernel)
  have kc59 : (Cond.classLink RX4 59 "TaskKernel$Lock").before args s = true := hts _ (by decide +kernel)
  have hi_X2 : ∀ w ∈ u_ws RX2 TX2 2, w ∈ wsX4_end := by decide +kernel
  have kn175 : va_Nw (.fieldLinkNest RX4 175 "TaskKernel$Lock" "holder" "LTaskKernel$Task;" "TaskKernel") s := hE.1.2.1 _ (List.mem_of_getElem? (i := 6) rfl)
  have kc73 : (Cond.classLink RX4 73 "java/lang/IllegalStateException").before args s = true := hts _ (by decide +kernel)
  have kc153 : (Cond.classLink RX4 153 "java/util/NoSuchElementException").before args s = true := hts _ (by decide +kernel)
  have hl := lv_entry ([.ref (L 0 0), .int x0]) (n := 6) (by first | exact Nat.le_of_ble_eq_true rfl | simp [lg_sl, rf_cat, ct_ref, ct_int, ct_null, ct_long])
  have hent := lg_entry_eq m ([.ref (L 0 0), .int x0]) 6
  rw [← hargs] at hent
  rw [hent]
  generalize (lg_sl ([.ref (L 0 0), .int x0]) ++ List.replicate (6 - (lg_sl ([.ref (L 0 0), .int x0])).length) Slot.unset).toArray = ls at hl ⊢
  replace hl : lv_has ls 6 [(0, .ref (L 0 0)), (1, .int x0)] := hl
  have hwf := hC.wf
  obtain ⟨⟨z0, z1, z2, z3, z4⟩, z5, z6, z7, z8, z9, z10, z11, z12⟩ := hwf
  refine lv_aload_n hx hb dX4_end_0 rfl (lv_at hl 0 rfl) ?_
  refine lv_iload_n hx hb dX4_end_1 rfl (lv_at hl 1 rfl) ?_
  refine m_callq (va_runV (As := [.int x0]) (rest := []) ⟨hx, hb, hml, hown, hts⟩ (c_X4_taskAt (l := l) (s.heap.size) hC x0) (cwV 1 hts gX4_end_X4_taskAt rfl rfl rfl (by decide +kernel) ⟨by decide, by decide⟩) (m_preV (r := (RX4, TX4, 11)) hE hV hS hA (hC.at (k := 0) (i := 0) rfl) rfl) rfl rfl hl.1 rfl (lv_room (by first | exact Nat.le_of_ble_eq_true rfl | simp [rf_cat, ct_ref, ct_int, ct_null, ct_long])) dX4_end_2 ⟨by decide, by decide⟩) hV hS hA (fun r h1 H locs hV hS hp _ => ?_)
  obtain ⟨e1, e2⟩ := hp
  subst e2
  rw [e1] at hV; clear e1
  refine m_astore_nq (i := 2) (lv' := [(2, va_rf (((inR x0 (kN σ 62 2))).map (L 3))), (0, .ref (L 0 0)), (1, .int x0)]) hx hb dX4_end_5 rfl hl (by decide) (by first | rfl | simp [rf_cat, ct_ref, ct_int, ct_long]) (fun ls hl => ?_)
  refine m_aload_nq hx hb dX4_end_6 rfl (lv_at hl 0 rfl) ?_
  refine m_ifnonnull_q (o := (inR x0 (kN σ 62 2))) (f := L 3) (tgt := 20) hx hb dX4_end_7 (by decide) (fun k7 c7 => ?_) (fun c7 => ?_)
  · have bk7 := (inR_some c7).2
    replace hl : lv_has ls 6 [(2, .ref (L 3 k7)), (0, .ref (L 0 0)), (1, .int x0)] := by have h9 := hl; rw [c7] at h9; exact h9
    refine lv_aload_n hx hb dX4_end_20 rfl (lv_at hl 0 rfl) ?_
    refine m_getN (C := RX3) (T := TX3) (N := 16) (host := "TaskKernel") hx hb hts hi_X3 hown hK hV 6 (v := .int (bI (kB σ 36 k7))) (g_task6 hC (by first | assumption | (show k7 < kN σ 62 2; omega))) rfl (by decide) kn158 (fun _ h9 => h9) dX4_end_21 ?_
    refine lv_if_eq (tgt := 37) hx hb dX4_end_24 (by decide) (fun c24 => ?_) (fun c24 => ?_)
    · replace c24 : kB σ 36 k7 = false := bI_0.mp c24
      refine lv_aload_n hx hb dX4_end_37 rfl (lv_at hl 0 rfl) ?_
      refine m_getN (C := RX3) (T := TX3) (N := 16) (host := "TaskKernel") hx hb hts hi_X3 hown hK hV 4 (v := .int (kI σ 34 k7)) (g_task4 hC (by first | assumption | (show k7 < kN σ 62 2; omega))) rfl (by decide) kn164 (fun _ h9 => h9) dX4_end_38 ?_
      refine lv_istore_n (lv' := [(3, .int (kI σ 34 k7)), (2, .ref (L 3 k7)), (0, .ref (L 0 0)), (1, .int x0)]) hx hb dX4_end_41 rfl hl (by decide) rfl (fun ls hl => ?_)
      refine lv_aload_n hx hb dX4_end_42 rfl (lv_at hl 1 rfl) ?_
      refine lv_iconst (v := 0) hx hb dX4_end_43 (by decide) ?_
      refine m_putN (host := "TaskKernel") (C := RX3) (T := TX3) (N := 16) (v := .int 0) hx hb hts hi_X3 tyX3 tyX3_ok nmX3 hown hK hV hS 4 (p_task4 hC (by first | assumption | (show k7 < kN σ 62 2; omega)) 0) rfl (by decide) kn164 (fun _ h9 => h9) rfl (tyX3_ok 4 (by decide)) rfl rfl dX4_end_44 (fun h H locs hV hS hC => ?_)
      refine lv_aload_n hx hb dX4_end_47 rfl (lv_at hl 1 rfl) ?_
      refine lv_iconst (v := 1) hx hb dX4_end_48 (by decide) ?_
      refine m_putN (host := "TaskKernel") (C := RX3) (T := TX3) (N := 16) (v := .int (bI true)) hx hb hts hi_X3 tyX3 tyX3_ok nmX3 hown hK hV hS 6 (p_task6 hC (by first | assumption | (show k7 < kN σ 62 2; omega)) true) rfl (by decide) kn158 (fun _ h9 => h9) rfl (tyX3_ok 6 (by decide)) (bI_narrow _) (bI_fits _) dX4_end_49 (fun h H locs hV hS hC => ?_)
      refine lv_aload_n hx hb dX4_end_52 rfl (lv_at hl 1 rfl) ?_
      refine m_callv (va_runS (As := [.ref (L 3 k7)]) (rest := []) ⟨hx, hb, hml, hown, hts⟩ (c_X4_stopWaiting (l := l) (H.size) hC k7 (by show k7 < kN σ 62 2; omega)) (va_cwS 1 hts gX4_end_X4_stopWaiting rfl rfl rfl (by decide +kernel) ⟨by decide, by decide⟩) (m_preS hE hV hS hA) rfl rfl hl.1 rfl (lv_room (by first | exact Nat.le_of_ble_eq_true rfl | simp [rf_cat, ct_ref, ct_int, ct_null, ct_long])) dX4_end_53 ⟨by decide, by decide⟩) hV hS hA (fun h H locs hV hS hp _ => ?_)
      replace hC := hp; clear hp
      refine lv_iconst (v := 0) hx hb dX4_end_56 (by decide) ?_
      refine lv_istore (lv' := [(4, .int 0), (3, .int (kI σ 34 k7)), (2, .ref (L 3 k7)), (0, .ref (L 0 0)), (1, .int x0)]) hx hb dX4_end_57 hl (by decide) rfl (fun ls hl => ?_)
      have lp59 : ∀ (fu : Nat) (i : Nat), (i ≤ 4) → 4 - i < fu → ∀ (h : mH) (H : Heap) (locs : List Loc), CRep cs df P h0 L (ehL k7 i (eh0 σ k7)) h → mV D h (mA hh s.heap.size) H → va_S (mA hh s.heap.size) s.heap H locs → ∀ (ls : Array Slot), lv_has ls 6 [(3, .int (kI σ 34 k7)), (2, .ref (L 3 k7)), (0, .ref (L 0 0)), (1, .int x0), (4, .int (nI i))] → W p l e ({ frames := 6, cells := 1, slots := 6, locals := 128 } : Room) s m args below meth c H locs 0 0 (vx_MQ below (va_Qi ((fun (r : Int32) (h1 : mH) => ∃ t, inR x0 (kN σ 62 2) = some t ∧ kB σ 36 t = false ∧ CRep cs df P h0 L (endS σ t) h1 ∧ r = kI σ 34 t)) (mB D hh s.heap.size) (mA hh s.heap.size)) (mX D hh s.heap.size (fun E h1 => h1 = hh ∧ (E = "java/util/NoSuchElementException" ∧ inR x0 (kN σ 62 2) = none ∨ E = "java/lang/IllegalStateException" ∧ ∃ t, inR x0 (kN σ 62 2) = some t ∧ kB σ 36 t = true))) args s 1 6 (mA hh s.heap.size)) (F0 m 59 ls []) := by
        intro fu
        induction fu with
        | zero =>
          intro i hi hfu
          exact absurd hfu (Nat.not_lt_zero _)
        | succ fu ih59 =>
          intro i hi hfu h H locs hC hV hS ls hl
          have en2 : kN (ehL k7 i (eh0 σ k7)) 62 2 = kN σ 62 2 := by rw [ehL_N _ _ _ (fun _ => by decide), eh0_N _ _ (fun _ => by decide)]
          have en3 : kN (ehL k7 i (eh0 σ k7)) 62 3 = 4 := by rw [ehL_N _ _ _ (fun _ => by decide), eh0_N _ _ (fun _ => by decide)]; omega
          refine lv_iload hx hb dX4_end_59 (lv_at hl 4 rfl) ?_
          refine lv_aload_n hx hb dX4_end_61 rfl (lv_at hl 2 rfl) ?_
          refine m_get (C := RX4) (T := TX4) (N := 11) hx hb hts hi_X4 hown hK hV 3 (v := .ref (L 5 3)) (g_kern3 hC rfl) rfl (by decide) k24 (fun _ h9 => h9) dX4_end_62 ?_
          refine m_calli (va_runV (As := []) (rest := [.int (nI i)]) ⟨hx, hb, hml, hown, hts⟩ (l_size (H.size) hC 3 (by decide)) (cwV 0 hts gX4_end_Jx4a65c_size_8abf5 rfl rfl rfl (by decide +kernel) ⟨by decide, by decide⟩) (m_preV (r := (RJx4a65c, TJx4a65c, 3)) hE hV hS hA (CRep.atL hC (j := 3) (by decide)) rfl) rfl rfl hl.1 rfl (lv_room (by first | exact Nat.le_of_ble_eq_true rfl | simp [rf_cat, ct_ref, ct_int, ct_null, ct_long])) dX4_end_65 ⟨by decide, by decide⟩) hV hS hA (fun r h1 H locs hV hS hp _ => ?_)
          obtain ⟨e1, e2⟩ := hp
          subst e2
          rw [e1] at hV; clear e1
          refine lv_icmp_ge (tgt := 105) hx hb dX4_end_68 (by decide) (fun c68 => ?_) (fun c68 => ?_)
          · replace c68 : kN (ehL k7 i (eh0 σ k7)) 62 3 ≤ i := (nI_leI (a := kN (ehL k7 i (eh0 σ k7)) 62 3) (b := i) (by omega) (by omega)).mp c68
            refine lv_iload_n hx hb dX4_end_105 rfl (lv_at hl 0 rfl) ?_
            refine W.widen (k := 1) (n := 6) (by decide) (by first | decide | omega) ?_
            exact vx_ret (m_iret (v := (kI σ 34 k7)) hx hb hr hlocks hV hS (⟨k7, c7, c24, (by rw [show i = 4 by omega] at hC; exact hC), rfl⟩) dX4_end_106)
          · replace c68 : ¬ kN (ehL k7 i (eh0 σ k7)) 62 3 ≤ i := fun q9 => c68 ((nI_leI (a := kN (ehL k7 i (eh0 σ k7)) 62 3) (b := i) (by omega) (by omega)).mpr q9)
            refine lv_aload_n hx hb dX4_end_71 rfl (lv_at hl 2 rfl) ?_
            refine m_get (C := RX4) (T := TX4) (N := 11) hx hb hts hi_X4 hown hK hV 3 (v := .ref (L 5 3)) (g_kern3 hC rfl) rfl (by decide) k24 (fun _ h9 => h9) dX4_end_72 ?_
            refine lv_iload hx hb dX4_end_75 (lv_at hl 4 rfl) ?_
            refine m_callq (va_runV (As := [.int (nI i)]) (rest := []) ⟨hx, hb, hml, hown, hts⟩ (l_get3 (H.size) hC i (by first | assumption | omega)) (cwV 1 hts gX4_end_Jx4a65c_get_915e3 rfl rfl rfl (by decide +kernel) ⟨by decide, by decide⟩) (m_preV (r := (RJx4a65c, TJx4a65c, 3)) hE hV hS hA (CRep.atL hC (j := 3) (by decide)) rfl) rfl rfl hl.1 rfl (lv_room (by first | exact Nat.le_of_ble_eq_true rfl | simp [rf_cat, ct_ref, ct_int, ct_null, ct_long])) dX4_end_77 ⟨by decide, by decide⟩) hV hS hA (fun r h1 H locs hV hS hp _ => ?_)
            obtain ⟨e1, e2⟩ := hp
            subst e2
            rw [e1] at hV; clear e1
            refine m_cast (r := (RX2, TX2, 2)) hx hb hE hV (hC.at (k := 4) (i := i) (show i < 4 by omega)) rfl hown kc59 dX4_end_80 ?_
            refine lv_astore (lv' := [(5, .ref (L 4 i)), (3, .int (kI σ 34 k7)), (2, .ref (L 3 k7)), (0, .ref (L 0 0)), (1, .int x0), (4, .int (nI i))]) hx hb dX4_end_83 hl (by decide) rfl (fun ls hl => ?_)
            refine lv_aload hx hb dX4_end_85 (lv_at hl 0 rfl) ?_
            refine m_getN (C := RX2) (T := TX2) (N := 2) (host := "TaskKernel") hx hb hts hi_X2 hown hK hV 0 (v := va_rf ((kO (ehL k7 i (eh0 σ k7)) 50 i).map (L 3))) (g_lock0 hC (show i < 4 by omega)) rfl (by decide) kn175 (fun _ h9 => h9) dX4_end_87 ?_
            refine lv_aload_n hx hb dX4_end_90 rfl (lv_at hl 2 rfl) ?_
            refine lv_acmp_ne (rx := ((kO (ehL k7 i (eh0 σ k7)) 50 i).map (L 3))) (ry := (some (L 3 k7))) (tgt := 99) hx hb dX4_end_91 (by decide) (fun c91 => ?_) (fun c91 => ?_)
            · replace c91 : ¬ kO (ehL k7 i (eh0 σ k7)) 50 i = some k7 := fun q9 => c91 (((map_inj (f := L 3) (t := k7) (fun k9 h9 e9 => (hC.inj (k := 3) (k2 := 3) ((hC.wf.2.2.2.2.2.2.2.2 i (show i < 4 by omega)) k9 h9) (by first | assumption | (show k7 < kN (ehL k7 i (eh0 σ k7)) 62 2; omega)) e9).2)).mpr q9))
              refine lv_iinc (v := nI (i + 1)) (lv' := [(4, .int (nI (i + 1))), (5, .ref (L 4 i)), (3, .int (kI σ 34 k7)), (2, .ref (L 3 k7)), (0, .ref (L 0 0)), (1, .int x0)]) hx hb dX4_end_99 hl (k := 5) rfl (show nI i + Int32.ofInt 1 = _ from nI_add i 1) (by decide) rfl (fun ls hl => ?_)
              refine lv_goto (tgt := 59) hx hb dX4_end_102 (by decide) ?_
              have q1 : (ehL k7 i (eh0 σ k7)) = (ehL k7 (i + 1) (eh0 σ k7)) := (by rw [ehL, if_neg c91])
              rw [q1] at hC
              exact ih59 (i + 1) (by omega) (by omega) _ _ _ hC hV hS ls (lv_sub hl [2, 3, 4, 5, 0] rfl)
            · replace c91 : kO (ehL k7 i (eh0 σ k7)) 50 i = some k7 := (map_inj (f := L 3) (t := k7) (fun k9 h9 e9 => (hC.inj (k := 3) (k2 := 3) ((hC.wf.2.2.2.2.2.2.2.2 i (show i < 4 by omega)) k9 h9) (by first | assumption | (show k7 < kN (ehL k7 i (eh0 σ k7)) 62 2; omega)) e9).2)).mp c91
              refine lv_aload hx hb dX4_end_94 (lv_at hl 0 rfl) ?_
              refine m_callv (va_runS (As := [.ref (L 4 i)]) (rest := []) ⟨hx, hb, hml, hown, hts⟩ (c_X4_passOn (l := l) (H.size) hC i (by omega)) (va_cwS 1 hts gX4_end_X4_passOn rfl rfl rfl (by decide +kernel) ⟨by decide, by decide⟩) (m_preS hE hV hS hA) rfl rfl hl.1 rfl (lv_room (by first | exact Nat.le_of_ble_eq_true rfl | simp [rf_cat, ct_ref, ct_int, ct_null, ct_long])) dX4_end_96 ⟨by decide, by decide⟩) hV hS hA (fun h H locs hV hS hp _ => ?_)
              replace hC := hp; clear hp
              refine lv_iinc (v := nI (i + 1)) (lv' := [(4, .int (nI (i + 1))), (5, .ref (L 4 i)), (3, .int (kI σ 34 k7)), (2, .ref (L 3 k7)), (0, .ref (L 0 0)), (1, .int x0)]) hx hb dX4_end_99 hl (k := 5) rfl (show nI i + Int32.ofInt 1 = _ from nI_add i 1) (by decide) rfl (fun ls hl => ?_)
              refine lv_goto (tgt := 59) hx hb dX4_end_102 (by decide) ?_
              have q2 : (passS (ehL k7 i (eh0 σ k7)) i) = (ehL k7 (i + 1) (eh0 σ k7)) := (by rw [ehL, if_pos c91])
              rw [q2] at hC
              exact ih59 (i + 1) (by omega) (by omega) _ _ _ hC hV hS ls (lv_sub hl [2, 3, 4, 5, 0] rfl)
      have q3 : (stopS (sB (sI σ 34 (va_up (kI σ 34) k7 0)) 36 (va_up (kB (sI σ 34 (va_up (kI σ 34) k7 0)) 36) k7 true)) k7) = (ehL k7 0 (eh0 σ k7)) := rfl
      rw [q3] at hC
      have q4 : 0 = nI 0 := rfl
      replace hl : lv_has ls 6 [(4, .int (nI 0)), (3, .int (kI σ 34 k7)), (2, .ref (L 3 k7)), (0, .ref (L 0 0)), (1, .int x0)] := (congrArg (lv_has ls 6) (m_lc (congrArg Value.int q4) (m_lc rfl (m_lc rfl (m_lc rfl (m_lc rfl rfl)))))).mp hl
      exact lp59 ((4 - 0) + 1) 0 (by omega) (Nat.lt_succ_self _) _ _ _ hC hV hS ls (lv_sub hl [1, 2, 3, 4, 0] rfl)
    · replace c24 : kB σ 36 k7 = true := bI_1.mp c24
      exact m_throw hx hb hfl (own := RX4) (cls := "java/lang/IllegalStateException") (text := "the task has ended") (names := ["java/lang/RuntimeException", "java/lang/Exception"]) (ik := 73) (is := 162) (ic := 77) hown (by decide) (by decide) kc73 (hts _ (by decide +kernel)) (hE.1.2.2.2.1 _ (List.mem_of_getElem? (i := 12) rfl)) (m_hat hE (by decide +kernel) hts) (by decide +kernel) hE hV hS (by rw [hml]; exact hl.1) dX4_end_27 dX4_end_30 dX4_end_31 dX4_end_33 dX4_end_36 hnx (by decide) (by decide) (by decide) (by decide) hlocks (⟨rfl, Or.inr ⟨rfl, k7, c7, c24⟩⟩) (by decide) (by decide)
  · replace hl : lv_has ls 6 [(2, .null), (0, .ref (L 0 0)), (1, .int x0)] := by have h9 := hl; rw [c7] at h9; exact h9
    exact m_throwX hx hb hfl (own := RX4) (cls := "java/util/NoSuchElementException") (text := "there is no such task") (names := ["java/lang/RuntimeException", "java/lang/Exception"]) (ik := 153) (is := 155) (ic := 157) (ix := 13) (rx := prog_29_method_4_code) (by decide +kernel) (by decide +kernel) (by decide +kernel) (by decide +kernel) hown (by decide) (by decide) kc153 (hts _ (by decide +kernel)) (hE.1.2.2.2.1 _ (List.mem_of_getElem? (i := 11) rfl)) (m_hat hE (by decide +kernel) hts) (by decide +kernel) hE hV hS (by rw [hml]; exact hl.1) dX4_end_10 dX4_end_13 dX4_end_14 dX4_end_16 dX4_end_19 hnx (by decide) (by decide) (by decide) (by decide) hlocks (⟨rfl, Or.inl ⟨rfl, c7⟩⟩) (by decide) (by decide)
set_option maxHeartbeats 4000000 in
set_option maxRecDepth 100000 in
theorem c_X4_work {l : Launch} {D : va_G} {cs : mC} {df : Nat} {P : Nat → Prop} {h0 : mH} {L : KL} {σ : KS} {hh : mH} (sz : Nat) (hC : CRep cs df P h0 L σ hh) (i : Nat) (t : Nat) (hi : i < kN σ 62 0) (ht : t < kN σ 62 2) : Met l yX4_work wsX4_work ({ frames := 1, cells := 0, slots := 0, locals := 30 }) (mPre [.ref (L 0 0), .ref (L 1 i), .ref (L 3 t)] D cs df hh sz) (va_Qv ((fun (h1 : mH) => CRep cs df P h0 L (workS σ i t) h1)) (mB D hh sz) (mA hh sz)) 0 0 (mA hh sz) := by
  refine Met.ofW (cc := cX4_work) (maxL := 5) (ret := none) (by decide) rfl ?_
  intro p e s m args below meth c s₁ B0 hml hv
  obtain ⟨hargs, hsz, hV, hE⟩ := hv
  subst hsz
  have hx := B0.exec
  have hb := B0.bytes
  have hr := B0.returns
  have hlocks := B0.notSynchronized
  have hts := atoms_spec (ws := wsX4_work) B0.pre
  have hown : s.vm.findClass RX4 = some m.cls := findClass_of_methodNamed B0.named
  have hK := hE.1.1
  have hA : ∀ q : Nat, s.heap.size ≤ q → mA hh s.heap.size q := mA.top
  have hS : va_S (mA hh s.heap.size) s.heap s.heap [] := va_S.rf
  have hi_X4 : ∀ w ∈ u_ws RX4 TX4 11, w ∈ wsX4_work := by decide +kernel
  have k36 : (Cond.fieldLink RX4 36 "TaskKernel" "heatLimit" "I").before args s = true := hts _ (by decide +kernel)
  have kq99 : va_Nw (.methodLinkNest RX4 99 yX0_paceUnder "TaskKernel") s := hE.1.2.2.1 _ (List.mem_of_getElem? (i := 7) rfl)
  have hi_X3 : ∀ w ∈ u_ws RX3 TX3 16, w ∈ wsX4_work := by decide +kernel
  have kn361 : va_Nw (.fieldLinkNest RX4 361 "TaskKernel$Task" "lastCore" "LTaskKernel$Core;" "TaskKernel") s := hE.1.2.1 _ (List.mem_of_getElem? (i := 24) rfl)
  have k49 : (Cond.fieldLink RX4 49 "TaskKernel" "usedCoreTicks" "I").before args s = true := hts _ (by decide +kernel)
  have kn164 : va_Nw (.fieldLinkNest RX4 164 "TaskKernel$Task" "left" "I" "TaskKernel") s := hE.1.2.1 _ (List.mem_of_getElem? (i := 15) rfl)
  have kn198 : va_Nw (.fieldLinkNest RX4 198 "TaskKernel$Task" "done" "I" "TaskKernel") s := hE.1.2.1 _ (List.mem_of_getElem? (i := 16) rfl)
  have kn191 : va_Nw (.fieldLinkNest RX4 191 "TaskKernel$Task" "time" "J" "TaskKernel") s := hE.1.2.1 _ (List.mem_of_getElem? (i := 14) rfl)
  have kn365 : va_Nw (.fieldLinkNest RX4 365 "TaskKernel$Task" "timePerUnit" "I" "TaskKernel") s := hE.1.2.1 _ (List.mem_of_getElem? (i := 13) rfl)
  have kn296 : va_Nw (.fieldLinkNest RX4 296 "TaskKernel$Task" "group" "LTaskKernel$Group;" "TaskKernel") s := hE.1.2.1 _ (List.mem_of_getElem? (i := 12) rfl)
  have hi_X1 : ∀ w ∈ u_ws RX1 TX1 6, w ∈ wsX4_work := by decide +kernel
  have kn201 : va_Nw (.fieldLinkNest RX4 201 "TaskKernel$Group" "done" "I" "TaskKernel") s := hE.1.2.1 _ (List.mem_of_getElem? (i := 4) rfl)
  have kn197 : va_Nw (.fieldLinkNest RX4 197 "TaskKernel$Group" "time" "J" "TaskKernel") s := hE.1.2.1 _ (List.mem_of_getElem? (i := 3) rfl)
  have kn368 : va_Nw (.fieldLinkNest RX4 368 "TaskKernel$Group" "timePerUnit" "I" "TaskKernel") s := hE.1.2.1 _ (List.mem_of_getElem? (i := 2) rfl)
  have kn290 : va_Nw (.fieldLinkNest RX4 290 "TaskKernel$Group" "parent" "LTaskKernel$Group;" "TaskKernel") s := hE.1.2.1 _ (List.mem_of_getElem? (i := 1) rfl)
  have k46 : (Cond.fieldLink RX4 46 "TaskKernel" "moveCount" "I").before args s = true := hts _ (by decide +kernel)
  have hl := lv_entry ([.ref (L 0 0), .ref (L 1 i), .ref (L 3 t)]) (n := 5) (by first | exact Nat.le_of_ble_eq_true rfl | simp [lg_sl, rf_cat, ct_ref, ct_int, ct_null, ct_long])
  have hent := lg_entry_eq m ([.ref (L 0 0), .ref (L 1 i), .ref (L 3 t)]) 5
  rw [← hargs] at hent
  rw [hent]
  generalize (lg_sl ([.ref (L 0 0), .ref (L 1 i), .ref (L 3 t)]) ++ List.replicate (5 - (lg_sl ([.ref (L 0 0), .ref (L 1 i), .ref (L 3 t)])).length) Slot.unset).toArray = ls at hl ⊢
  replace hl : lv_has ls 5 [(0, .ref (L 0 0)), (1, .ref (L 1 i)), (2, .ref (L 3 t))] := hl
  have hwf := hC.wf
  obtain ⟨⟨z0, z1, z2, z3, z4⟩, z5, z6, z7, z8, z9, z10, z11, z12⟩ := hwf
  refine lv_aload_n hx hb dX4_work_0 rfl (lv_at hl 1 rfl) ?_
  refine lv_aload_n hx hb dX4_work_1 rfl (lv_at hl 0 rfl) ?_
  refine m_get (C := RX4) (T := TX4) (N := 11) hx hb hts hi_X4 hown hK hV 5 (v := .int (kI σ 0 0)) (g_kern5 hC rfl) rfl (by decide) k36 (fun _ h9 => h9) dX4_work_2 ?_
  refine m_calli (va_runVN (As := [.int (kI σ 0 0)]) (rest := []) ⟨hx, hb, hml, hown, hts⟩ (c_X0_paceUnder (l := l) (s.heap.size) hC i (kI σ 0 0) (by first | assumption | omega)) ⟨va_cnB 1 hts gX4_work_X0_paceUnder_n99 rfl rfl rfl kq99 (hts (.initialized RX0) (by decide +kernel)) (by decide +kernel) ⟨by decide, by decide⟩, hts (.instanceMethod yX0_paceUnder) (by decide +kernel), hts (.selects RX0 yX0_paceUnder yX0_paceUnder) (by decide +kernel)⟩ (m_preV (r := (RX0, TX0, 3)) hE hV hS hA (hC.at (k := 1) (i := i) (by first | assumption | (show i < kN σ 62 0; omega))) rfl) rfl rfl hl.1 rfl (lv_room (by first | exact Nat.le_of_ble_eq_true rfl | simp [rf_cat, ct_ref, ct_int, ct_null, ct_long])) dX4_work_5 ⟨by decide, by decide⟩) hV hS hA (fun r h1 H locs hV hS hp _ => ?_)
  obtain ⟨e1, e2⟩ := hp
  subst e2
  rw [e1] at hV; clear e1
  refine lv_istore_n (lv' := [(3, .int (paceS (kI σ 10 i) (kI σ 11 i) (kI σ 0 0))), (0, .ref (L 0 0)), (1, .ref (L 1 i)), (2, .ref (L 3 t))]) hx hb dX4_work_8 rfl hl (by decide) rfl (fun ls hl => ?_)
  refine lv_aload_n hx hb dX4_work_9 rfl (lv_at hl 3 rfl) ?_
  refine m_getN (C := RX3) (T := TX3) (N := 16) (host := "TaskKernel") hx hb hts hi_X3 hown hK hV 13 (v := va_rf ((kO σ 43 t).map (L 1))) (g_task13 hC (by first | assumption | (show t < kN σ 62 2; omega))) rfl (by decide) kn361 (fun _ h9 => h9) dX4_work_10 ?_
  refine m_ifnull_q (o := (kO σ 43 t)) (f := L 1) (tgt := 37) hx hb dX4_work_13 (by decide) (fun c13 => ?_) (fun k13 c13 => ?_)
  · have wm : mvS σ i t = false := (by unfold mvS; rw [c13])
    have wx : wkm σ i t = σ := by unfold wkm; rw [wm] <;> rfl
    have wv : wkv σ i t = (paceS (kI σ 10 i) (kI σ 11 i) (kI σ 0 0)) := by unfold wkv; rw [wm] <;> rfl
    rw [← wx] at hC
    replace hl : lv_has ls 5 [(3, .int (wkv σ i t)), (0, .ref (L 0 0)), (1, .ref (L 1 i)), (2, .ref (L 3 t))] := by have h9 := hl; rw [← wv] at h9; exact h9
    have en : kN (wkm σ i t) = kN σ := by unfold wkm; split <;> rfl
    have en0 : kN (wkm σ i t) 62 0 = kN σ 62 0 := by rw [en]
    have en1 : kN (wkm σ i t) 62 1 = kN σ 62 1 := by rw [en]
    have en2 : kN (wkm σ i t) 62 2 = kN σ 62 2 := by rw [en]
    have eg : kN (wkm σ i t) 31 t = kN σ 31 t := by rw [en]
    have el : kI (wkm σ i t) 34 = kI σ 34 := by unfold wkm; split <;> rfl
    refine lv_aload_n hx hb dX4_work_37 rfl (lv_at hl 3 rfl) ?_
    refine lv_aload_n hx hb dX4_work_38 rfl (lv_at hl 2 rfl) ?_
    refine m_putN (host := "TaskKernel") (C := RX3) (T := TX3) (N := 16) (v := va_rf (((some i)).map (L 1))) hx hb hts hi_X3 tyX3 tyX3_ok nmX3 hown hK hV hS 13 (p_task13 hC (by first | assumption | (show t < kN (wkm σ i t) 62 2; omega)) (some i) (fun z h9 => by cases h9; exact (show i < kN (wkm σ i t) 62 0 by omega))) rfl (by decide) kn361 (fun _ h9 => h9) rfl (tyX3_ok 13 (by decide)) (rf_narrow _ _) (rf_fits _ _) dX4_work_39 (fun h H locs hV hS hC => ?_)
    refine lv_aload_n hx hb dX4_work_42 rfl (lv_at hl 1 rfl) ?_
    refine lv_dup hx hb dX4_work_43 rfl ?_
    refine m_get (C := RX4) (T := TX4) (N := 11) hx hb hts hi_X4 hown hK hV 9 (v := .int (kI (wkm σ i t) 4 0)) (g_kern9 hC rfl) rfl (by decide) k49 (fun _ h9 => h9) dX4_work_44 ?_
    refine lv_iconst (v := 1) hx hb dX4_work_47 (by decide) ?_
    refine lv_iadd hx hb dX4_work_48 ?_
    refine m_put (C := RX4) (T := TX4) (N := 11) (v := .int ((kI (wkm σ i t) 4 0) + 1)) hx hb hts hi_X4 tyX4 tyX4_ok nmX4 hown hK hV hS 9 (p_kern9 hC rfl ((kI (wkm σ i t) 4 0) + 1)) rfl (by decide) k49 (fun _ h9 => h9) rfl (tyX4_ok 9 (by decide)) rfl rfl dX4_work_49 (fun h H locs hV hS hC => ?_)
    refine lv_iload_n hx hb dX4_work_52 rfl (lv_at hl 0 rfl) ?_
    refine lv_aload_n hx hb dX4_work_53 rfl (lv_at hl 3 rfl) ?_
    refine m_getN (C := RX3) (T := TX3) (N := 16) (host := "TaskKernel") hx hb hts hi_X3 hown hK hV 4 (v := .int (kI (wkm σ i t) 34 t)) (g_task4 hC (by first | assumption | (show t < kN (wkm σ i t) 62 2; omega))) rfl (by decide) kn164 (fun _ h9 => h9) dX4_work_54 ?_
    refine va_mmin hx hb (by rw [hml]; exact hl.1.symm) hown (hts (.methodLink RX4 205 Lib.Math.min.name) (by decide +kernel)) (hts (.static Lib.Math.min.name) (by decide +kernel)) (hts (.initialized "java/lang/Math") (by decide +kernel)) (hts (.code Lib.Math.min.name Lib.Math.min.code 2 (some .int)) (by decide +kernel)) (by decide) (by first | exact Nat.le_of_ble_eq_true rfl | decide | (simp [rf_cat, ct_ref, ct_int, ct_null, ct_long]; done)) (by decide) (by decide) dX4_work_57 ?_
    refine lv_istore_n (lv' := [(3, .int (if (kI (wkm σ i t) 34 t) < (wkv σ i t) then (kI (wkm σ i t) 34 t) else (wkv σ i t))), (0, .ref (L 0 0)), (1, .ref (L 1 i)), (2, .ref (L 3 t))]) hx hb dX4_work_60 rfl hl (by decide) rfl (fun ls hl => ?_)
    have wu : wku σ i t = (if (kI (wkm σ i t) 34 t) < (wkv σ i t) then (kI (wkm σ i t) 34 t) else (wkv σ i t)) := by unfold wku; rw [← el] <;> rfl
    replace hl : lv_has ls 5 [(3, .int (wku σ i t)), (0, .ref (L 0 0)), (1, .ref (L 1 i)), (2, .ref (L 3 t))] := by have h9 := hl; rw [← wu] at h9; exact h9
    refine lv_aload_n hx hb dX4_work_61 rfl (lv_at hl 3 rfl) ?_
    refine lv_dup hx hb dX4_work_62 rfl ?_
    refine m_getN (C := RX3) (T := TX3) (N := 16) (host := "TaskKernel") hx hb hts hi_X3 hown hK hV 4 (v := .int (kI (wkm σ i t) 34 t)) (g_task4 hC (by first | assumption | (show t < kN (wkm σ i t) 62 2; omega))) rfl (by decide) kn164 (fun _ h9 => h9) dX4_work_63 ?_
    refine lv_iload_n hx hb dX4_work_66 rfl (lv_at hl 0 rfl) ?_
    refine lv_isub hx hb dX4_work_67 ?_
    refine m_putN (host := "TaskKernel") (C := RX3) (T := TX3) (N := 16) (v := .int ((kI (wkm σ i t) 34 t) - (wku σ i t))) hx hb hts hi_X3 tyX3 tyX3_ok nmX3 hown hK hV hS 4 (p_task4 hC (by first | assumption | (show t < kN (wkm σ i t) 62 2; omega)) ((kI (wkm σ i t) 34 t) - (wku σ i t))) rfl (by decide) kn164 (fun _ h9 => h9) rfl (tyX3_ok 4 (by decide)) rfl rfl dX4_work_68 (fun h H locs hV hS hC => ?_)
    refine lv_aload_n hx hb dX4_work_71 rfl (lv_at hl 3 rfl) ?_
    refine lv_dup hx hb dX4_work_72 rfl ?_
    refine m_getN (C := RX3) (T := TX3) (N := 16) (host := "TaskKernel") hx hb hts hi_X3 hown hK hV 5 (v := .int (kI (wkm σ i t) 35 t)) (g_task5 hC (by first | assumption | (show t < kN (wkm σ i t) 62 2; omega))) rfl (by decide) kn198 (fun _ h9 => h9) dX4_work_73 ?_
    refine lv_iload_n hx hb dX4_work_76 rfl (lv_at hl 0 rfl) ?_
    refine lv_iadd hx hb dX4_work_77 ?_
    refine m_putN (host := "TaskKernel") (C := RX3) (T := TX3) (N := 16) (v := .int ((kI (wkm σ i t) 35 t) + (wku σ i t))) hx hb hts hi_X3 tyX3 tyX3_ok nmX3 hown hK hV hS 5 (p_task5 hC (by first | assumption | (show t < kN (wkm σ i t) 62 2; omega)) ((kI (wkm σ i t) 35 t) + (wku σ i t))) rfl (by decide) kn198 (fun _ h9 => h9) rfl (tyX3_ok 5 (by decide)) rfl rfl dX4_work_78 (fun h H locs hV hS hC => ?_)
    refine lv_aload_n hx hb dX4_work_81 rfl (lv_at hl 3 rfl) ?_
    refine lv_dup hx hb dX4_work_82 rfl ?_
    refine m_getN (C := RX3) (T := TX3) (N := 16) (host := "TaskKernel") hx hb hts hi_X3 hown hK hV 3 (v := .long (kW (wkm σ i t) 33 t)) (g_task3 hC (by first | assumption | (show t < kN (wkm σ i t) 62 2; omega))) rfl (by decide) kn191 (fun _ h9 => h9) dX4_work_83 ?_
    refine lv_iload_n hx hb dX4_work_86 rfl (lv_at hl 0 rfl) ?_
    refine lv_i2l (v := ((wku σ i t)).toInt64) hx hb dX4_work_87 rfl ?_
    refine lv_aload_n hx hb dX4_work_88 rfl (lv_at hl 3 rfl) ?_
    refine m_getN (C := RX3) (T := TX3) (N := 16) (host := "TaskKernel") hx hb hts hi_X3 hown hK hV 2 (v := .int (kI (wkm σ i t) 32 t)) (g_task2 hC (by first | assumption | (show t < kN (wkm σ i t) 62 2; omega))) rfl (by decide) kn365 (fun _ h9 => h9) dX4_work_89 ?_
    refine lv_i2l (v := ((kI (wkm σ i t) 32 t)).toInt64) hx hb dX4_work_92 rfl ?_
    refine lv_lmul hx hb dX4_work_93 ?_
    refine lv_ladd hx hb dX4_work_94 ?_
    refine m_putN (host := "TaskKernel") (C := RX3) (T := TX3) (N := 16) (v := .long ((kW (wkm σ i t) 33 t) + ((((wku σ i t)).toInt64) * (((kI (wkm σ i t) 32 t)).toInt64)))) hx hb hts hi_X3 tyX3 tyX3_ok nmX3 hown hK hV hS 3 (p_task3 hC (by first | assumption | (show t < kN (wkm σ i t) 62 2; omega)) ((kW (wkm σ i t) 33 t) + ((((wku σ i t)).toInt64) * (((kI (wkm σ i t) 32 t)).toInt64)))) rfl (by decide) kn191 (fun _ h9 => h9) rfl (tyX3_ok 3 (by decide)) rfl rfl dX4_work_95 (fun h H locs hV hS hC => ?_)
    refine lv_aload_n hx hb dX4_work_98 rfl (lv_at hl 3 rfl) ?_
    refine m_getN (C := RX3) (T := TX3) (N := 16) (host := "TaskKernel") hx hb hts hi_X3 hown hK hV 1 (v := .ref (L 2 (kN (wkm σ i t) 31 t))) (g_task1 hC (by first | assumption | (show t < kN (wkm σ i t) 62 2; omega))) rfl (by decide) kn296 (fun _ h9 => h9) dX4_work_99 ?_
    refine lv_astore (lv' := [(4, .ref (L 2 (kN (wkm σ i t) 31 t))), (3, .int (wku σ i t)), (0, .ref (L 0 0)), (1, .ref (L 1 i)), (2, .ref (L 3 t))]) hx hb dX4_work_102 hl (by decide) rfl (fun ls hl => ?_)
    have lp104 : ∀ (fu : Nat) (f : Nat) (o : Option Nat) (τ : KS), (om o ≤ f) → (∀ k, o = some k → k < kN τ 62 1) → (upS (wku σ i t) f o τ = workS σ i t) → om o < fu → ∀ (h : mH) (H : Heap) (locs : List Loc), CRep cs df P h0 L τ h → mV D h (mA hh s.heap.size) H → va_S (mA hh s.heap.size) s.heap H locs → ∀ (ls : Array Slot), lv_has ls 5 [(3, .int (wku σ i t)), (4, va_rf ((o).map (L 2)))] → W p l e ({ frames := 1, cells := 0, slots := 0, locals := 30 } : Room) s m args below meth c H locs 0 0 (MQ below (va_Qv ((fun (h1 : mH) => CRep cs df P h0 L (workS σ i t) h1)) (mB D hh s.heap.size) (mA hh s.heap.size)) args s 0 0 (mA hh s.heap.size)) (F0 m 104 ls []) := by
      intro fu
      induction fu with
      | zero =>
        intro f o τ hm ho hf hfu
        exact absurd hfu (Nat.not_lt_zero _)
      | succ fu ih104 =>
        intro f o τ hm ho hf hfu h H locs hC hV hS ls hl
        refine m_aload_q hx hb dX4_work_104 (lv_at hl 1 rfl) ?_
        refine m_ifnull_q (o := o) (f := L 2) (tgt := 149) hx hb dX4_work_106 (by decide) (fun c106 => ?_) (fun k106 c106 => ?_)
        · replace hl : lv_has ls 5 [(3, .int (wku σ i t)), (4, .null)] := by have h9 := hl; rw [c106] at h9; exact h9
          exact m_vret hx hb hr hlocks hV hS ((by rw [c106, upS_none] at hf; rw [← hf]; exact hC)) dX4_work_149
        · have bk106 := ho k106 c106
          replace hl : lv_has ls 5 [(3, .int (wku σ i t)), (4, .ref (L 2 k106))] := by have h9 := hl; rw [c106] at h9; exact h9
          refine lv_aload hx hb dX4_work_109 (lv_at hl 1 rfl) ?_
          refine lv_dup hx hb dX4_work_111 rfl ?_
          refine m_getN (C := RX1) (T := TX1) (N := 6) (host := "TaskKernel") hx hb hts hi_X1 hown hK hV 4 (v := .int (kI τ 24 k106)) (g_grp4 hC (by first | assumption | (show k106 < kN τ 62 1; omega))) rfl (by decide) kn201 (fun _ h9 => h9) dX4_work_112 ?_
          refine lv_iload_n hx hb dX4_work_115 rfl (lv_at hl 0 rfl) ?_
          refine lv_iadd hx hb dX4_work_116 ?_
          refine m_putN (host := "TaskKernel") (C := RX1) (T := TX1) (N := 6) (v := .int ((kI τ 24 k106) + (wku σ i t))) hx hb hts hi_X1 tyX1 tyX1_ok nmX1 hown hK hV hS 4 (p_grp4 hC (by first | assumption | (show k106 < kN τ 62 1; omega)) ((kI τ 24 k106) + (wku σ i t))) rfl (by decide) kn201 (fun _ h9 => h9) rfl (tyX1_ok 4 (by decide)) rfl rfl dX4_work_117 (fun h H locs hV hS hC => ?_)
          refine lv_aload hx hb dX4_work_120 (lv_at hl 1 rfl) ?_
          refine lv_dup hx hb dX4_work_122 rfl ?_
          refine m_getN (C := RX1) (T := TX1) (N := 6) (host := "TaskKernel") hx hb hts hi_X1 hown hK hV 3 (v := .long (kW τ 23 k106)) (g_grp3 hC (by first | assumption | (show k106 < kN τ 62 1; omega))) rfl (by decide) kn197 (fun _ h9 => h9) dX4_work_123 ?_
          refine lv_iload_n hx hb dX4_work_126 rfl (lv_at hl 0 rfl) ?_
          refine lv_i2l (v := ((wku σ i t)).toInt64) hx hb dX4_work_127 rfl ?_
          refine lv_aload hx hb dX4_work_128 (lv_at hl 1 rfl) ?_
          refine m_getN (C := RX1) (T := TX1) (N := 6) (host := "TaskKernel") hx hb hts hi_X1 hown hK hV 2 (v := .int (kI τ 22 k106)) (g_grp2 hC (by first | assumption | (show k106 < kN τ 62 1; omega))) rfl (by decide) kn368 (fun _ h9 => h9) dX4_work_130 ?_
          refine lv_i2l (v := ((kI τ 22 k106)).toInt64) hx hb dX4_work_133 rfl ?_
          refine lv_lmul hx hb dX4_work_134 ?_
          refine lv_ladd hx hb dX4_work_135 ?_
          refine m_putN (host := "TaskKernel") (C := RX1) (T := TX1) (N := 6) (v := .long ((kW τ 23 k106) + ((((wku σ i t)).toInt64) * (((kI τ 22 k106)).toInt64)))) hx hb hts hi_X1 tyX1 tyX1_ok nmX1 hown hK hV hS 3 (p_grp3 hC (by first | assumption | (show k106 < kN τ 62 1; omega)) ((kW τ 23 k106) + ((((wku σ i t)).toInt64) * (((kI τ 22 k106)).toInt64)))) rfl (by decide) kn197 (fun _ h9 => h9) rfl (tyX1_ok 3 (by decide)) rfl rfl dX4_work_136 (fun h H locs hV hS hC => ?_)
          refine lv_aload hx hb dX4_work_139 (lv_at hl 1 rfl) ?_
          refine m_getN (C := RX1) (T := TX1) (N := 6) (host := "TaskKernel") hx hb hts hi_X1 hown hK hV 1 (v := va_rf ((kO τ 20 k106).map (L 2))) (g_grp1 hC (by first | assumption | (show k106 < kN τ 62 1; omega))) rfl (by decide) kn290 (fun _ h9 => h9) dX4_work_141 ?_
          refine m_astore_q (lv' := [(4, va_rf ((kO τ 20 k106).map (L 2))), (3, .int (wku σ i t))]) hx hb dX4_work_144 hl (by decide) (by first | rfl | simp [rf_cat, ct_ref, ct_int, ct_long]) (fun ls hl => ?_)
          refine lv_goto (tgt := 104) hx hb dX4_work_146 (by decide) ?_
          have y9 : om o = k106 + 1 := by rw [c106]; rfl
          have z9 : om (kO τ 20 k106) ≤ k106 := om_par hC.wf bk106
          obtain ⟨f9, rfl⟩ : ∃ f9, f = f9 + 1 := ⟨f - 1, by omega⟩
          have w9 : upS (wku σ i t) f9 (kO τ 20 k106) (sW (sI τ 24 (va_up (kI τ 24) k106 ((kI τ 24 k106) + (wku σ i t)))) 23 (va_up (kW (sI τ 24 (va_up (kI τ 24) k106 ((kI τ 24 k106) + (wku σ i t)))) 23) k106 ((kW τ 23 k106) + ((((wku σ i t)).toInt64) * (((kI τ 22 k106)).toInt64))))) = workS σ i t := by rw [c106] at hf; exact hf
          have q1 : (va_rf ((kO τ 20 k106).map (L 2)) : Value) = va_rf (((kO τ 20 k106)).map (L 2)) := by simp
          replace hl : lv_has ls 5 [(4, va_rf (((kO τ 20 k106)).map (L 2))), (3, .int (wku σ i t))] := (congrArg (lv_has ls 5) (m_lc q1 (m_lc rfl rfl))).mp hl
          exact ih104 f9 (kO τ 20 k106) (sW (sI τ 24 (va_up (kI τ 24) k106 ((kI τ 24 k106) + (wku σ i t)))) 23 (va_up (kW (sI τ 24 (va_up (kI τ 24) k106 ((kI τ 24 k106) + (wku σ i t)))) 23) k106 ((kW τ 23 k106) + ((((wku σ i t)).toInt64) * (((kI τ 22 k106)).toInt64))))) (by omega) (fun k9 h9 => (wf_par hC.wf bk106 h9).2) w9 (by omega) _ _ _ hC hV hS ls (lv_sub hl [1, 0] rfl)
    have q2 : (sW (sI (sI (sI (sO (wkm σ i t) 43 (va_up (kO (wkm σ i t) 43) t (some i))) 4 (va_up (kI (sO (wkm σ i t) 43 (va_up (kO (wkm σ i t) 43) t (some i))) 4) 0 ((kI (wkm σ i t) 4 0) + 1))) 34 (va_up (kI (sI (sO (wkm σ i t) 43 (va_up (kO (wkm σ i t) 43) t (some i))) 4 (va_up (kI (sO (wkm σ i t) 43 (va_up (kO (wkm σ i t) 43) t (some i))) 4) 0 ((kI (wkm σ i t) 4 0) + 1))) 34) t ((kI (wkm σ i t) 34 t) - (wku σ i t)))) 35 (va_up (kI (sI (sI (sO (wkm σ i t) 43 (va_up (kO (wkm σ i t) 43) t (some i))) 4 (va_up (kI (sO (wkm σ i t) 43 (va_up (kO (wkm σ i t) 43) t (some i))) 4) 0 ((kI (wkm σ i t) 4 0) + 1))) 34 (va_up (kI (sI (sO (wkm σ i t) 43 (va_up (kO (wkm σ i t) 43) t (some i))) 4 (va_up (kI (sO (wkm σ i t) 43 (va_up (kO (wkm σ i t) 43) t (some i))) 4) 0 ((kI (wkm σ i t) 4 0) + 1))) 34) t ((kI (wkm σ i t) 34 t) - (wku σ i t)))) 35) t ((kI (wkm σ i t) 35 t) + (wku σ i t)))) 33 (va_up (kW (sI (sI (sI (sO (wkm σ i t) 43 (va_up (kO (wkm σ i t) 43) t (some i))) 4 (va_up (kI (sO (wkm σ i t) 43 (va_up (kO (wkm σ i t) 43) t (some i))) 4) 0 ((kI (wkm σ i t) 4 0) + 1))) 34 (va_up (kI (sI (sO (wkm σ i t) 43 (va_up (kO (wkm σ i t) 43) t (some i))) 4 (va_up (kI (sO (wkm σ i t) 43 (va_up (kO (wkm σ i t) 43) t (some i))) 4) 0 ((kI (wkm σ i t) 4 0) + 1))) 34) t ((kI (wkm σ i t) 34 t) - (wku σ i t)))) 35 (va_up (kI (sI (sI (sO (wkm σ i t) 43 (va_up (kO (wkm σ i t) 43) t (some i))) 4 (va_up (kI (sO (wkm σ i t) 43 (va_up (kO (wkm σ i t) 43) t (some i))) 4) 0 ((kI (wkm σ i t) 4 0) + 1))) 34 (va_up (kI (sI (sO (wkm σ i t) 43 (va_up (kO (wkm σ i t) 43) t (some i))) 4 (va_up (kI (sO (wkm σ i t) 43 (va_up (kO (wkm σ i t) 43) t (some i))) 4) 0 ((kI (wkm σ i t) 4 0) + 1))) 34) t ((kI (wkm σ i t) 34 t) - (wku σ i t)))) 35) t ((kI (wkm σ i t) 35 t) + (wku σ i t)))) 33) t ((kW (wkm σ i t) 33 t) + ((((wku σ i t)).toInt64) * (((kI (wkm σ i t) 32 t)).toInt64))))) = (wk1 (wkm σ i t) (wku σ i t) i t) := rfl
    rw [q2] at hC
    have q3 : (.ref (L 2 (kN (wkm σ i t) 31 t)) : Value) = va_rf (((some (kN (wkm σ i t) 31 t))).map (L 2)) := rfl
    replace hl : lv_has ls 5 [(4, va_rf (((some (kN (wkm σ i t) 31 t))).map (L 2))), (3, .int (wku σ i t)), (0, .ref (L 0 0)), (1, .ref (L 1 i)), (2, .ref (L 3 t))] := (congrArg (lv_has ls 5) (m_lc q3 (m_lc rfl (m_lc rfl (m_lc rfl (m_lc rfl rfl)))))).mp hl
    exact lp104 ((om (some (kN (wkm σ i t) 31 t))) + 1) 6 (some (kN (wkm σ i t) 31 t)) (wk1 (wkm σ i t) (wku σ i t) i t) (by show kN (wkm σ i t) 31 t + 1 ≤ 6; have z := hC.wf.2.2.2.2.2.1 t (by show t < kN (wkm σ i t) 62 2; omega); have z2 := hC.wf.1; have z3 : kN (wk1 (wkm σ i t) (wku σ i t) i t) 62 1 = kN (wkm σ i t) 62 1 := rfl; have z4 : kN (wk1 (wkm σ i t) (wku σ i t) i t) 31 t = kN (wkm σ i t) 31 t := rfl; omega) (fun k9 h9 => by cases h9; exact hC.wf.2.2.2.2.2.1 t (by show t < kN (wkm σ i t) 62 2; omega)) (by rw [eg]; rfl) (Nat.lt_succ_self _) _ _ _ hC hV hS ls (lv_sub hl [1, 0] rfl)
  · have bk13 : k13 < kN σ 62 0 := hC.wf.2.2.2.2.2.2.2.1 t (by first | assumption | (show t < kN σ 62 2; omega)) _ c13
    refine lv_aload_n hx hb dX4_work_16 rfl (lv_at hl 3 rfl) ?_
    refine m_getN (C := RX3) (T := TX3) (N := 16) (host := "TaskKernel") hx hb hts hi_X3 hown hK hV 13 (v := .ref (L 1 k13)) ((by have g9 := g_task13 hC (by first | assumption | (show t < kN σ 62 2; omega)); rw [c13] at g9; exact g9)) rfl (by decide) kn361 (fun _ h9 => h9) dX4_work_17 ?_
    refine lv_aload_n hx hb dX4_work_20 rfl (lv_at hl 2 rfl) ?_
    refine lv_acmp_eq (rx := (some (L 1 k13))) (ry := (some (L 1 i))) (tgt := 37) hx hb dX4_work_21 (by decide) (fun c21 => ?_) (fun c21 => ?_)
    · replace c21 : k13 = i := (hC.inj (k := 1) (k2 := 1) (by first | assumption | (show k13 < kN σ 62 0; omega)) (by first | assumption | (show i < kN σ 62 0; omega)) (Option.some.inj c21)).2
      have wm : mvS σ i t = false := (by unfold mvS; rw [c13]; exact decide_eq_false (fun q => q c21))
      have wx : wkm σ i t = σ := by unfold wkm; rw [wm] <;> rfl
      have wv : wkv σ i t = (paceS (kI σ 10 i) (kI σ 11 i) (kI σ 0 0)) := by unfold wkv; rw [wm] <;> rfl
      rw [← wx] at hC
      replace hl : lv_has ls 5 [(3, .int (wkv σ i t)), (0, .ref (L 0 0)), (1, .ref (L 1 i)), (2, .ref (L 3 t))] := by have h9 := hl; rw [← wv] at h9; exact h9
      have en : kN (wkm σ i t) = kN σ := by unfold wkm; split <;> rfl
      have en0 : kN (wkm σ i t) 62 0 = kN σ 62 0 := by rw [en]
      have en1 : kN (wkm σ i t) 62 1 = kN σ 62 1 := by rw [en]
      have en2 : kN (wkm σ i t) 62 2 = kN σ 62 2 := by rw [en]
      have eg : kN (wkm σ i t) 31 t = kN σ 31 t := by rw [en]
      have el : kI (wkm σ i t) 34 = kI σ 34 := by unfold wkm; split <;> rfl
      refine lv_aload_n hx hb dX4_work_37 rfl (lv_at hl 3 rfl) ?_
      refine lv_aload_n hx hb dX4_work_38 rfl (lv_at hl 2 rfl) ?_
      refine m_putN (host := "TaskKernel") (C := RX3) (T := TX3) (N := 16) (v := va_rf (((some i)).map (L 1))) hx hb hts hi_X3 tyX3 tyX3_ok nmX3 hown hK hV hS 13 (p_task13 hC (by first | assumption | (show t < kN (wkm σ i t) 62 2; omega)) (some i) (fun z h9 => by cases h9; exact (show i < kN (wkm σ i t) 62 0 by omega))) rfl (by decide) kn361 (fun _ h9 => h9) rfl (tyX3_ok 13 (by decide)) (rf_narrow _ _) (rf_fits _ _) dX4_work_39 (fun h H locs hV hS hC => ?_)
      refine lv_aload_n hx hb dX4_work_42 rfl (lv_at hl 1 rfl) ?_
      refine lv_dup hx hb dX4_work_43 rfl ?_
      refine m_get (C := RX4) (T := TX4) (N := 11) hx hb hts hi_X4 hown hK hV 9 (v := .int (kI (wkm σ i t) 4 0)) (g_kern9 hC rfl) rfl (by decide) k49 (fun _ h9 => h9) dX4_work_44 ?_
      refine lv_iconst (v := 1) hx hb dX4_work_47 (by decide) ?_
      refine lv_iadd hx hb dX4_work_48 ?_
      refine m_put (C := RX4) (T := TX4) (N := 11) (v := .int ((kI (wkm σ i t) 4 0) + 1)) hx hb hts hi_X4 tyX4 tyX4_ok nmX4 hown hK hV hS 9 (p_kern9 hC rfl ((kI (wkm σ i t) 4 0) + 1)) rfl (by decide) k49 (fun _ h9 => h9) rfl (tyX4_ok 9 (by decide)) rfl rfl dX4_work_49 (fun h H locs hV hS hC => ?_)
      refine lv_iload_n hx hb dX4_work_52 rfl (lv_at hl 0 rfl) ?_
      refine lv_aload_n hx hb dX4_work_53 rfl (lv_at hl 3 rfl) ?_
      refine m_getN (C := RX3) (T := TX3) (N := 16) (host := "TaskKernel") hx hb hts hi_X3 hown hK hV 4 (v := .int (kI (wkm σ i t) 34 t)) (g_task4 hC (by first | assumption | (show t < kN (wkm σ i t) 62 2; omega))) rfl (by decide) kn164 (fun _ h9 => h9) dX4_work_54 ?_
      refine va_mmin hx hb (by rw [hml]; exact hl.1.symm) hown (hts (.methodLink RX4 205 Lib.Math.min.name) (by decide +kernel)) (hts (.static Lib.Math.min.name) (by decide +kernel)) (hts (.initialized "java/lang/Math") (by decide +kernel)) (hts (.code Lib.Math.min.name Lib.Math.min.code 2 (some .int)) (by decide +kernel)) (by decide) (by first | exact Nat.le_of_ble_eq_true rfl | decide | (simp [rf_cat, ct_ref, ct_int, ct_null, ct_long]; done)) (by decide) (by decide) dX4_work_57 ?_
      refine lv_istore_n (lv' := [(3, .int (if (kI (wkm σ i t) 34 t) < (wkv σ i t) then (kI (wkm σ i t) 34 t) else (wkv σ i t))), (0, .ref (L 0 0)), (1, .ref (L 1 i)), (2, .ref (L 3 t))]) hx hb dX4_work_60 rfl hl (by decide) rfl (fun ls hl => ?_)
      have wu : wku σ i t = (if (kI (wkm σ i t) 34 t) < (wkv σ i t) then (kI (wkm σ i t) 34 t) else (wkv σ i t)) := by unfold wku; rw [← el] <;> rfl
      replace hl : lv_has ls 5 [(3, .int (wku σ i t)), (0, .ref (L 0 0)), (1, .ref (L 1 i)), (2, .ref (L 3 t))] := by have h9 := hl; rw [← wu] at h9; exact h9
      refine lv_aload_n hx hb dX4_work_61 rfl (lv_at hl 3 rfl) ?_
      refine lv_dup hx hb dX4_work_62 rfl ?_
      refine m_getN (C := RX3) (T := TX3) (N := 16) (host := "TaskKernel") hx hb hts hi_X3 hown hK hV 4 (v := .int (kI (wkm σ i t) 34 t)) (g_task4 hC (by first | assumption | (show t < kN (wkm σ i t) 62 2; omega))) rfl (by decide) kn164 (fun _ h9 => h9) dX4_work_63 ?_
      refine lv_iload_n hx hb dX4_work_66 rfl (lv_at hl 0 rfl) ?_
      refine lv_isub hx hb dX4_work_67 ?_
      refine m_putN (host := "TaskKernel") (C := RX3) (T := TX3) (N := 16) (v := .int ((kI (wkm σ i t) 34 t) - (wku σ i t))) hx hb hts hi_X3 tyX3 tyX3_ok nmX3 hown hK hV hS 4 (p_task4 hC (by first | assumption | (show t < kN (wkm σ i t) 62 2; omega)) ((kI (wkm σ i t) 34 t) - (wku σ i t))) rfl (by decide) kn164 (fun _ h9 => h9) rfl (tyX3_ok 4 (by decide)) rfl rfl dX4_work_68 (fun h H locs hV hS hC => ?_)
      refine lv_aload_n hx hb dX4_work_71 rfl (lv_at hl 3 rfl) ?_
      refine lv_dup hx hb dX4_work_72 rfl ?_
      refine m_getN (C := RX3) (T := TX3) (N := 16) (host := "TaskKernel") hx hb hts hi_X3 hown hK hV 5 (v := .int (kI (wkm σ i t) 35 t)) (g_task5 hC (by first | assumption | (show t < kN (wkm σ i t) 62 2; omega))) rfl (by decide) kn198 (fun _ h9 => h9) dX4_work_73 ?_
      refine lv_iload_n hx hb dX4_work_76 rfl (lv_at hl 0 rfl) ?_
      refine lv_iadd hx hb dX4_work_77 ?_
      refine m_putN (host := "TaskKernel") (C := RX3) (T := TX3) (N := 16) (v := .int ((kI (wkm σ i t) 35 t) + (wku σ i t))) hx hb hts hi_X3 tyX3 tyX3_ok nmX3 hown hK hV hS 5 (p_task5 hC (by first | assumption | (show t < kN (wkm σ i t) 62 2; omega)) ((kI (wkm σ i t) 35 t) + (wku σ i t))) rfl (by decide) kn198 (fun _ h9 => h9) rfl (tyX3_ok 5 (by decide)) rfl rfl dX4_work_78 (fun h H locs hV hS hC => ?_)
      refine lv_aload_n hx hb dX4_work_81 rfl (lv_at hl 3 rfl) ?_
      refine lv_dup hx hb dX4_work_82 rfl ?_
      refine m_getN (C := RX3) (T := TX3) (N := 16) (host := "TaskKernel") hx hb hts hi_X3 hown hK hV 3 (v := .long (kW (wkm σ i t) 33 t)) (g_task3 hC (by first | assumption | (show t < kN (wkm σ i t) 62 2; omega))) rfl (by decide) kn191 (fun _ h9 => h9) dX4_work_83 ?_
      refine lv_iload_n hx hb dX4_work_86 rfl (lv_at hl 0 rfl) ?_
      refine lv_i2l (v := ((wku σ i t)).toInt64) hx hb dX4_work_87 rfl ?_
      refine lv_aload_n hx hb dX4_work_88 rfl (lv_at hl 3 rfl) ?_
      refine m_getN (C := RX3) (T := TX3) (N := 16) (host := "TaskKernel") hx hb hts hi_X3 hown hK hV 2 (v := .int (kI (wkm σ i t) 32 t)) (g_task2 hC (by first | assumption | (show t < kN (wkm σ i t) 62 2; omega))) rfl (by decide) kn365 (fun _ h9 => h9) dX4_work_89 ?_
      refine lv_i2l (v := ((kI (wkm σ i t) 32 t)).toInt64) hx hb dX4_work_92 rfl ?_
      refine lv_lmul hx hb dX4_work_93 ?_
      refine lv_ladd hx hb dX4_work_94 ?_
      refine m_putN (host := "TaskKernel") (C := RX3) (T := TX3) (N := 16) (v := .long ((kW (wkm σ i t) 33 t) + ((((wku σ i t)).toInt64) * (((kI (wkm σ i t) 32 t)).toInt64)))) hx hb hts hi_X3 tyX3 tyX3_ok nmX3 hown hK hV hS 3 (p_task3 hC (by first | assumption | (show t < kN (wkm σ i t) 62 2; omega)) ((kW (wkm σ i t) 33 t) + ((((wku σ i t)).toInt64) * (((kI (wkm σ i t) 32 t)).toInt64)))) rfl (by decide) kn191 (fun _ h9 => h9) rfl (tyX3_ok 3 (by decide)) rfl rfl dX4_work_95 (fun h H locs hV hS hC => ?_)
      refine lv_aload_n hx hb dX4_work_98 rfl (lv_at hl 3 rfl) ?_
      refine m_getN (C := RX3) (T := TX3) (N := 16) (host := "TaskKernel") hx hb hts hi_X3 hown hK hV 1 (v := .ref (L 2 (kN (wkm σ i t) 31 t))) (g_task1 hC (by first | assumption | (show t < kN (wkm σ i t) 62 2; omega))) rfl (by decide) kn296 (fun _ h9 => h9) dX4_work_99 ?_
      refine lv_astore (lv' := [(4, .ref (L 2 (kN (wkm σ i t) 31 t))), (3, .int (wku σ i t)), (0, .ref (L 0 0)), (1, .ref (L 1 i)), (2, .ref (L 3 t))]) hx hb dX4_work_102 hl (by decide) rfl (fun ls hl => ?_)
      have lp104 : ∀ (fu : Nat) (f : Nat) (o : Option Nat) (τ : KS), (om o ≤ f) → (∀ k, o = some k → k < kN τ 62 1) → (upS (wku σ i t) f o τ = workS σ i t) → om o < fu → ∀ (h : mH) (H : Heap) (locs : List Loc), CRep cs df P h0 L τ h → mV D h (mA hh s.heap.size) H → va_S (mA hh s.heap.size) s.heap H locs → ∀ (ls : Array Slot), lv_has ls 5 [(3, .int (wku σ i t)), (4, va_rf ((o).map (L 2)))] → W p l e ({ frames := 1, cells := 0, slots := 0, locals := 30 } : Room) s m args below meth c H locs 0 0 (MQ below (va_Qv ((fun (h1 : mH) => CRep cs df P h0 L (workS σ i t) h1)) (mB D hh s.heap.size) (mA hh s.heap.size)) args s 0 0 (mA hh s.heap.size)) (F0 m 104 ls []) := by
        intro fu
        induction fu with
        | zero =>
          intro f o τ hm ho hf hfu
          exact absurd hfu (Nat.not_lt_zero _)
        | succ fu ih104 =>
          intro f o τ hm ho hf hfu h H locs hC hV hS ls hl
          refine m_aload_q hx hb dX4_work_104 (lv_at hl 1 rfl) ?_
          refine m_ifnull_q (o := o) (f := L 2) (tgt := 149) hx hb dX4_work_106 (by decide) (fun c106 => ?_) (fun k106 c106 => ?_)
          · replace hl : lv_has ls 5 [(3, .int (wku σ i t)), (4, .null)] := by have h9 := hl; rw [c106] at h9; exact h9
            exact m_vret hx hb hr hlocks hV hS ((by rw [c106, upS_none] at hf; rw [← hf]; exact hC)) dX4_work_149
          · have bk106 := ho k106 c106
            replace hl : lv_has ls 5 [(3, .int (wku σ i t)), (4, .ref (L 2 k106))] := by have h9 := hl; rw [c106] at h9; exact h9
            refine lv_aload hx hb dX4_work_109 (lv_at hl 1 rfl) ?_
            refine lv_dup hx hb dX4_work_111 rfl ?_
            refine m_getN (C := RX1) (T := TX1) (N := 6) (host := "TaskKernel") hx hb hts hi_X1 hown hK hV 4 (v := .int (kI τ 24 k106)) (g_grp4 hC (by first | assumption | (show k106 < kN τ 62 1; omega))) rfl (by decide) kn201 (fun _ h9 => h9) dX4_work_112 ?_
            refine lv_iload_n hx hb dX4_work_115 rfl (lv_at hl 0 rfl) ?_
            refine lv_iadd hx hb dX4_work_116 ?_
            refine m_putN (host := "TaskKernel") (C := RX1) (T := TX1) (N := 6) (v := .int ((kI τ 24 k106) + (wku σ i t))) hx hb hts hi_X1 tyX1 tyX1_ok nmX1 hown hK hV hS 4 (p_grp4 hC (by first | assumption | (show k106 < kN τ 62 1; omega)) ((kI τ 24 k106) + (wku σ i t))) rfl (by decide) kn201 (fun _ h9 => h9) rfl (tyX1_ok 4 (by decide)) rfl rfl dX4_work_117 (fun h H locs hV hS hC => ?_)
            refine lv_aload hx hb dX4_work_120 (lv_at hl 1 rfl) ?_
            refine lv_dup hx hb dX4_work_122 rfl ?_
            refine m_getN (C := RX1) (T := TX1) (N := 6) (host := "TaskKernel") hx hb hts hi_X1 hown hK hV 3 (v := .long (kW τ 23 k106)) (g_grp3 hC (by first | assumption | (show k106 < kN τ 62 1; omega))) rfl (by decide) kn197 (fun _ h9 => h9) dX4_work_123 ?_
            refine lv_iload_n hx hb dX4_work_126 rfl (lv_at hl 0 rfl) ?_
            refine lv_i2l (v := ((wku σ i t)).toInt64) hx hb dX4_work_127 rfl ?_
            refine lv_aload hx hb dX4_work_128 (lv_at hl 1 rfl) ?_
            refine m_getN (C := RX1) (T := TX1) (N := 6) (host := "TaskKernel") hx hb hts hi_X1 hown hK hV 2 (v := .int (kI τ 22 k106)) (g_grp2 hC (by first | assumption | (show k106 < kN τ 62 1; omega))) rfl (by decide) kn368 (fun _ h9 => h9) dX4_work_130 ?_
            refine lv_i2l (v := ((kI τ 22 k106)).toInt64) hx hb dX4_work_133 rfl ?_
            refine lv_lmul hx hb dX4_work_134 ?_
            refine lv_ladd hx hb dX4_work_135 ?_
            refine m_putN (host := "TaskKernel") (C := RX1) (T := TX1) (N := 6) (v := .long ((kW τ 23 k106) + ((((wku σ i t)).toInt64) * (((kI τ 22 k106)).toInt64)))) hx hb hts hi_X1 tyX1 tyX1_ok nmX1 hown hK hV hS 3 (p_grp3 hC (by first | assumption | (show k106 < kN τ 62 1; omega)) ((kW τ 23 k106) + ((((wku σ i t)).toInt64) * (((kI τ 22 k106)).toInt64)))) rfl (by decide) kn197 (fun _ h9 => h9) rfl (tyX1_ok 3 (by decide)) rfl rfl dX4_work_136 (fun h H locs hV hS hC => ?_)
            refine lv_aload hx hb dX4_work_139 (lv_at hl 1 rfl) ?_
            refine m_getN (C := RX1) (T := TX1) (N := 6) (host := "TaskKernel") hx hb hts hi_X1 hown hK hV 1 (v := va_rf ((kO τ 20 k106).map (L 2))) (g_grp1 hC (by first | assumption | (show k106 < kN τ 62 1; omega))) rfl (by decide) kn290 (fun _ h9 => h9) dX4_work_141 ?_
            refine m_astore_q (lv' := [(4, va_rf ((kO τ 20 k106).map (L 2))), (3, .int (wku σ i t))]) hx hb dX4_work_144 hl (by decide) (by first | rfl | simp [rf_cat, ct_ref, ct_int, ct_long]) (fun ls hl => ?_)
            refine lv_goto (tgt := 104) hx hb dX4_work_146 (by decide) ?_
            have y9 : om o = k106 + 1 := by rw [c106]; rfl
            have z9 : om (kO τ 20 k106) ≤ k106 := om_par hC.wf bk106
            obtain ⟨f9, rfl⟩ : ∃ f9, f = f9 + 1 := ⟨f - 1, by omega⟩
            have w9 : upS (wku σ i t) f9 (kO τ 20 k106) (sW (sI τ 24 (va_up (kI τ 24) k106 ((kI τ 24 k106) + (wku σ i t)))) 23 (va_up (kW (sI τ 24 (va_up (kI τ 24) k106 ((kI τ 24 k106) + (wku σ i t)))) 23) k106 ((kW τ 23 k106) + ((((wku σ i t)).toInt64) * (((kI τ 22 k106)).toInt64))))) = workS σ i t := by rw [c106] at hf; exact hf
            have q4 : (va_rf ((kO τ 20 k106).map (L 2)) : Value) = va_rf (((kO τ 20 k106)).map (L 2)) := by simp
            replace hl : lv_has ls 5 [(4, va_rf (((kO τ 20 k106)).map (L 2))), (3, .int (wku σ i t))] := (congrArg (lv_has ls 5) (m_lc q4 (m_lc rfl rfl))).mp hl
            exact ih104 f9 (kO τ 20 k106) (sW (sI τ 24 (va_up (kI τ 24) k106 ((kI τ 24 k106) + (wku σ i t)))) 23 (va_up (kW (sI τ 24 (va_up (kI τ 24) k106 ((kI τ 24 k106) + (wku σ i t)))) 23) k106 ((kW τ 23 k106) + ((((wku σ i t)).toInt64) * (((kI τ 22 k106)).toInt64))))) (by omega) (fun k9 h9 => (wf_par hC.wf bk106 h9).2) w9 (by omega) _ _ _ hC hV hS ls (lv_sub hl [1, 0] rfl)
      have q5 : (sW (sI (sI (sI (sO (wkm σ i t) 43 (va_up (kO (wkm σ i t) 43) t (some i))) 4 (va_up (kI (sO (wkm σ i t) 43 (va_up (kO (wkm σ i t) 43) t (some i))) 4) 0 ((kI (wkm σ i t) 4 0) + 1))) 34 (va_up (kI (sI (sO (wkm σ i t) 43 (va_up (kO (wkm σ i t) 43) t (some i))) 4 (va_up (kI (sO (wkm σ i t) 43 (va_up (kO (wkm σ i t) 43) t (some i))) 4) 0 ((kI (wkm σ i t) 4 0) + 1))) 34) t ((kI (wkm σ i t) 34 t) - (wku σ i t)))) 35 (va_up (kI (sI (sI (sO (wkm σ i t) 43 (va_up (kO (wkm σ i t) 43) t (some i))) 4 (va_up (kI (sO (wkm σ i t) 43 (va_up (kO (wkm σ i t) 43) t (some i))) 4) 0 ((kI (wkm σ i t) 4 0) + 1))) 34 (va_up (kI (sI (sO (wkm σ i t) 43 (va_up (kO (wkm σ i t) 43) t (some i))) 4 (va_up (kI (sO (wkm σ i t) 43 (va_up (kO (wkm σ i t) 43) t (some i))) 4) 0 ((kI (wkm σ i t) 4 0) + 1))) 34) t ((kI (wkm σ i t) 34 t) - (wku σ i t)))) 35) t ((kI (wkm σ i t) 35 t) + (wku σ i t)))) 33 (va_up (kW (sI (sI (sI (sO (wkm σ i t) 43 (va_up (kO (wkm σ i t) 43) t (some i))) 4 (va_up (kI (sO (wkm σ i t) 43 (va_up (kO (wkm σ i t) 43) t (some i))) 4) 0 ((kI (wkm σ i t) 4 0) + 1))) 34 (va_up (kI (sI (sO (wkm σ i t) 43 (va_up (kO (wkm σ i t) 43) t (some i))) 4 (va_up (kI (sO (wkm σ i t) 43 (va_up (kO (wkm σ i t) 43) t (some i))) 4) 0 ((kI (wkm σ i t) 4 0) + 1))) 34) t ((kI (wkm σ i t) 34 t) - (wku σ i t)))) 35 (va_up (kI (sI (sI (sO (wkm σ i t) 43 (va_up (kO (wkm σ i t) 43) t (some i))) 4 (va_up (kI (sO (wkm σ i t) 43 (va_up (kO (wkm σ i t) 43) t (some i))) 4) 0 ((kI (wkm σ i t) 4 0) + 1))) 34 (va_up (kI (sI (sO (wkm σ i t) 43 (va_up (kO (wkm σ i t) 43) t (some i))) 4 (va_up (kI (sO (wkm σ i t) 43 (va_up (kO (wkm σ i t) 43) t (some i))) 4) 0 ((kI (wkm σ i t) 4 0) + 1))) 34) t ((kI (wkm σ i t) 34 t) - (wku σ i t)))) 35) t ((kI (wkm σ i t) 35 t) + (wku σ i t)))) 33) t ((kW (wkm σ i t) 33 t) + ((((wku σ i t)).toInt64) * (((kI (wkm σ i t) 32 t)).toInt64))))) = (wk1 (wkm σ i t) (wku σ i t) i t) := rfl
      rw [q5] at hC
      have q6 : (.ref (L 2 (kN (wkm σ i t) 31 t)) : Value) = va_rf (((some (kN (wkm σ i t) 31 t))).map (L 2)) := rfl
      replace hl : lv_has ls 5 [(4, va_rf (((some (kN (wkm σ i t) 31 t))).map (L 2))), (3, .int (wku σ i t)), (0, .ref (L 0 0)), (1, .ref (L 1 i)), (2, .ref (L 3 t))] := (congrArg (lv_has ls 5) (m_lc q6 (m_lc rfl (m_lc rfl (m_lc rfl (m_lc rfl rfl)))))).mp hl
      exact lp104 ((om (some (kN (wkm σ i t) 31 t))) + 1) 6 (some (kN (wkm σ i t) 31 t)) (wk1 (wkm σ i t) (wku σ i t) i t) (by show kN (wkm σ i t) 31 t + 1 ≤ 6; have z := hC.wf.2.2.2.2.2.1 t (by show t < kN (wkm σ i t) 62 2; omega); have z2 := hC.wf.1; have z3 : kN (wk1 (wkm σ i t) (wku σ i t) i t) 62 1 = kN (wkm σ i t) 62 1 := rfl; have z4 : kN (wk1 (wkm σ i t) (wku σ i t) i t) 31 t = kN (wkm σ i t) 31 t := rfl; omega) (fun k9 h9 => by cases h9; exact hC.wf.2.2.2.2.2.1 t (by show t < kN (wkm σ i t) 62 2; omega)) (by rw [eg]; rfl) (Nat.lt_succ_self _) _ _ _ hC hV hS ls (lv_sub hl [1, 0] rfl)
    · replace c21 : ¬ k13 = i := fun q9 => c21 (by rw [q9])
      refine lv_iinc (v := ((paceS (kI σ 10 i) (kI σ 11 i) (kI σ 0 0)) + (-1))) (lv' := [(3, .int ((paceS (kI σ 10 i) (kI σ 11 i) (kI σ 0 0)) + (-1))), (0, .ref (L 0 0)), (1, .ref (L 1 i)), (2, .ref (L 3 t))]) hx hb dX4_work_24 hl (k := 0) rfl rfl (by decide) rfl (fun ls hl => ?_)
      refine lv_aload_n hx hb dX4_work_27 rfl (lv_at hl 1 rfl) ?_
      refine lv_dup hx hb dX4_work_28 rfl ?_
      refine m_get (C := RX4) (T := TX4) (N := 11) hx hb hts hi_X4 hown hK hV 8 (v := .int (kI σ 3 0)) (g_kern8 hC rfl) rfl (by decide) k46 (fun _ h9 => h9) dX4_work_29 ?_
      refine lv_iconst (v := 1) hx hb dX4_work_32 (by decide) ?_
      refine lv_iadd hx hb dX4_work_33 ?_
      refine m_put (C := RX4) (T := TX4) (N := 11) (v := .int ((kI σ 3 0) + 1)) hx hb hts hi_X4 tyX4 tyX4_ok nmX4 hown hK hV hS 8 (p_kern8 hC rfl ((kI σ 3 0) + 1)) rfl (by decide) k46 (fun _ h9 => h9) rfl (tyX4_ok 8 (by decide)) rfl rfl dX4_work_34 (fun h H locs hV hS hC => ?_)
      have wm : mvS σ i t = true := (by unfold mvS; rw [c13]; exact decide_eq_true c21)
      have wx : wkm σ i t = (sI σ 3 (va_up (kI σ 3) 0 ((kI σ 3 0) + 1))) := by unfold wkm; rw [wm] <;> rfl
      have wv : wkv σ i t = ((paceS (kI σ 10 i) (kI σ 11 i) (kI σ 0 0)) + (-1)) := by unfold wkv; rw [wm] <;> rfl
      rw [← wx] at hC
      replace hl : lv_has ls 5 [(3, .int (wkv σ i t)), (0, .ref (L 0 0)), (1, .ref (L 1 i)), (2, .ref (L 3 t))] := by have h9 := hl; rw [← wv] at h9; exact h9
      have en : kN (wkm σ i t) = kN σ := by unfold wkm; split <;> rfl
      have en0 : kN (wkm σ i t) 62 0 = kN σ 62 0 := by rw [en]
      have en1 : kN (wkm σ i t) 62 1 = kN σ 62 1 := by rw [en]
      have en2 : kN (wkm σ i t) 62 2 = kN σ 62 2 := by rw [en]
      have eg : kN (wkm σ i t) 31 t = kN σ 31 t := by rw [en]
      have el : kI (wkm σ i t) 34 = kI σ 34 := by unfold wkm; split <;> rfl
      refine lv_aload_n hx hb dX4_work_37 rfl (lv_at hl 3 rfl) ?_
      refine lv_aload_n hx hb dX4_work_38 rfl (lv_at hl 2 rfl) ?_
      refine m_putN (host := "TaskKernel") (C := RX3) (T := TX3) (N := 16) (v := va_rf (((some i)).map (L 1))) hx hb hts hi_X3 tyX3 tyX3_ok nmX3 hown hK hV hS 13 (p_task13 hC (by first | assumption | (show t < kN (wkm σ i t) 62 2; omega)) (some i) (fun z h9 => by cases h9; exact (show i < kN (wkm σ i t) 62 0 by omega))) rfl (by decide) kn361 (fun _ h9 => h9) rfl (tyX3_ok 13 (by decide)) (rf_narrow _ _) (rf_fits _ _) dX4_work_39 (fun h H locs hV hS hC => ?_)
      refine lv_aload_n hx hb dX4_work_42 rfl (lv_at hl 1 rfl) ?_
      refine lv_dup hx hb dX4_work_43 rfl ?_
      refine m_get (C := RX4) (T := TX4) (N := 11) hx hb hts hi_X4 hown hK hV 9 (v := .int (kI (wkm σ i t) 4 0)) (g_kern9 hC rfl) rfl (by decide) k49 (fun _ h9 => h9) dX4_work_44 ?_
      refine lv_iconst (v := 1) hx hb dX4_work_47 (by decide) ?_
      refine lv_iadd hx hb dX4_work_48 ?_
      refine m_put (C := RX4) (T := TX4) (N := 11) (v := .int ((kI (wkm σ i t) 4 0) + 1)) hx hb hts hi_X4 tyX4 tyX4_ok nmX4 hown hK hV hS 9 (p_kern9 hC rfl ((kI (wkm σ i t) 4 0) + 1)) rfl (by decide) k49 (fun _ h9 => h9) rfl (tyX4_ok 9 (by decide)) rfl rfl dX4_work_49 (fun h H locs hV hS hC => ?_)
      refine lv_iload_n hx hb dX4_work_52 rfl (lv_at hl 0 rfl) ?_
      refine lv_aload_n hx hb dX4_work_53 rfl (lv_at hl 3 rfl) ?_
      refine m_getN (C := RX3) (T := TX3) (N := 16) (host := "TaskKernel") hx hb hts hi_X3 hown hK hV 4 (v := .int (kI (wkm σ i t) 34 t)) (g_task4 hC (by first | assumption | (show t < kN (wkm σ i t) 62 2; omega))) rfl (by decide) kn164 (fun _ h9 => h9) dX4_work_54 ?_
      refine va_mmin hx hb (by rw [hml]; exact hl.1.symm) hown (hts (.methodLink RX4 205 Lib.Math.min.name) (by decide +kernel)) (hts (.static Lib.Math.min.name) (by decide +kernel)) (hts (.initialized "java/lang/Math") (by decide +kernel)) (hts (.code Lib.Math.min.name Lib.Math.min.code 2 (some .int)) (by decide +kernel)) (by decide) (by first | exact Nat.le_of_ble_eq_true rfl | decide | (simp [rf_cat, ct_ref, ct_int, ct_null, ct_long]; done)) (by decide) (by decide) dX4_work_57 ?_
      refine lv_istore_n (lv' := [(3, .int (if (kI (wkm σ i t) 34 t) < (wkv σ i t) then (kI (wkm σ i t) 34 t) else (wkv σ i t))), (0, .ref (L 0 0)), (1, .ref (L 1 i)), (2, .ref (L 3 t))]) hx hb dX4_work_60 rfl hl (by decide) rfl (fun ls hl => ?_)
      have wu : wku σ i t = (if (kI (wkm σ i t) 34 t) < (wkv σ i t) then (kI (wkm σ i t) 34 t) else (wkv σ i t)) := by unfold wku; rw [← el] <;> rfl
      replace hl : lv_has ls 5 [(3, .int (wku σ i t)), (0, .ref (L 0 0)), (1, .ref (L 1 i)), (2, .ref (L 3 t))] := by have h9 := hl; rw [← wu] at h9; exact h9
      refine lv_aload_n hx hb dX4_work_61 rfl (lv_at hl 3 rfl) ?_
      refine lv_dup hx hb dX4_work_62 rfl ?_
      refine m_getN (C := RX3) (T := TX3) (N := 16) (host := "TaskKernel") hx hb hts hi_X3 hown hK hV 4 (v := .int (kI (wkm σ i t) 34 t)) (g_task4 hC (by first | assumption | (show t < kN (wkm σ i t) 62 2; omega))) rfl (by decide) kn164 (fun _ h9 => h9) dX4_work_63 ?_
      refine lv_iload_n hx hb dX4_work_66 rfl (lv_at hl 0 rfl) ?_
      refine lv_isub hx hb dX4_work_67 ?_
      refine m_putN (host := "TaskKernel") (C := RX3) (T := TX3) (N := 16) (v := .int ((kI (wkm σ i t) 34 t) - (wku σ i t))) hx hb hts hi_X3 tyX3 tyX3_ok nmX3 hown hK hV hS 4 (p_task4 hC (by first | assumption | (show t < kN (wkm σ i t) 62 2; omega)) ((kI (wkm σ i t) 34 t) - (wku σ i t))) rfl (by decide) kn164 (fun _ h9 => h9) rfl (tyX3_ok 4 (by decide)) rfl rfl dX4_work_68 (fun h H locs hV hS hC => ?_)
      refine lv_aload_n hx hb dX4_work_71 rfl (lv_at hl 3 rfl) ?_
      refine lv_dup hx hb dX4_work_72 rfl ?_
      refine m_getN (C := RX3) (T := TX3) (N := 16) (host := "TaskKernel") hx hb hts hi_X3 hown hK hV 5 (v := .int (kI (wkm σ i t) 35 t)) (g_task5 hC (by first | assumption | (show t < kN (wkm σ i t) 62 2; omega))) rfl (by decide) kn198 (fun _ h9 => h9) dX4_work_73 ?_
      refine lv_iload_n hx hb dX4_work_76 rfl (lv_at hl 0 rfl) ?_
      refine lv_iadd hx hb dX4_work_77 ?_
      refine m_putN (host := "TaskKernel") (C := RX3) (T := TX3) (N := 16) (v := .int ((kI (wkm σ i t) 35 t) + (wku σ i t))) hx hb hts hi_X3 tyX3 tyX3_ok nmX3 hown hK hV hS 5 (p_task5 hC (by first | assumption | (show t < kN (wkm σ i t) 62 2; omega)) ((kI (wkm σ i t) 35 t) + (wku σ i t))) rfl (by decide) kn198 (fun _ h9 => h9) rfl (tyX3_ok 5 (by decide)) rfl rfl dX4_work_78 (fun h H locs hV hS hC => ?_)
      refine lv_aload_n hx hb dX4_work_81 rfl (lv_at hl 3 rfl) ?_
      refine lv_dup hx hb dX4_work_82 rfl ?_
      refine m_getN (C := RX3) (T := TX3) (N := 16) (host := "TaskKernel") hx hb hts hi_X3 hown hK hV 3 (v := .long (kW (wkm σ i t) 33 t)) (g_task3 hC (by first | assumption | (show t < kN (wkm σ i t) 62 2; omega))) rfl (by decide) kn191 (fun _ h9 => h9) dX4_work_83 ?_
      refine lv_iload_n hx hb dX4_work_86 rfl (lv_at hl 0 rfl) ?_
      refine lv_i2l (v := ((wku σ i t)).toInt64) hx hb dX4_work_87 rfl ?_
      refine lv_aload_n hx hb dX4_work_88 rfl (lv_at hl 3 rfl) ?_
      refine m_getN (C := RX3) (T := TX3) (N := 16) (host := "TaskKernel") hx hb hts hi_X3 hown hK hV 2 (v := .int (kI (wkm σ i t) 32 t)) (g_task2 hC (by first | assumption | (show t < kN (wkm σ i t) 62 2; omega))) rfl (by decide) kn365 (fun _ h9 => h9) dX4_work_89 ?_
      refine lv_i2l (v := ((kI (wkm σ i t) 32 t)).toInt64) hx hb dX4_work_92 rfl ?_
      refine lv_lmul hx hb dX4_work_93 ?_
      refine lv_ladd hx hb dX4_work_94 ?_
      refine m_putN (host := "TaskKernel") (C := RX3) (T := TX3) (N := 16) (v := .long ((kW (wkm σ i t) 33 t) + ((((wku σ i t)).toInt64) * (((kI (wkm σ i t) 32 t)).toInt64)))) hx hb hts hi_X3 tyX3 tyX3_ok nmX3 hown hK hV hS 3 (p_task3 hC (by first | assumption | (show t < kN (wkm σ i t) 62 2; omega)) ((kW (wkm σ i t) 33 t) + ((((wku σ i t)).toInt64) * (((kI (wkm σ i t) 32 t)).toInt64)))) rfl (by decide) kn191 (fun _ h9 => h9) rfl (tyX3_ok 3 (by decide)) rfl rfl dX4_work_95 (fun h H locs hV hS hC => ?_)
      refine lv_aload_n hx hb dX4_work_98 rfl (lv_at hl 3 rfl) ?_
      refine m_getN (C := RX3) (T := TX3) (N := 16) (host := "TaskKernel") hx hb hts hi_X3 hown hK hV 1 (v := .ref (L 2 (kN (wkm σ i t) 31 t))) (g_task1 hC (by first | assumption | (show t < kN (wkm σ i t) 62 2; omega))) rfl (by decide) kn296 (fun _ h9 => h9) dX4_work_99 ?_
      refine lv_astore (lv' := [(4, .ref (L 2 (kN (wkm σ i t) 31 t))), (3, .int (wku σ i t)), (0, .ref (L 0 0)), (1, .ref (L 1 i)), (2, .ref (L 3 t))]) hx hb dX4_work_102 hl (by decide) rfl (fun ls hl => ?_)
      have lp104 : ∀ (fu : Nat) (f : Nat) (o : Option Nat) (τ : KS), (om o ≤ f) → (∀ k, o = some k → k < kN τ 62 1) → (upS (wku σ i t) f o τ = workS σ i t) → om o < fu → ∀ (h : mH) (H : Heap) (locs : List Loc), CRep cs df P h0 L τ h → mV D h (mA hh s.heap.size) H → va_S (mA hh s.heap.size) s.heap H locs → ∀ (ls : Array Slot), lv_has ls 5 [(3, .int (wku σ i t)), (4, va_rf ((o).map (L 2)))] → W p l e ({ frames := 1, cells := 0, slots := 0, locals := 30 } : Room) s m args below meth c H locs 0 0 (MQ below (va_Qv ((fun (h1 : mH) => CRep cs df P h0 L (workS σ i t) h1)) (mB D hh s.heap.size) (mA hh s.heap.size)) args s 0 0 (mA hh s.heap.size)) (F0 m 104 ls []) := by
        intro fu
        induction fu with
        | zero =>
          intro f o τ hm ho hf hfu
          exact absurd hfu (Nat.not_lt_zero _)
        | succ fu ih104 =>
          intro f o τ hm ho hf hfu h H locs hC hV hS ls hl
          refine m_aload_q hx hb dX4_work_104 (lv_at hl 1 rfl) ?_
          refine m_ifnull_q (o := o) (f := L 2) (tgt := 149) hx hb dX4_work_106 (by decide) (fun c106 => ?_) (fun k106 c106 => ?_)
          · replace hl : lv_has ls 5 [(3, .int (wku σ i t)), (4, .null)] := by have h9 := hl; rw [c106] at h9; exact h9
            exact m_vret hx hb hr hlocks hV hS ((by rw [c106, upS_none] at hf; rw [← hf]; exact hC)) dX4_work_149
          · have bk106 := ho k106 c106
            replace hl : lv_has ls 5 [(3, .int (wku σ i t)), (4, .ref (L 2 k106))] := by have h9 := hl; rw [c106] at h9; exact h9
            refine lv_aload hx hb dX4_work_109 (lv_at hl 1 rfl) ?_
            refine lv_dup hx hb dX4_work_111 rfl ?_
            refine m_getN (C := RX1) (T := TX1) (N := 6) (host := "TaskKernel") hx hb hts hi_X1 hown hK hV 4 (v := .int (kI τ 24 k106)) (g_grp4 hC (by first | assumption | (show k106 < kN τ 62 1; omega))) rfl (by decide) kn201 (fun _ h9 => h9) dX4_work_112 ?_
            refine lv_iload_n hx hb dX4_work_115 rfl (lv_at hl 0 rfl) ?_
            refine lv_iadd hx hb dX4_work_116 ?_
            refine m_putN (host := "TaskKernel") (C := RX1) (T := TX1) (N := 6) (v := .int ((kI τ 24 k106) + (wku σ i t))) hx hb hts hi_X1 tyX1 tyX1_ok nmX1 hown hK hV hS 4 (p_grp4 hC (by first | assumption | (show k106 < kN τ 62 1; omega)) ((kI τ 24 k106) + (wku σ i t))) rfl (by decide) kn201 (fun _ h9 => h9) rfl (tyX1_ok 4 (by decide)) rfl rfl dX4_work_117 (fun h H locs hV hS hC => ?_)
            refine lv_aload hx hb dX4_work_120 (lv_at hl 1 rfl) ?_
            refine lv_dup hx hb dX4_work_122 rfl ?_
            refine m_getN (C := RX1) (T := TX1) (N := 6) (host := "TaskKernel") hx hb hts hi_X1 hown hK hV 3 (v := .long (kW τ 23 k106)) (g_grp3 hC (by first | assumption | (show k106 < kN τ 62 1; omega))) rfl (by decide) kn197 (fun _ h9 => h9) dX4_work_123 ?_
            refine lv_iload_n hx hb dX4_work_126 rfl (lv_at hl 0 rfl) ?_
            refine lv_i2l (v := ((wku σ i t)).toInt64) hx hb dX4_work_127 rfl ?_
            refine lv_aload hx hb dX4_work_128 (lv_at hl 1 rfl) ?_
            refine m_getN (C := RX1) (T := TX1) (N := 6) (host := "TaskKernel") hx hb hts hi_X1 hown hK hV 2 (v := .int (kI τ 22 k106)) (g_grp2 hC (by first | assumption | (show k106 < kN τ 62 1; omega))) rfl (by decide) kn368 (fun _ h9 => h9) dX4_work_130 ?_
            refine lv_i2l (v := ((kI τ 22 k106)).toInt64) hx hb dX4_work_133 rfl ?_
            refine lv_lmul hx hb dX4_work_134 ?_
            refine lv_ladd hx hb dX4_work_135 ?_
            refine m_putN (host := "TaskKernel") (C := RX1) (T := TX1) (N := 6) (v := .long ((kW τ 23 k106) + ((((wku σ i t)).toInt64) * (((kI τ 22 k106)).toInt64)))) hx hb hts hi_X1 tyX1 tyX1_ok nmX1 hown hK hV hS 3 (p_grp3 hC (by first | assumption | (show k106 < kN τ 62 1; omega)) ((kW τ 23 k106) + ((((wku σ i t)).toInt64) * (((kI τ 22 k106)).toInt64)))) rfl (by decide) kn197 (fun _ h9 => h9) rfl (tyX1_ok 3 (by decide)) rfl rfl dX4_work_136 (fun h H locs hV hS hC => ?_)
            refine lv_aload hx hb dX4_work_139 (lv_at hl 1 rfl) ?_
            refine m_getN (C := RX1) (T := TX1) (N := 6) (host := "TaskKernel") hx hb hts hi_X1 hown hK hV 1 (v := va_rf ((kO τ 20 k106).map (L 2))) (g_grp1 hC (by first | assumption | (show k106 < kN τ 62 1; omega))) rfl (by decide) kn290 (fun _ h9 => h9) dX4_work_141 ?_
            refine m_astore_q (lv' := [(4, va_rf ((kO τ 20 k106).map (L 2))), (3, .int (wku σ i t))]) hx hb dX4_work_144 hl (by decide) (by first | rfl | simp [rf_cat, ct_ref, ct_int, ct_long]) (fun ls hl => ?_)
            refine lv_goto (tgt := 104) hx hb dX4_work_146 (by decide) ?_
            have y9 : om o = k106 + 1 := by rw [c106]; rfl
            have z9 : om (kO τ 20 k106) ≤ k106 := om_par hC.wf bk106
            obtain ⟨f9, rfl⟩ : ∃ f9, f = f9 + 1 := ⟨f - 1, by omega⟩
            have w9 : upS (wku σ i t) f9 (kO τ 20 k106) (sW (sI τ 24 (va_up (kI τ 24) k106 ((kI τ 24 k106) + (wku σ i t)))) 23 (va_up (kW (sI τ 24 (va_up (kI τ 24) k106 ((kI τ 24 k106) + (wku σ i t)))) 23) k106 ((kW τ 23 k106) + ((((wku σ i t)).toInt64) * (((kI τ 22 k106)).toInt64))))) = workS σ i t := by rw [c106] at hf; exact hf
            have q7 : (va_rf ((kO τ 20 k106).map (L 2)) : Value) = va_rf (((kO τ 20 k106)).map (L 2)) := by simp
            replace hl : lv_has ls 5 [(4, va_rf (((kO τ 20 k106)).map (L 2))), (3, .int (wku σ i t))] := (congrArg (lv_has ls 5) (m_lc q7 (m_lc rfl rfl))).mp hl
            exact ih104 f9 (kO τ 20 k106) (sW (sI τ 24 (va_up (kI τ 24) k106 ((kI τ 24 k106) + (wku σ i t)))) 23 (va_up (kW (sI τ 24 (va_up (kI τ 24) k106 ((kI τ 24 k106) + (wku σ i t)))) 23) k106 ((kW τ 23 k106) + ((((wku σ i t)).toInt64) * (((kI τ 22 k106)).toInt64))))) (by omega) (fun k9 h9 => (wf_par hC.wf bk106 h9).2) w9 (by omega) _ _ _ hC hV hS ls (lv_sub hl [1, 0] rfl)
      have q8 : (sW (sI (sI (sI (sO (wkm σ i t) 43 (va_up (kO (wkm σ i t) 43) t (some i))) 4 (va_up (kI (sO (wkm σ i t) 43 (va_up (kO (wkm σ i t) 43) t (some i))) 4) 0 ((kI (wkm σ i t) 4 0) + 1))) 34 (va_up (kI (sI (sO (wkm σ i t) 43 (va_up (kO (wkm σ i t) 43) t (some i))) 4 (va_up (kI (sO (wkm σ i t) 43 (va_up (kO (wkm σ i t) 43) t (some i))) 4) 0 ((kI (wkm σ i t) 4 0) + 1))) 34) t ((kI (wkm σ i t) 34 t) - (wku σ i t)))) 35 (va_up (kI (sI (sI (sO (wkm σ i t) 43 (va_up (kO (wkm σ i t) 43) t (some i))) 4 (va_up (kI (sO (wkm σ i t) 43 (va_up (kO (wkm σ i t) 43) t (some i))) 4) 0 ((kI (wkm σ i t) 4 0) + 1))) 34 (va_up (kI (sI (sO (wkm σ i t) 43 (va_up (kO (wkm σ i t) 43) t (some i))) 4 (va_up (kI (sO (wkm σ i t) 43 (va_up (kO (wkm σ i t) 43) t (some i))) 4) 0 ((kI (wkm σ i t) 4 0) + 1))) 34) t ((kI (wkm σ i t) 34 t) - (wku σ i t)))) 35) t ((kI (wkm σ i t) 35 t) + (wku σ i t)))) 33 (va_up (kW (sI (sI (sI (sO (wkm σ i t) 43 (va_up (kO (wkm σ i t) 43) t (some i))) 4 (va_up (kI (sO (wkm σ i t) 43 (va_up (kO (wkm σ i t) 43) t (some i))) 4) 0 ((kI (wkm σ i t) 4 0) + 1))) 34 (va_up (kI (sI (sO (wkm σ i t) 43 (va_up (kO (wkm σ i t) 43) t (some i))) 4 (va_up (kI (sO (wkm σ i t) 43 (va_up (kO (wkm σ i t) 43) t (some i))) 4) 0 ((kI (wkm σ i t) 4 0) + 1))) 34) t ((kI (wkm σ i t) 34 t) - (wku σ i t)))) 35 (va_up (kI (sI (sI (sO (wkm σ i t) 43 (va_up (kO (wkm σ i t) 43) t (some i))) 4 (va_up (kI (sO (wkm σ i t) 43 (va_up (kO (wkm σ i t) 43) t (some i))) 4) 0 ((kI (wkm σ i t) 4 0) + 1))) 34 (va_up (kI (sI (sO (wkm σ i t) 43 (va_up (kO (wkm σ i t) 43) t (some i))) 4 (va_up (kI (sO (wkm σ i t) 43 (va_up (kO (wkm σ i t) 43) t (some i))) 4) 0 ((kI (wkm σ i t) 4 0) + 1))) 34) t ((kI (wkm σ i t) 34 t) - (wku σ i t)))) 35) t ((kI (wkm σ i t) 35 t) + (wku σ i t)))) 33) t ((kW (wkm σ i t) 33 t) + ((((wku σ i t)).toInt64) * (((kI (wkm σ i t) 32 t)).toInt64))))) = (wk1 (wkm σ i t) (wku σ i t) i t) := rfl
      rw [q8] at hC
      have q9 : (.ref (L 2 (kN (wkm σ i t) 31 t)) : Value) = va_rf (((some (kN (wkm σ i t) 31 t))).map (L 2)) := rfl
      replace hl : lv_has ls 5 [(4, va_rf (((some (kN (wkm σ i t) 31 t))).map (L 2))), (3, .int (wku σ i t)), (0, .ref (L 0 0)), (1, .ref (L 1 i)), (2, .ref (L 3 t))] := (congrArg (lv_has ls 5) (m_lc q9 (m_lc rfl (m_lc rfl (m_lc rfl (m_lc rfl rfl)))))).mp hl
      exact lp104 ((om (some (kN (wkm σ i t) 31 t))) + 1) 6 (some (kN (wkm σ i t) 31 t)) (wk1 (wkm σ i t) (wku σ i t) i t) (by show kN (wkm σ i t) 31 t + 1 ≤ 6; have z := hC.wf.2.2.2.2.2.1 t (by show t < kN (wkm σ i t) 62 2; omega); have z2 := hC.wf.1; have z3 : kN (wk1 (wkm σ i t) (wku σ i t) i t) 62 1 = kN (wkm σ i t) 62 1 := rfl; have z4 : kN (wk1 (wkm σ i t) (wku σ i t) i t) 31 t = kN (wkm σ i t) 31 t := rfl; omega) (fun k9 h9 => by cases h9; exact hC.wf.2.2.2.2.2.1 t (by show t < kN (wkm σ i t) 62 2; omega)) (by rw [eg]; rfl) (Nat.lt_succ_self _) _ _ _ hC hV hS ls (lv_sub hl [1, 0] rfl)
