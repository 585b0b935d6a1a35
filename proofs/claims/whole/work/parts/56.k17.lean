set_option maxHeartbeats 4000000 in
set_option maxRecDepth 100000 in
theorem c_X4_addCore {l : Launch} (hfl : l.stackTraces = false) {D : va_G} {cs : mC} {df : Nat} {P : Nat → Prop} {h0 : mH} {L : KL} {σ : KS} {hh : mH} (sz : Nat) (hC : CRep cs df P h0 L σ hh) (x0 : Int32) : vx_Met l yX4_addCore wsX4_addCore ({ frames := 7, cells := 2, slots := 203, locals := 191 }) (mPre [.ref (L 0 0), .int x0] D cs df hh sz) (va_Qi ((fun (r : Int32) (h1 : mH) => (1 ≤ x0 ∧ x0 ≤ 4) ∧ kN σ 62 0 < 3 ∧ (∃ L1 : KL, L1 0 0 = L 0 0 ∧ CRep cs df P h0 L1 (coreS σ x0) h1) ∧ r = nI (kN σ 62 0))) (mB D hh sz) (mA hh sz)) (mX D hh sz (fun E h1 => h1 = hh ∧ (E = "java/lang/IllegalArgumentException" ∧ (x0 < 1 ∨ 4 < x0) ∨ E = "java/lang/IllegalStateException" ∧ ¬ (x0 < 1 ∨ 4 < x0) ∧ ¬ kN σ 62 0 < 3))) 2 203 (mA hh sz) := by
  refine vx_ofW (cc := cX4_addCore) (maxL := 3) (ret := (some .int)) (by decide) rfl ?_
  intro p e s m args below meth c s₁ B0 hml hnx hv
  obtain ⟨hargs, hsz, hV, hE⟩ := hv
  subst hsz
  have hx := B0.exec
  have hb := B0.bytes
  have hr := B0.returns
  have hlocks := B0.notSynchronized
  have hts := atoms_spec (ws := wsX4_addCore) B0.pre
  have hown : s.vm.findClass RX4 = some m.cls := findClass_of_methodNamed B0.named
  have hK := hE.1.1
  have hA : ∀ q : Nat, s.heap.size ≤ q → mA hh s.heap.size q := mA.top
  have hS : va_S (mA hh s.heap.size) s.heap s.heap [] := va_S.rf
  have kc62 : (Cond.classLink RX4 62 "java/lang/IllegalArgumentException").before args s = true := hts _ (by decide +kernel)
  have hi_X4 : ∀ w ∈ u_ws RX4 TX4 11, w ∈ wsX4_addCore := by decide +kernel
  have k12 : (Cond.fieldLink RX4 12 "TaskKernel" "cores" "Ljava/util/ArrayList;").before args s = true := hts _ (by decide +kernel)
  have kc78 : (Cond.classLink RX4 78 "TaskKernel$Core").before args s = true := hts _ (by decide +kernel)
  have hi_X0 : ∀ w ∈ u_ws RX0 TX0 3, w ∈ wsX4_addCore := by decide +kernel
  have kq80 : va_Nw (.methodLinkNest RX4 80 yX0_init "TaskKernel") s := hE.1.2.2.1 _ (List.mem_of_getElem? (i := 6) rfl)
  have kc73 : (Cond.classLink RX4 73 "java/lang/IllegalStateException").before args s = true := hts _ (by decide +kernel)
  have hl := lv_entry ([.ref (L 0 0), .int x0]) (n := 3) (by first | exact Nat.le_of_ble_eq_true rfl | simp [lg_sl, rf_cat, ct_ref, ct_int, ct_null, ct_long])
  have hent := lg_entry_eq m ([.ref (L 0 0), .int x0]) 3
  rw [← hargs] at hent
  rw [hent]
  generalize (lg_sl ([.ref (L 0 0), .int x0]) ++ List.replicate (3 - (lg_sl ([.ref (L 0 0), .int x0])).length) Slot.unset).toArray = ls at hl ⊢
  replace hl : lv_has ls 3 [(0, .ref (L 0 0)), (1, .int x0)] := hl
  have hwf := hC.wf
  obtain ⟨⟨z0, z1, z2, z3, z4⟩, z5, z6, z7, z8, z9, z10, z11, z12⟩ := hwf
  refine lv_iload_n hx hb dX4_addCore_0 rfl (lv_at hl 1 rfl) ?_
  refine lv_iconst (v := 1) hx hb dX4_addCore_1 (by decide) ?_
  refine lv_icmp_lt (tgt := 10) hx hb dX4_addCore_2 (by decide) (fun c2 => ?_) (fun c2 => ?_)
  · exact m_throw hx hb hfl (own := RX4) (cls := "java/lang/IllegalArgumentException") (text := "the speed is out of range") (names := ["java/lang/RuntimeException", "java/lang/Exception"]) (ik := 62) (is := 64) (ic := 66) hown (by decide) (by decide) kc62 (hts _ (by decide +kernel)) (hE.1.2.2.2.1 _ (List.mem_of_getElem? (i := 1) rfl)) (m_hat hE (by decide +kernel) hts) (by decide +kernel) hE hV hS (by rw [hml]; exact hl.1) dX4_addCore_10 dX4_addCore_13 dX4_addCore_14 dX4_addCore_16 dX4_addCore_19 hnx (by decide) (by decide) (by decide) (by decide) hlocks (⟨rfl, Or.inl ⟨rfl, Or.inl c2⟩⟩) (by decide) (by decide)
  · refine lv_iload_n hx hb dX4_addCore_5 rfl (lv_at hl 1 rfl) ?_
    refine lv_iconst (v := 4) hx hb dX4_addCore_6 (by decide) ?_
    refine lv_icmp_le (tgt := 20) hx hb dX4_addCore_7 (by decide) (fun c7 => ?_) (fun c7 => ?_)
    · refine lv_aload_n hx hb dX4_addCore_20 rfl (lv_at hl 0 rfl) ?_
      refine m_get (C := RX4) (T := TX4) (N := 11) hx hb hts hi_X4 hown hK hV 0 (v := .ref (L 5 0)) (g_kern0 hC rfl) rfl (by decide) k12 (fun _ h9 => h9) dX4_addCore_21 ?_
      refine m_calli (va_runV (As := []) (rest := []) ⟨hx, hb, hml, hown, hts⟩ (l_size (s.heap.size) hC 0 (by decide)) (cwV 0 hts gX4_addCore_Jx4a65c_size_8abf5 rfl rfl rfl (by decide +kernel) ⟨by decide, by decide⟩) (m_preV (r := (RJx4a65c, TJx4a65c, 3)) hE hV hS hA (CRep.atL hC (j := 0) (by decide)) rfl) rfl rfl hl.1 rfl (lv_room (by first | exact Nat.le_of_ble_eq_true rfl | simp [rf_cat, ct_ref, ct_int, ct_null, ct_long])) dX4_addCore_24 ⟨by decide, by decide⟩) hV hS hA (fun r h1 H locs hV hS hp _ => ?_)
      obtain ⟨e1, e2⟩ := hp
      subst e2
      rw [e1] at hV; clear e1
      refine lv_istore_n (lv' := [(2, .int (nI (kN σ 62 0))), (0, .ref (L 0 0)), (1, .int x0)]) hx hb dX4_addCore_27 rfl hl (by decide) rfl (fun ls hl => ?_)
      refine lv_iload_n hx hb dX4_addCore_28 rfl (lv_at hl 0 rfl) ?_
      refine lv_iconst (v := 3) hx hb dX4_addCore_29 (by decide) ?_
      refine lv_icmp_lt (tgt := 43) hx hb dX4_addCore_30 (by decide) (fun c30 => ?_) (fun c30 => ?_)
      · replace c30 : kN σ 62 0 < 3 := (nI_ltI (a := kN σ 62 0) (b := 3) (by omega) (by omega)).mp c30
        refine lv_aload_n hx hb dX4_addCore_43 rfl (lv_at hl 1 rfl) ?_
        refine m_get (C := RX4) (T := TX4) (N := 11) hx hb hts hi_X4 hown hK hV 0 (v := .ref (L 5 0)) (g_kern0 hC rfl) rfl (by decide) k12 (fun _ h9 => h9) dX4_addCore_44 ?_
        refine m_newo (ci := 3) (fs := [.int 0, .int 0, .null]) (C := RX0) (T := TX0) (N := 3) hx hb hts hi_X0 tyX0 tyX0_ok hown kc78 (hts (.instantiable RX0 3) (by decide +kernel)) (hts (.initialized RX0) (by decide +kernel)) hK hV hS hA rfl (fun j hj => match j, hj with | 0, _ => rfl | 1, _ => rfl | 2, _ => rfl | n + 3, h9 => absurd h9 (by omega)) (by decide) (by decide) dX4_addCore_47 (fun q47 H eq47 hV hS => ?_)
        have hC0 := hC
        replace hC := hC0.fresh eq47 (.inr (3, [.int 0, .int 0, .null]))
        refine lv_dup hx hb dX4_addCore_50 rfl ?_
        refine lv_iload_n hx hb dX4_addCore_51 rfl (lv_at hl 2 rfl) ?_
        refine m_callv (va_runIN (As := [.int x0]) (rest := [.ref q47, .ref (L 5 0)]) ⟨hx, hb, hml, hown, hts⟩ (c_X0_init (l := l) (D := D) (cs := cs) (df := df) (hh := (mu hh q47 (.inr (3, [.int 0, .int 0, .null])))) (H.size) q47 x0 (mu_s _ _ _)) ⟨va_cnB 1 hts gX4_addCore_X0_init_n80 rfl rfl rfl kq80 (hts (.initialized RX0) (by decide +kernel)) (by decide +kernel) ⟨by decide, by decide⟩, rfl, hts (.instanceMethod yX0_init) (by decide +kernel)⟩ (m_preS hE hV hS hA) rfl rfl hl.1 rfl (lv_room (by first | exact Nat.le_of_ble_eq_true rfl | simp [rf_cat, ct_ref, ct_int, ct_null, ct_long])) dX4_addCore_52 ⟨by decide, by decide⟩) hV hS hA (fun h1 H locs hV hS hp _ => ?_)
        rw [hp] at hV; clear hp
        rw [m_mm] at hV
        replace hC := hC0.fresh eq47 (.inr (3, [.int x0, .int 0, .null]))
        refine m_calli (va_runV (As := [.ref q47]) (rest := []) ⟨hx, hb, hml, hown, hts⟩ (l_addC (H.size) hC0 x0 q47 eq47 (by omega)) (cwV 1 hts gX4_addCore_Jx4a65c_add_9ea2d rfl rfl rfl (by decide +kernel) ⟨by decide, by decide⟩) (m_preV (r := (RJx4a65c, TJx4a65c, 3)) hE hV hS hA (CRep.atL hC (j := 0) (by decide)) rfl) rfl rfl hl.1 rfl (lv_room (by first | exact Nat.le_of_ble_eq_true rfl | simp [rf_cat, ct_ref, ct_int, ct_null, ct_long])) dX4_addCore_55 ⟨by decide, by decide⟩) hV hS hA (fun r h1 H locs hV hS hp _ => ?_)
        obtain ⟨hC, e2⟩ := hp
        subst e2
        refine lv_pop hx hb dX4_addCore_58 rfl ?_
        refine lv_iload_n hx hb dX4_addCore_59 rfl (lv_at hl 0 rfl) ?_
        exact vx_ret (m_iret (v := nI (kN σ 62 0)) hx hb hr hlocks hV hS (⟨⟨Int32.not_lt.mp c2, c7⟩, c30, ⟨_, Lnew_k L (by decide), hC⟩, rfl⟩) dX4_addCore_60)
      · replace c30 : ¬ kN σ 62 0 < 3 := fun q9 => c30 ((nI_ltI (a := kN σ 62 0) (b := 3) (by omega) (by omega)).mpr q9)
        exact m_throw hx hb hfl (own := RX4) (cls := "java/lang/IllegalStateException") (text := "there are as many cores as there may be") (names := ["java/lang/RuntimeException", "java/lang/Exception"]) (ik := 73) (is := 75) (ic := 77) hown (by decide) (by decide) kc73 (hts _ (by decide +kernel)) (hE.1.2.2.2.1 _ (List.mem_of_getElem? (i := 2) rfl)) (m_hat hE (by decide +kernel) hts) (by decide +kernel) hE hV hS (by rw [hml]; exact hl.1) dX4_addCore_33 dX4_addCore_36 dX4_addCore_37 dX4_addCore_39 dX4_addCore_42 hnx (by decide) (by decide) (by decide) (by decide) hlocks (⟨rfl, Or.inr ⟨rfl, fun z => z.elim c2 (Int32.not_lt.mpr c7), c30⟩⟩) (by decide) (by decide)
    · exact m_throw hx hb hfl (own := RX4) (cls := "java/lang/IllegalArgumentException") (text := "the speed is out of range") (names := ["java/lang/RuntimeException", "java/lang/Exception"]) (ik := 62) (is := 64) (ic := 66) hown (by decide) (by decide) kc62 (hts _ (by decide +kernel)) (hE.1.2.2.2.1 _ (List.mem_of_getElem? (i := 1) rfl)) (m_hat hE (by decide +kernel) hts) (by decide +kernel) hE hV hS (by rw [hml]; exact hl.1) dX4_addCore_10 dX4_addCore_13 dX4_addCore_14 dX4_addCore_16 dX4_addCore_19 hnx (by decide) (by decide) (by decide) (by decide) hlocks (⟨rfl, Or.inl ⟨rfl, Or.inr (Int32.not_le.mp c7)⟩⟩) (by decide) (by decide)
set_option maxHeartbeats 4000000 in
set_option maxRecDepth 100000 in
theorem c_X4_addGroup {l : Launch} (hfl : l.stackTraces = false) {D : va_G} {cs : mC} {df : Nat} {P : Nat → Prop} {h0 : mH} {L : KL} {σ : KS} {hh : mH} (sz : Nat) (hC : CRep cs df P h0 L σ hh) (x0 : Int32) (x1 : Int32) : vx_Met l yX4_addGroup wsX4_addGroup ({ frames := 7, cells := 2, slots := 206, locals := 191 }) (mPre [.ref (L 0 0), .int x0, .int x1] D cs df hh sz) (va_Qi ((fun (r : Int32) (h1 : mH) => ∃ g, inR x0 (kN σ 62 1) = some g ∧ (1 ≤ x1 ∧ x1 ≤ 9) ∧ kN σ 62 1 < 6 ∧ (∃ L1 : KL, L1 0 0 = L 0 0 ∧ CRep cs df P h0 L1 (grpS σ g (2520 / x1) (leastS σ g)) h1) ∧ r = nI (kN σ 62 1))) (mB D hh sz) (mA hh sz)) (mX D hh sz (fun E h1 => h1 = hh ∧ (E = "java/lang/IndexOutOfBoundsException" ∧ inR x0 (kN σ 62 1) = none ∨ E = "java/lang/IllegalArgumentException" ∧ inR x0 (kN σ 62 1) ≠ none ∧ (x1 < 1 ∨ 9 < x1) ∨ E = "java/lang/IllegalStateException" ∧ inR x0 (kN σ 62 1) ≠ none ∧ ¬ (x1 < 1 ∨ 9 < x1) ∧ ¬ kN σ 62 1 < 6))) 2 206 (mA hh sz) := by
  refine vx_ofW (cc := cX4_addGroup) (maxL := 5) (ret := (some .int)) (by decide) rfl ?_
  intro p e s m args below meth c s₁ B0 hml hnx hv
  obtain ⟨hargs, hsz, hV, hE⟩ := hv
  subst hsz
  have hx := B0.exec
  have hb := B0.bytes
  have hr := B0.returns
  have hlocks := B0.notSynchronized
  have hts := atoms_spec (ws := wsX4_addGroup) B0.pre
  have hown : s.vm.findClass RX4 = some m.cls := findClass_of_methodNamed B0.named
  have hK := hE.1.1
  have hA : ∀ q : Nat, s.heap.size ≤ q → mA hh s.heap.size q := mA.top
  have hS : va_S (mA hh s.heap.size) s.heap s.heap [] := va_S.rf
  have kc62 : (Cond.classLink RX4 62 "java/lang/IllegalArgumentException").before args s = true := hts _ (by decide +kernel)
  have hi_X4 : ∀ w ∈ u_ws RX4 TX4 11, w ∈ wsX4_addGroup := by decide +kernel
  have k18 : (Cond.fieldLink RX4 18 "TaskKernel" "groups" "Ljava/util/ArrayList;").before args s = true := hts _ (by decide +kernel)
  have kc27 : (Cond.classLink RX4 27 "TaskKernel$Group").before args s = true := hts _ (by decide +kernel)
  have hi_X1 : ∀ w ∈ u_ws RX1 TX1 6, w ∈ wsX4_addGroup := by decide +kernel
  have kq29 : va_Nw (.methodLinkNest RX4 29 yX1_init "TaskKernel") s := hE.1.2.2.1 _ (List.mem_of_getElem? (i := 3) rfl)
  have kc73 : (Cond.classLink RX4 73 "java/lang/IllegalStateException").before args s = true := hts _ (by decide +kernel)
  have kc91 : (Cond.classLink RX4 91 "java/lang/IndexOutOfBoundsException").before args s = true := hts _ (by decide +kernel)
  have hl := lv_entry ([.ref (L 0 0), .int x0, .int x1]) (n := 5) (by first | exact Nat.le_of_ble_eq_true rfl | simp [lg_sl, rf_cat, ct_ref, ct_int, ct_null, ct_long])
  have hent := lg_entry_eq m ([.ref (L 0 0), .int x0, .int x1]) 5
  rw [← hargs] at hent
  rw [hent]
  generalize (lg_sl ([.ref (L 0 0), .int x0, .int x1]) ++ List.replicate (5 - (lg_sl ([.ref (L 0 0), .int x0, .int x1])).length) Slot.unset).toArray = ls at hl ⊢
  replace hl : lv_has ls 5 [(0, .ref (L 0 0)), (1, .int x0), (2, .int x1)] := hl
  have hwf := hC.wf
  obtain ⟨⟨z0, z1, z2, z3, z4⟩, z5, z6, z7, z8, z9, z10, z11, z12⟩ := hwf
  refine lv_aload_n hx hb dX4_addGroup_0 rfl (lv_at hl 0 rfl) ?_
  refine lv_iload_n hx hb dX4_addGroup_1 rfl (lv_at hl 1 rfl) ?_
  refine m_callq (va_runV (As := [.int x0]) (rest := []) ⟨hx, hb, hml, hown, hts⟩ (c_X4_groupAt (l := l) (s.heap.size) hC x0) (cwV 1 hts gX4_addGroup_X4_groupAt rfl rfl rfl (by decide +kernel) ⟨by decide, by decide⟩) (m_preV (r := (RX4, TX4, 11)) hE hV hS hA (hC.at (k := 0) (i := 0) rfl) rfl) rfl rfl hl.1 rfl (lv_room (by first | exact Nat.le_of_ble_eq_true rfl | simp [rf_cat, ct_ref, ct_int, ct_null, ct_long])) dX4_addGroup_2 ⟨by decide, by decide⟩) hV hS hA (fun r h1 H locs hV hS hp _ => ?_)
  obtain ⟨e1, e2⟩ := hp
  subst e2
  rw [e1] at hV; clear e1
  refine m_astore_nq (i := 3) (lv' := [(3, va_rf (((inR x0 (kN σ 62 1))).map (L 2))), (0, .ref (L 0 0)), (1, .int x0), (2, .int x1)]) hx hb dX4_addGroup_5 rfl hl (by decide) (by first | rfl | simp [rf_cat, ct_ref, ct_int, ct_long]) (fun ls hl => ?_)
  refine m_aload_nq hx hb dX4_addGroup_6 rfl (lv_at hl 0 rfl) ?_
  refine m_ifnonnull_q (o := (inR x0 (kN σ 62 1))) (f := L 2) (tgt := 20) hx hb dX4_addGroup_7 (by decide) (fun k7 c7 => ?_) (fun c7 => ?_)
  · have bk7 := (inR_some c7).2
    replace hl : lv_has ls 5 [(3, .ref (L 2 k7)), (0, .ref (L 0 0)), (1, .int x0), (2, .int x1)] := by have h9 := hl; rw [c7] at h9; exact h9
    refine lv_iload_n hx hb dX4_addGroup_20 rfl (lv_at hl 3 rfl) ?_
    refine lv_iconst (v := 1) hx hb dX4_addGroup_21 (by decide) ?_
    refine lv_icmp_lt (tgt := 31) hx hb dX4_addGroup_22 (by decide) (fun c22 => ?_) (fun c22 => ?_)
    · exact m_throw hx hb hfl (own := RX4) (cls := "java/lang/IllegalArgumentException") (text := "the weight is out of range") (names := ["java/lang/RuntimeException", "java/lang/Exception"]) (ik := 62) (is := 109) (ic := 66) hown (by decide) (by decide) kc62 (hts _ (by decide +kernel)) (hE.1.2.2.2.1 _ (List.mem_of_getElem? (i := 6) rfl)) (m_hat hE (by decide +kernel) hts) (by decide +kernel) hE hV hS (by rw [hml]; exact hl.1) dX4_addGroup_31 dX4_addGroup_34 dX4_addGroup_35 dX4_addGroup_37 dX4_addGroup_40 hnx (by decide) (by decide) (by decide) (by decide) hlocks (⟨rfl, Or.inr (Or.inl ⟨rfl, by rw [c7]; simp, Or.inl c22⟩)⟩) (by decide) (by decide)
    · refine lv_iload_n hx hb dX4_addGroup_25 rfl (lv_at hl 3 rfl) ?_
      refine lv_bipush (v := 9) hx hb dX4_addGroup_26 (by decide) ?_
      refine lv_icmp_le (tgt := 41) hx hb dX4_addGroup_28 (by decide) (fun c28 => ?_) (fun c28 => ?_)
      · refine lv_aload_n hx hb dX4_addGroup_41 rfl (lv_at hl 1 rfl) ?_
        refine m_get (C := RX4) (T := TX4) (N := 11) hx hb hts hi_X4 hown hK hV 1 (v := .ref (L 5 1)) (g_kern1 hC rfl) rfl (by decide) k18 (fun _ h9 => h9) dX4_addGroup_42 ?_
        refine m_calli (va_runV (As := []) (rest := []) ⟨hx, hb, hml, hown, hts⟩ (l_size (H.size) hC 1 (by decide)) (cwV 0 hts gX4_addGroup_Jx4a65c_size_8abf5 rfl rfl rfl (by decide +kernel) ⟨by decide, by decide⟩) (m_preV (r := (RJx4a65c, TJx4a65c, 3)) hE hV hS hA (CRep.atL hC (j := 1) (by decide)) rfl) rfl rfl hl.1 rfl (lv_room (by first | exact Nat.le_of_ble_eq_true rfl | simp [rf_cat, ct_ref, ct_int, ct_null, ct_long])) dX4_addGroup_45 ⟨by decide, by decide⟩) hV hS hA (fun r h1 H locs hV hS hp _ => ?_)
        obtain ⟨e1, e2⟩ := hp
        subst e2
        rw [e1] at hV; clear e1
        refine lv_istore (lv' := [(4, .int (nI (kN σ 62 1))), (3, .ref (L 2 k7)), (0, .ref (L 0 0)), (1, .int x0), (2, .int x1)]) hx hb dX4_addGroup_48 hl (by decide) rfl (fun ls hl => ?_)
        refine lv_iload hx hb dX4_addGroup_50 (lv_at hl 0 rfl) ?_
        refine lv_bipush (v := 6) hx hb dX4_addGroup_52 (by decide) ?_
        refine lv_icmp_lt (tgt := 67) hx hb dX4_addGroup_54 (by decide) (fun c54 => ?_) (fun c54 => ?_)
        · replace c54 : kN σ 62 1 < 6 := (nI_ltI (a := kN σ 62 1) (b := 6) (by omega) (by omega)).mp c54
          refine lv_aload_n hx hb dX4_addGroup_67 rfl (lv_at hl 2 rfl) ?_
          refine m_get (C := RX4) (T := TX4) (N := 11) hx hb hts hi_X4 hown hK hV 1 (v := .ref (L 5 1)) (g_kern1 hC rfl) rfl (by decide) k18 (fun _ h9 => h9) dX4_addGroup_68 ?_
          refine m_newo (ci := 4) (fs := [.int 0, .null, .int 0, .long 0, .int 0, .int 0]) (C := RX1) (T := TX1) (N := 6) hx hb hts hi_X1 tyX1 tyX1_ok hown kc27 (hts (.instantiable RX1 6) (by decide +kernel)) (hts (.initialized RX1) (by decide +kernel)) hK hV hS hA rfl (fun j hj => match j, hj with | 0, _ => rfl | 1, _ => rfl | 2, _ => rfl | 3, _ => rfl | 4, _ => rfl | 5, _ => rfl | n + 6, h9 => absurd h9 (by omega)) (by decide) (by decide) dX4_addGroup_71 (fun q71 H eq71 hV hS => ?_)
          have hC0 := hC
          replace hC := hC0.fresh eq71 (.inr (4, [.int 0, .null, .int 0, .long 0, .int 0, .int 0]))
          refine lv_dup hx hb dX4_addGroup_74 rfl ?_
          refine lv_iload hx hb dX4_addGroup_75 (lv_at hl 0 rfl) ?_
          refine lv_aload_n hx hb dX4_addGroup_77 rfl (lv_at hl 1 rfl) ?_
          refine lv_sipush (v := 2520) hx hb dX4_addGroup_78 (by decide) ?_
          refine lv_iload_n hx hb dX4_addGroup_81 rfl (lv_at hl 4 rfl) ?_
          refine lv_idiv hx hb dX4_addGroup_82 (fun z => c22 (by rw [z]; decide)) ?_
          refine lv_aload_n hx hb dX4_addGroup_83 rfl (lv_at hl 2 rfl) ?_
          refine lv_aload_n hx hb dX4_addGroup_84 rfl (lv_at hl 1 rfl) ?_
          refine m_calll (va_runV (As := [.ref (L 2 k7)]) (rest := [.int (2520 / x1), .ref (L 2 k7), .int (nI (kN σ 62 1)), .ref q71, .ref q71, .ref (L 5 1)]) ⟨hx, hb, hml, hown, hts⟩ (c_X4_leastTimeIn (l := l) (H.size) hC k7 (by first | assumption | omega)) (cwV 1 hts gX4_addGroup_X4_leastTimeIn rfl rfl rfl (by decide +kernel) ⟨by decide, by decide⟩) (m_preV (r := (RX4, TX4, 11)) hE hV hS hA (hC.at (k := 0) (i := 0) rfl) rfl) rfl rfl hl.1 rfl (lv_room (by first | exact Nat.le_of_ble_eq_true rfl | simp [rf_cat, ct_ref, ct_int, ct_null, ct_long])) dX4_addGroup_85 ⟨by decide, by decide⟩) hV hS hA (fun r h1 H locs hV hS hp _ => ?_)
          obtain ⟨e1, e2⟩ := hp
          subst e2
          rw [e1] at hV; clear e1
          refine m_callv (va_runIN (As := [.int (nI (kN σ 62 1)), .ref (L 2 k7), .int (2520 / x1), .long (leastS σ k7)]) (rest := [.ref q71, .ref (L 5 1)]) ⟨hx, hb, hml, hown, hts⟩ (c_X1_init (l := l) (D := D) (cs := cs) (df := df) (hh := (mu hh q71 (.inr (4, [.int 0, .null, .int 0, .long 0, .int 0, .int 0])))) (H.size) q71 (nI (kN σ 62 1)) (L 2 k7) (2520 / x1) (leastS σ k7) (mu_s _ _ _)) ⟨va_cnB 4 hts gX4_addGroup_X1_init_n29 rfl rfl rfl kq29 (hts (.initialized RX1) (by decide +kernel)) (by decide +kernel) ⟨by decide, by decide⟩, rfl, hts (.instanceMethod yX1_init) (by decide +kernel)⟩ (m_preS hE hV hS hA) rfl rfl hl.1 rfl (lv_room (by first | exact Nat.le_of_ble_eq_true rfl | simp [rf_cat, ct_ref, ct_int, ct_null, ct_long])) dX4_addGroup_88 ⟨by decide, by decide⟩) hV hS hA (fun h1 H locs hV hS hp _ => ?_)
          rw [hp] at hV; clear hp
          rw [m_mm] at hV
          replace hC := hC0.fresh eq71 (.inr (4, [.int (nI (kN σ 62 1)), .ref (L 2 k7), .int (2520 / x1), .long (leastS σ k7), .int 0, .int 0]))
          refine m_calli (va_runV (As := [.ref q71]) (rest := []) ⟨hx, hb, hml, hown, hts⟩ (l_addG (H.size) hC0 k7 (2520 / x1) (leastS σ k7) q71 eq71 (by omega) (by assumption)) (cwV 1 hts gX4_addGroup_Jx4a65c_add_9ea2d rfl rfl rfl (by decide +kernel) ⟨by decide, by decide⟩) (m_preV (r := (RJx4a65c, TJx4a65c, 3)) hE hV hS hA (CRep.atL hC (j := 1) (by decide)) rfl) rfl rfl hl.1 rfl (lv_room (by first | exact Nat.le_of_ble_eq_true rfl | simp [rf_cat, ct_ref, ct_int, ct_null, ct_long])) dX4_addGroup_91 ⟨by decide, by decide⟩) hV hS hA (fun r h1 H locs hV hS hp _ => ?_)
          obtain ⟨hC, e2⟩ := hp
          subst e2
          refine lv_pop hx hb dX4_addGroup_94 rfl ?_
          refine lv_iload hx hb dX4_addGroup_95 (lv_at hl 0 rfl) ?_
          exact vx_ret (m_iret (v := nI (kN σ 62 1)) hx hb hr hlocks hV hS (⟨k7, c7, ⟨Int32.not_lt.mp c22, c28⟩, c54, ⟨_, Lnew_k L (by decide), hC⟩, rfl⟩) dX4_addGroup_97)
        · replace c54 : ¬ kN σ 62 1 < 6 := fun q9 => c54 ((nI_ltI (a := kN σ 62 1) (b := 6) (by omega) (by omega)).mpr q9)
          exact m_throw hx hb hfl (own := RX4) (cls := "java/lang/IllegalStateException") (text := "there are as many groups as there may be") (names := ["java/lang/RuntimeException", "java/lang/Exception"]) (ik := 73) (is := 111) (ic := 77) hown (by decide) (by decide) kc73 (hts _ (by decide +kernel)) (hE.1.2.2.2.1 _ (List.mem_of_getElem? (i := 7) rfl)) (m_hat hE (by decide +kernel) hts) (by decide +kernel) hE hV hS (by rw [hml]; exact hl.1) dX4_addGroup_57 dX4_addGroup_60 dX4_addGroup_61 dX4_addGroup_63 dX4_addGroup_66 hnx (by decide) (by decide) (by decide) (by decide) hlocks (⟨rfl, Or.inr (Or.inr ⟨rfl, by rw [c7]; simp, fun z => z.elim c22 (Int32.not_lt.mpr c28), c54⟩)⟩) (by decide) (by decide)
      · exact m_throw hx hb hfl (own := RX4) (cls := "java/lang/IllegalArgumentException") (text := "the weight is out of range") (names := ["java/lang/RuntimeException", "java/lang/Exception"]) (ik := 62) (is := 109) (ic := 66) hown (by decide) (by decide) kc62 (hts _ (by decide +kernel)) (hE.1.2.2.2.1 _ (List.mem_of_getElem? (i := 6) rfl)) (m_hat hE (by decide +kernel) hts) (by decide +kernel) hE hV hS (by rw [hml]; exact hl.1) dX4_addGroup_31 dX4_addGroup_34 dX4_addGroup_35 dX4_addGroup_37 dX4_addGroup_40 hnx (by decide) (by decide) (by decide) (by decide) hlocks (⟨rfl, Or.inr (Or.inl ⟨rfl, by rw [c7]; simp, Or.inr (Int32.not_le.mp c28)⟩)⟩) (by decide) (by decide)
  · replace hl : lv_has ls 5 [(3, .null), (0, .ref (L 0 0)), (1, .int x0), (2, .int x1)] := by have h9 := hl; rw [c7] at h9; exact h9
    exact m_throw hx hb hfl (own := RX4) (cls := "java/lang/IndexOutOfBoundsException") (text := "there is no such group") (names := ["java/lang/RuntimeException", "java/lang/Exception"]) (ik := 91) (is := 107) (ic := 95) hown (by decide) (by decide) kc91 (hts _ (by decide +kernel)) (hE.1.2.2.2.1 _ (List.mem_of_getElem? (i := 5) rfl)) (m_hat hE (by decide +kernel) hts) (by decide +kernel) hE hV hS (by rw [hml]; exact hl.1) dX4_addGroup_10 dX4_addGroup_13 dX4_addGroup_14 dX4_addGroup_16 dX4_addGroup_19 hnx (by decide) (by decide) (by decide) (by decide) hlocks (⟨rfl, Or.inl ⟨rfl, c7⟩⟩) (by decide) (by decide)
set_option maxHeartbeats 4000000 in
set_option maxRecDepth 100000 in
theorem c_X4_addPlain {l : Launch} (hfl : l.stackTraces = false) {D : va_G} {cs : mC} {df : Nat} {P : Nat → Prop} {h0 : mH} {L : KL} {σ : KS} {hh : mH} (sz : Nat) (hC : CRep cs df P h0 L σ hh) (x0 : Int32) (x1 : Int32) (x2 : Int32) : vx_Met l yX4_addPlain wsX4_addPlain ({ frames := 7, cells := 2, slots := 216, locals := 191 }) (mPre [.ref (L 0 0), .int x0, .int x1, .int x2] D cs df hh sz) (va_Qi ((fun (r : Int32) (h1 : mH) => ∃ g, inR x0 (kN σ 62 1) = some g ∧ ((1 ≤ x1 ∧ x1 ≤ 9) ∧ 1 ≤ x2 ∧ x2 ≤ 500) ∧ kN σ 62 2 < 12 ∧ (∃ L1 : KL, L1 0 0 = L 0 0 ∧ CRep cs df P h0 L1 (tskS σ g (2520 / x1) (leastS σ g) x2 0 0 0 0) h1) ∧ r = nI (kN σ 62 2))) (mB D hh sz) (mA hh sz)) (mX D hh sz (fun E h1 => h1 = hh ∧ (E = "java/lang/IndexOutOfBoundsException" ∧ inR x0 (kN σ 62 1) = none ∨ E = "java/lang/IllegalArgumentException" ∧ inR x0 (kN σ 62 1) ≠ none ∧ (x1 < 1 ∨ 9 < x1 ∨ x2 < 1 ∨ 500 < x2) ∨ E = "java/lang/IllegalStateException" ∧ inR x0 (kN σ 62 1) ≠ none ∧ ¬ (x1 < 1 ∨ 9 < x1 ∨ x2 < 1 ∨ 500 < x2) ∧ ¬ kN σ 62 2 < 12))) 2 216 (mA hh sz) := by
  refine vx_ofW (cc := cX4_addPlain) (maxL := 6) (ret := (some .int)) (by decide) rfl ?_
  intro p e s m args below meth c s₁ B0 hml hnx hv
  obtain ⟨hargs, hsz, hV, hE⟩ := hv
  subst hsz
  have hx := B0.exec
  have hb := B0.bytes
  have hr := B0.returns
  have hlocks := B0.notSynchronized
  have hts := atoms_spec (ws := wsX4_addPlain) B0.pre
  have hown : s.vm.findClass RX4 = some m.cls := findClass_of_methodNamed B0.named
  have hK := hE.1.1
  have hA : ∀ q : Nat, s.heap.size ≤ q → mA hh s.heap.size q := mA.top
  have hS : va_S (mA hh s.heap.size) s.heap s.heap [] := va_S.rf
  have kc62 : (Cond.classLink RX4 62 "java/lang/IllegalArgumentException").before args s = true := hts _ (by decide +kernel)
  have hi_X4 : ∀ w ∈ u_ws RX4 TX4 11, w ∈ wsX4_addPlain := by decide +kernel
  have k21 : (Cond.fieldLink RX4 21 "TaskKernel" "tasks" "Ljava/util/ArrayList;").before args s = true := hts _ (by decide +kernel)
  have kc121 : (Cond.classLink RX4 121 "TaskKernel$Task").before args s = true := hts _ (by decide +kernel)
  have hi_X3 : ∀ w ∈ u_ws RX3 TX3 16, w ∈ wsX4_addPlain := by decide +kernel
  have kq123 : va_Nw (.methodLinkNest RX4 123 yX3_init "TaskKernel") s := hE.1.2.2.1 _ (List.mem_of_getElem? (i := 0) rfl)
  have kc73 : (Cond.classLink RX4 73 "java/lang/IllegalStateException").before args s = true := hts _ (by decide +kernel)
  have kc91 : (Cond.classLink RX4 91 "java/lang/IndexOutOfBoundsException").before args s = true := hts _ (by decide +kernel)
  have hl := lv_entry ([.ref (L 0 0), .int x0, .int x1, .int x2]) (n := 6) (by first | exact Nat.le_of_ble_eq_true rfl | simp [lg_sl, rf_cat, ct_ref, ct_int, ct_null, ct_long])
  have hent := lg_entry_eq m ([.ref (L 0 0), .int x0, .int x1, .int x2]) 6
  rw [← hargs] at hent
  rw [hent]
  generalize (lg_sl ([.ref (L 0 0), .int x0, .int x1, .int x2]) ++ List.replicate (6 - (lg_sl ([.ref (L 0 0), .int x0, .int x1, .int x2])).length) Slot.unset).toArray = ls at hl ⊢
  replace hl : lv_has ls 6 [(0, .ref (L 0 0)), (1, .int x0), (2, .int x1), (3, .int x2)] := hl
  have hwf := hC.wf
  obtain ⟨⟨z0, z1, z2, z3, z4⟩, z5, z6, z7, z8, z9, z10, z11, z12⟩ := hwf
  refine lv_aload_n hx hb dX4_addPlain_0 rfl (lv_at hl 0 rfl) ?_
  refine lv_iload_n hx hb dX4_addPlain_1 rfl (lv_at hl 1 rfl) ?_
  refine m_callq (va_runV (As := [.int x0]) (rest := []) ⟨hx, hb, hml, hown, hts⟩ (c_X4_groupAt (l := l) (s.heap.size) hC x0) (cwV 1 hts gX4_addPlain_X4_groupAt rfl rfl rfl (by decide +kernel) ⟨by decide, by decide⟩) (m_preV (r := (RX4, TX4, 11)) hE hV hS hA (hC.at (k := 0) (i := 0) rfl) rfl) rfl rfl hl.1 rfl (lv_room (by first | exact Nat.le_of_ble_eq_true rfl | simp [rf_cat, ct_ref, ct_int, ct_null, ct_long])) dX4_addPlain_2 ⟨by decide, by decide⟩) hV hS hA (fun r h1 H locs hV hS hp _ => ?_)
  obtain ⟨e1, e2⟩ := hp
  subst e2
  rw [e1] at hV; clear e1
  refine m_astore_q (lv' := [(4, va_rf (((inR x0 (kN σ 62 1))).map (L 2))), (0, .ref (L 0 0)), (1, .int x0), (2, .int x1), (3, .int x2)]) hx hb dX4_addPlain_5 hl (by decide) (by first | rfl | simp [rf_cat, ct_ref, ct_int, ct_long]) (fun ls hl => ?_)
  refine m_aload_q hx hb dX4_addPlain_7 (lv_at hl 0 rfl) ?_
  refine m_ifnonnull_q (o := (inR x0 (kN σ 62 1))) (f := L 2) (tgt := 22) hx hb dX4_addPlain_9 (by decide) (fun k9 c9 => ?_) (fun c9 => ?_)
  · have bk9 := (inR_some c9).2
    replace hl : lv_has ls 6 [(4, .ref (L 2 k9)), (0, .ref (L 0 0)), (1, .int x0), (2, .int x1), (3, .int x2)] := by have h9 := hl; rw [c9] at h9; exact h9
    refine lv_iload_n hx hb dX4_addPlain_22 rfl (lv_at hl 3 rfl) ?_
    refine lv_iconst (v := 1) hx hb dX4_addPlain_23 (by decide) ?_
    refine lv_icmp_lt (tgt := 45) hx hb dX4_addPlain_24 (by decide) (fun c24 => ?_) (fun c24 => ?_)
    · exact m_throw hx hb hfl (own := RX4) (cls := "java/lang/IllegalArgumentException") (text := "a number is out of range") (names := ["java/lang/RuntimeException", "java/lang/Exception"]) (ik := 62) (is := 117) (ic := 66) hown (by decide) (by decide) kc62 (hts _ (by decide +kernel)) (hE.1.2.2.2.1 _ (List.mem_of_getElem? (i := 8) rfl)) (m_hat hE (by decide +kernel) hts) (by decide +kernel) hE hV hS (by rw [hml]; exact hl.1) dX4_addPlain_45 dX4_addPlain_48 dX4_addPlain_49 dX4_addPlain_51 dX4_addPlain_54 hnx (by decide) (by decide) (by decide) (by decide) hlocks (⟨rfl, Or.inr (Or.inl ⟨rfl, by rw [c9]; simp, Or.inl c24⟩)⟩) (by decide) (by decide)
    · refine lv_iload_n hx hb dX4_addPlain_27 rfl (lv_at hl 3 rfl) ?_
      refine lv_bipush (v := 9) hx hb dX4_addPlain_28 (by decide) ?_
      refine lv_icmp_gt (tgt := 45) hx hb dX4_addPlain_30 (by decide) (fun c30 => ?_) (fun c30 => ?_)
      · exact m_throw hx hb hfl (own := RX4) (cls := "java/lang/IllegalArgumentException") (text := "a number is out of range") (names := ["java/lang/RuntimeException", "java/lang/Exception"]) (ik := 62) (is := 117) (ic := 66) hown (by decide) (by decide) kc62 (hts _ (by decide +kernel)) (hE.1.2.2.2.1 _ (List.mem_of_getElem? (i := 8) rfl)) (m_hat hE (by decide +kernel) hts) (by decide +kernel) hE hV hS (by rw [hml]; exact hl.1) dX4_addPlain_45 dX4_addPlain_48 dX4_addPlain_49 dX4_addPlain_51 dX4_addPlain_54 hnx (by decide) (by decide) (by decide) (by decide) hlocks (⟨rfl, Or.inr (Or.inl ⟨rfl, by rw [c9]; simp, Or.inr (Or.inl c30)⟩)⟩) (by decide) (by decide)
      · refine lv_iload_n hx hb dX4_addPlain_33 rfl (lv_at hl 4 rfl) ?_
        refine lv_iconst (v := 1) hx hb dX4_addPlain_34 (by decide) ?_
        refine lv_icmp_lt (tgt := 45) hx hb dX4_addPlain_35 (by decide) (fun c35 => ?_) (fun c35 => ?_)
        · exact m_throw hx hb hfl (own := RX4) (cls := "java/lang/IllegalArgumentException") (text := "a number is out of range") (names := ["java/lang/RuntimeException", "java/lang/Exception"]) (ik := 62) (is := 117) (ic := 66) hown (by decide) (by decide) kc62 (hts _ (by decide +kernel)) (hE.1.2.2.2.1 _ (List.mem_of_getElem? (i := 8) rfl)) (m_hat hE (by decide +kernel) hts) (by decide +kernel) hE hV hS (by rw [hml]; exact hl.1) dX4_addPlain_45 dX4_addPlain_48 dX4_addPlain_49 dX4_addPlain_51 dX4_addPlain_54 hnx (by decide) (by decide) (by decide) (by decide) hlocks (⟨rfl, Or.inr (Or.inl ⟨rfl, by rw [c9]; simp, Or.inr (Or.inr (Or.inl c35))⟩)⟩) (by decide) (by decide)
        · refine lv_iload_n hx hb dX4_addPlain_38 rfl (lv_at hl 4 rfl) ?_
          refine lv_sipush (v := 500) hx hb dX4_addPlain_39 (by decide) ?_
          refine lv_icmp_le (tgt := 55) hx hb dX4_addPlain_42 (by decide) (fun c42 => ?_) (fun c42 => ?_)
          · refine lv_aload_n hx hb dX4_addPlain_55 rfl (lv_at hl 1 rfl) ?_
            refine m_get (C := RX4) (T := TX4) (N := 11) hx hb hts hi_X4 hown hK hV 2 (v := .ref (L 5 2)) (g_kern2 hC rfl) rfl (by decide) k21 (fun _ h9 => h9) dX4_addPlain_56 ?_
            refine m_calli (va_runV (As := []) (rest := []) ⟨hx, hb, hml, hown, hts⟩ (l_size (H.size) hC 2 (by decide)) (cwV 0 hts gX4_addPlain_Jx4a65c_size_8abf5 rfl rfl rfl (by decide +kernel) ⟨by decide, by decide⟩) (m_preV (r := (RJx4a65c, TJx4a65c, 3)) hE hV hS hA (CRep.atL hC (j := 2) (by decide)) rfl) rfl rfl hl.1 rfl (lv_room (by first | exact Nat.le_of_ble_eq_true rfl | simp [rf_cat, ct_ref, ct_int, ct_null, ct_long])) dX4_addPlain_59 ⟨by decide, by decide⟩) hV hS hA (fun r h1 H locs hV hS hp _ => ?_)
            obtain ⟨e1, e2⟩ := hp
            subst e2
            rw [e1] at hV; clear e1
            refine lv_istore (lv' := [(5, .int (nI (kN σ 62 2))), (4, .ref (L 2 k9)), (0, .ref (L 0 0)), (1, .int x0), (2, .int x1), (3, .int x2)]) hx hb dX4_addPlain_62 hl (by decide) rfl (fun ls hl => ?_)
            refine lv_iload hx hb dX4_addPlain_64 (lv_at hl 0 rfl) ?_
            refine lv_bipush (v := 12) hx hb dX4_addPlain_66 (by decide) ?_
            refine lv_icmp_lt (tgt := 81) hx hb dX4_addPlain_68 (by decide) (fun c68 => ?_) (fun c68 => ?_)
            · replace c68 : kN σ 62 2 < 12 := (nI_ltI (a := kN σ 62 2) (b := 12) (by omega) (by omega)).mp c68
              refine lv_aload_n hx hb dX4_addPlain_81 rfl (lv_at hl 2 rfl) ?_
              refine m_get (C := RX4) (T := TX4) (N := 11) hx hb hts hi_X4 hown hK hV 2 (v := .ref (L 5 2)) (g_kern2 hC rfl) rfl (by decide) k21 (fun _ h9 => h9) dX4_addPlain_82 ?_
              refine m_newo (ci := 6) (fs := [.int 0, .null, .int 0, .long 0, .int 0, .int 0, .int 0, .int 0, .int 0, .int 0, .int 0, .int 0, .null, .null, .int 0, .int 0]) (C := RX3) (T := TX3) (N := 16) hx hb hts hi_X3 tyX3 tyX3_ok hown kc121 (hts (.instantiable RX3 16) (by decide +kernel)) (hts (.initialized RX3) (by decide +kernel)) hK hV hS hA rfl (fun j hj => match j, hj with | 0, _ => rfl | 1, _ => rfl | 2, _ => rfl | 3, _ => rfl | 4, _ => rfl | 5, _ => rfl | 6, _ => rfl | 7, _ => rfl | 8, _ => rfl | 9, _ => rfl | 10, _ => rfl | 11, _ => rfl | 12, _ => rfl | 13, _ => rfl | 14, _ => rfl | 15, _ => rfl | n + 16, h9 => absurd h9 (by omega)) (by decide) (by decide) dX4_addPlain_85 (fun q85 H eq85 hV hS => ?_)
              have hC0 := hC
              replace hC := hC0.fresh eq85 (.inr (6, [.int 0, .null, .int 0, .long 0, .int 0, .int 0, .int 0, .int 0, .int 0, .int 0, .int 0, .int 0, .null, .null, .int 0, .int 0]))
              refine lv_dup hx hb dX4_addPlain_88 rfl ?_
              refine lv_iload hx hb dX4_addPlain_89 (lv_at hl 0 rfl) ?_
              refine lv_aload hx hb dX4_addPlain_91 (lv_at hl 1 rfl) ?_
              refine lv_sipush (v := 2520) hx hb dX4_addPlain_93 (by decide) ?_
              refine lv_iload_n hx hb dX4_addPlain_96 rfl (lv_at hl 4 rfl) ?_
              refine lv_idiv hx hb dX4_addPlain_97 (fun z => c24 (by rw [z]; decide)) ?_
              refine lv_aload_n hx hb dX4_addPlain_98 rfl (lv_at hl 2 rfl) ?_
              refine lv_aload hx hb dX4_addPlain_99 (lv_at hl 1 rfl) ?_
              refine m_calll (va_runV (As := [.ref (L 2 k9)]) (rest := [.int (2520 / x1), .ref (L 2 k9), .int (nI (kN σ 62 2)), .ref q85, .ref q85, .ref (L 5 2)]) ⟨hx, hb, hml, hown, hts⟩ (c_X4_leastTimeIn (l := l) (H.size) hC k9 (by first | assumption | omega)) (cwV 1 hts gX4_addPlain_X4_leastTimeIn rfl rfl rfl (by decide +kernel) ⟨by decide, by decide⟩) (m_preV (r := (RX4, TX4, 11)) hE hV hS hA (hC.at (k := 0) (i := 0) rfl) rfl) rfl rfl hl.1 rfl (lv_room (by first | exact Nat.le_of_ble_eq_true rfl | simp [rf_cat, ct_ref, ct_int, ct_null, ct_long])) dX4_addPlain_101 ⟨by decide, by decide⟩) hV hS hA (fun r h1 H locs hV hS hp _ => ?_)
              obtain ⟨e1, e2⟩ := hp
              subst e2
              rw [e1] at hV; clear e1
              refine lv_iload_n hx hb dX4_addPlain_104 rfl (lv_at hl 5 rfl) ?_
              refine m_callv (va_runIN (As := [.int (nI (kN σ 62 2)), .ref (L 2 k9), .int (2520 / x1), .long (leastS σ k9), .int x2]) (rest := [.ref q85, .ref (L 5 2)]) ⟨hx, hb, hml, hown, hts⟩ (c_X3_init (l := l) (D := D) (cs := cs) (df := df) (hh := (mu hh q85 (.inr (6, [.int 0, .null, .int 0, .long 0, .int 0, .int 0, .int 0, .int 0, .int 0, .int 0, .int 0, .int 0, .null, .null, .int 0, .int 0])))) (H.size) q85 (nI (kN σ 62 2)) (L 2 k9) (2520 / x1) (leastS σ k9) x2 (mu_s _ _ _)) ⟨va_cnB 5 hts gX4_addPlain_X3_init_n123 rfl rfl rfl kq123 (hts (.initialized RX3) (by decide +kernel)) (by decide +kernel) ⟨by decide, by decide⟩, rfl, hts (.instanceMethod yX3_init) (by decide +kernel)⟩ (m_preS hE hV hS hA) rfl rfl hl.1 rfl (lv_room (by first | exact Nat.le_of_ble_eq_true rfl | simp [rf_cat, ct_ref, ct_int, ct_null, ct_long])) dX4_addPlain_105 ⟨by decide, by decide⟩) hV hS hA (fun h1 H locs hV hS hp _ => ?_)
              rw [hp] at hV; clear hp
              rw [m_mm] at hV
              replace hC := hC0.fresh eq85 (.inr (6, [.int (nI (kN σ 62 2)), .ref (L 2 k9), .int (2520 / x1), .long (leastS σ k9), .int x2, .int 0, .int 0, .int 0, .int 0, .int 0, .int 0, .int 0, .null, .null, .int 0, .int 0]))
              refine m_calli (va_runV (As := [.ref q85]) (rest := []) ⟨hx, hb, hml, hown, hts⟩ (l_addT (H.size) hC0 k9 (2520 / x1) (leastS σ k9) x2 0 0 0 0 q85 eq85 (by omega) (by assumption) rfl) (cwV 1 hts gX4_addPlain_Jx4a65c_add_9ea2d rfl rfl rfl (by decide +kernel) ⟨by decide, by decide⟩) (m_preV (r := (RJx4a65c, TJx4a65c, 3)) hE hV hS hA (CRep.atL hC (j := 2) (by decide)) rfl) rfl rfl hl.1 rfl (lv_room (by first | exact Nat.le_of_ble_eq_true rfl | simp [rf_cat, ct_ref, ct_int, ct_null, ct_long])) dX4_addPlain_108 ⟨by decide, by decide⟩) hV hS hA (fun r h1 H locs hV hS hp _ => ?_)
              obtain ⟨hC, e2⟩ := hp
              subst e2
              refine lv_pop hx hb dX4_addPlain_111 rfl ?_
              refine lv_iload hx hb dX4_addPlain_112 (lv_at hl 0 rfl) ?_
              exact vx_ret (m_iret (v := nI (kN σ 62 2)) hx hb hr hlocks hV hS (⟨k9, c9, ⟨⟨Int32.not_lt.mp c24, Int32.not_lt.mp c30⟩, Int32.not_lt.mp c35, c42⟩, c68, ⟨_, Lnew_k L (by decide), hC⟩, rfl⟩) dX4_addPlain_114)
            · replace c68 : ¬ kN σ 62 2 < 12 := fun q9 => c68 ((nI_ltI (a := kN σ 62 2) (b := 12) (by omega) (by omega)).mpr q9)
              exact m_throw hx hb hfl (own := RX4) (cls := "java/lang/IllegalStateException") (text := "there are as many tasks as there may be") (names := ["java/lang/RuntimeException", "java/lang/Exception"]) (ik := 73) (is := 119) (ic := 77) hown (by decide) (by decide) kc73 (hts _ (by decide +kernel)) (hE.1.2.2.2.1 _ (List.mem_of_getElem? (i := 9) rfl)) (m_hat hE (by decide +kernel) hts) (by decide +kernel) hE hV hS (by rw [hml]; exact hl.1) dX4_addPlain_71 dX4_addPlain_74 dX4_addPlain_75 dX4_addPlain_77 dX4_addPlain_80 hnx (by decide) (by decide) (by decide) (by decide) hlocks (⟨rfl, Or.inr (Or.inr ⟨rfl, by rw [c9]; simp, (fun z => z.elim c24 (fun z => z.elim c30 (fun z => z.elim c35 (Int32.not_lt.mpr c42)))), c68⟩)⟩) (by decide) (by decide)
          · exact m_throw hx hb hfl (own := RX4) (cls := "java/lang/IllegalArgumentException") (text := "a number is out of range") (names := ["java/lang/RuntimeException", "java/lang/Exception"]) (ik := 62) (is := 117) (ic := 66) hown (by decide) (by decide) kc62 (hts _ (by decide +kernel)) (hE.1.2.2.2.1 _ (List.mem_of_getElem? (i := 8) rfl)) (m_hat hE (by decide +kernel) hts) (by decide +kernel) hE hV hS (by rw [hml]; exact hl.1) dX4_addPlain_45 dX4_addPlain_48 dX4_addPlain_49 dX4_addPlain_51 dX4_addPlain_54 hnx (by decide) (by decide) (by decide) (by decide) hlocks (⟨rfl, Or.inr (Or.inl ⟨rfl, by rw [c9]; simp, Or.inr (Or.inr (Or.inr (Int32.not_le.mp c42)))⟩)⟩) (by decide) (by decide)
  · replace hl : lv_has ls 6 [(4, .null), (0, .ref (L 0 0)), (1, .int x0), (2, .int x1), (3, .int x2)] := by have h9 := hl; rw [c9] at h9; exact h9
    exact m_throw hx hb hfl (own := RX4) (cls := "java/lang/IndexOutOfBoundsException") (text := "there is no such group") (names := ["java/lang/RuntimeException", "java/lang/Exception"]) (ik := 91) (is := 107) (ic := 95) hown (by decide) (by decide) kc91 (hts _ (by decide +kernel)) (hE.1.2.2.2.1 _ (List.mem_of_getElem? (i := 5) rfl)) (m_hat hE (by decide +kernel) hts) (by decide +kernel) hE hV hS (by rw [hml]; exact hl.1) dX4_addPlain_12 dX4_addPlain_15 dX4_addPlain_16 dX4_addPlain_18 dX4_addPlain_21 hnx (by decide) (by decide) (by decide) (by decide) hlocks (⟨rfl, Or.inl ⟨rfl, c9⟩⟩) (by decide) (by decide)
set_option maxHeartbeats 4000000 in
set_option maxRecDepth 100000 in
theorem c_X4_addTimed {l : Launch} (hfl : l.stackTraces = false) {D : va_G} {cs : mC} {df : Nat} {P : Nat → Prop} {h0 : mH} {L : KL} {σ : KS} {hh : mH} (sz : Nat) (hC : CRep cs df P h0 L σ hh) (x0 : Int32) (x1 : Int32) (x2 : Int32) (x3 : Int32) : vx_Met l yX4_addTimed wsX4_addTimed ({ frames := 7, cells := 2, slots := 216, locals := 191 }) (mPre [.ref (L 0 0), .int x0, .int x1, .int x2, .int x3] D cs df hh sz) (va_Qi ((fun (r : Int32) (h1 : mH) => ∃ g, inR x0 (kN σ 62 1) = some g ∧ ¬ (x1 < 1 ∨ 9 < x1 ∨ x2 < 2 ∨ 60 < x2 ∨ x3 < 1 ∨ 40 < x3) ∧ ((sumI (fun t => if kB σ 36 t = true then 0 else kI σ 39 t) (kN σ 62 2)) + ((1000 * x3 + x2 - 1) / x2) ≤ 1000 * (if kI σ 1 0 < sumI (fun t => kI σ 10 t) (kN σ 62 0) then kI σ 1 0 else sumI (fun t => kI σ 10 t) (kN σ 62 0))) ∧ kN σ 62 2 < 12 ∧ (∃ L1 : KL, L1 0 0 = L 0 0 ∧ CRep cs df P h0 L1 (tskS σ g (2520 / x1) (leastS σ g) x3 x2 x3 ((1000 * x3 + x2 - 1) / x2) (kI σ 2 0 + x2)) h1) ∧ r = nI (kN σ 62 2))) (mB D hh sz) (mA hh sz)) (mX D hh sz (fun E h1 => h1 = hh ∧ (E = "java/lang/IndexOutOfBoundsException" ∧ inR x0 (kN σ 62 1) = none ∨ E = "java/lang/IllegalArgumentException" ∧ inR x0 (kN σ 62 1) ≠ none ∧ (x1 < 1 ∨ 9 < x1 ∨ x2 < 2 ∨ 60 < x2 ∨ x3 < 1 ∨ 40 < x3) ∨ E = "java/lang/UnsupportedOperationException" ∧ inR x0 (kN σ 62 1) ≠ none ∧ ¬ (x1 < 1 ∨ 9 < x1 ∨ x2 < 2 ∨ 60 < x2 ∨ x3 < 1 ∨ 40 < x3) ∧ ¬ ((sumI (fun t => if kB σ 36 t = true then 0 else kI σ 39 t) (kN σ 62 2)) + ((1000 * x3 + x2 - 1) / x2) ≤ 1000 * (if kI σ 1 0 < sumI (fun t => kI σ 10 t) (kN σ 62 0) then kI σ 1 0 else sumI (fun t => kI σ 10 t) (kN σ 62 0))) ∨ E = "java/lang/IllegalStateException" ∧ inR x0 (kN σ 62 1) ≠ none ∧ ¬ (x1 < 1 ∨ 9 < x1 ∨ x2 < 2 ∨ 60 < x2 ∨ x3 < 1 ∨ 40 < x3) ∧ ((sumI (fun t => if kB σ 36 t = true then 0 else kI σ 39 t) (kN σ 62 2)) + ((1000 * x3 + x2 - 1) / x2) ≤ 1000 * (if kI σ 1 0 < sumI (fun t => kI σ 10 t) (kN σ 62 0) then kI σ 1 0 else sumI (fun t => kI σ 10 t) (kN σ 62 0))) ∧ ¬ kN σ 62 2 < 12))) 2 216 (mA hh sz) := by
  refine vx_ofW (cc := cX4_addTimed) (maxL := 9) (ret := (some .int)) (by decide) rfl ?_
  intro p e s m args below meth c s₁ B0 hml hnx hv
  obtain ⟨hargs, hsz, hV, hE⟩ := hv
  subst hsz
  have hx := B0.exec
  have hb := B0.bytes
  have hr := B0.returns
  have hlocks := B0.notSynchronized
  have hts := atoms_spec (ws := wsX4_addTimed) B0.pre
  have hown : s.vm.findClass RX4 = some m.cls := findClass_of_methodNamed B0.named
  have hK := hE.1.1
  have hA : ∀ q : Nat, s.heap.size ≤ q → mA hh s.heap.size q := mA.top
  have hS : va_S (mA hh s.heap.size) s.heap s.heap [] := va_S.rf
  have kc62 : (Cond.classLink RX4 62 "java/lang/IllegalArgumentException").before args s = true := hts _ (by decide +kernel)
  have hi_X4 : ∀ w ∈ u_ws RX4 TX4 11, w ∈ wsX4_addTimed := by decide +kernel
  have k21 : (Cond.fieldLink RX4 21 "TaskKernel" "tasks" "Ljava/util/ArrayList;").before args s = true := hts _ (by decide +kernel)
  have kc121 : (Cond.classLink RX4 121 "TaskKernel$Task").before args s = true := hts _ (by decide +kernel)
  have hi_X3 : ∀ w ∈ u_ws RX3 TX3 16, w ∈ wsX4_addTimed := by decide +kernel
  have kq123 : va_Nw (.methodLinkNest RX4 123 yX3_init "TaskKernel") s := hE.1.2.2.1 _ (List.mem_of_getElem? (i := 0) rfl)
  have kn137 : va_Nw (.fieldLinkNest RX4 137 "TaskKernel$Task" "period" "I" "TaskKernel") s := hE.1.2.1 _ (List.mem_of_getElem? (i := 18) rfl)
  have kn140 : va_Nw (.fieldLinkNest RX4 140 "TaskKernel$Task" "budget" "I" "TaskKernel") s := hE.1.2.1 _ (List.mem_of_getElem? (i := 19) rfl)
  have kn143 : va_Nw (.fieldLinkNest RX4 143 "TaskKernel$Task" "share" "I" "TaskKernel") s := hE.1.2.1 _ (List.mem_of_getElem? (i := 20) rfl)
  have k43 : (Cond.fieldLink RX4 43 "TaskKernel" "presentTick" "I").before args s = true := hts _ (by decide +kernel)
  have kn146 : va_Nw (.fieldLinkNest RX4 146 "TaskKernel$Task" "deadline" "I" "TaskKernel") s := hE.1.2.1 _ (List.mem_of_getElem? (i := 21) rfl)
  have kc73 : (Cond.classLink RX4 73 "java/lang/IllegalStateException").before args s = true := hts _ (by decide +kernel)
  have kc132 : (Cond.classLink RX4 132 "java/lang/UnsupportedOperationException").before args s = true := hts _ (by decide +kernel)
  have kc91 : (Cond.classLink RX4 91 "java/lang/IndexOutOfBoundsException").before args s = true := hts _ (by decide +kernel)
  have hl := lv_entry ([.ref (L 0 0), .int x0, .int x1, .int x2, .int x3]) (n := 9) (by first | exact Nat.le_of_ble_eq_true rfl | simp [lg_sl, rf_cat, ct_ref, ct_int, ct_null, ct_long])
  have hent := lg_entry_eq m ([.ref (L 0 0), .int x0, .int x1, .int x2, .int x3]) 9
  rw [← hargs] at hent
  rw [hent]
  generalize (lg_sl ([.ref (L 0 0), .int x0, .int x1, .int x2, .int x3]) ++ List.replicate (9 - (lg_sl ([.ref (L 0 0), .int x0, .int x1, .int x2, .int x3])).length) Slot.unset).toArray = ls at hl ⊢
  replace hl : lv_has ls 9 [(0, .ref (L 0 0)), (1, .int x0), (2, .int x1), (3, .int x2), (4, .int x3)] := hl
  have hwf := hC.wf
  obtain ⟨⟨z0, z1, z2, z3, z4⟩, z5, z6, z7, z8, z9, z10, z11, z12⟩ := hwf
  refine lv_aload_n hx hb dX4_addTimed_0 rfl (lv_at hl 0 rfl) ?_
  refine lv_iload_n hx hb dX4_addTimed_1 rfl (lv_at hl 1 rfl) ?_
  refine m_callq (va_runV (As := [.int x0]) (rest := []) ⟨hx, hb, hml, hown, hts⟩ (c_X4_groupAt (l := l) (s.heap.size) hC x0) (cwV 1 hts gX4_addTimed_X4_groupAt rfl rfl rfl (by decide +kernel) ⟨by decide, by decide⟩) (m_preV (r := (RX4, TX4, 11)) hE hV hS hA (hC.at (k := 0) (i := 0) rfl) rfl) rfl rfl hl.1 rfl (lv_room (by first | exact Nat.le_of_ble_eq_true rfl | simp [rf_cat, ct_ref, ct_int, ct_null, ct_long])) dX4_addTimed_2 ⟨by decide, by decide⟩) hV hS hA (fun r h1 H locs hV hS hp _ => ?_)
  obtain ⟨e1, e2⟩ := hp
  subst e2
  rw [e1] at hV; clear e1
  refine m_astore_q (lv' := [(5, va_rf (((inR x0 (kN σ 62 1))).map (L 2))), (0, .ref (L 0 0)), (1, .int x0), (2, .int x1), (3, .int x2), (4, .int x3)]) hx hb dX4_addTimed_5 hl (by decide) (by first | rfl | simp [rf_cat, ct_ref, ct_int, ct_long]) (fun ls hl => ?_)
  refine m_aload_q hx hb dX4_addTimed_7 (lv_at hl 0 rfl) ?_
  refine m_ifnonnull_q (o := (inR x0 (kN σ 62 1))) (f := L 2) (tgt := 22) hx hb dX4_addTimed_9 (by decide) (fun k9 c9 => ?_) (fun c9 => ?_)
  · have bk9 := (inR_some c9).2
    replace hl : lv_has ls 9 [(5, .ref (L 2 k9)), (0, .ref (L 0 0)), (1, .int x0), (2, .int x1), (3, .int x2), (4, .int x3)] := by have h9 := hl; rw [c9] at h9; exact h9
    refine lv_iload_n hx hb dX4_addTimed_22 rfl (lv_at hl 3 rfl) ?_
    refine lv_iconst (v := 1) hx hb dX4_addTimed_23 (by decide) ?_
    refine lv_icmp_lt (tgt := 57) hx hb dX4_addTimed_24 (by decide) (fun c24 => ?_) (fun c24 => ?_)
    · exact m_throw hx hb hfl (own := RX4) (cls := "java/lang/IllegalArgumentException") (text := "a number is out of range") (names := ["java/lang/RuntimeException", "java/lang/Exception"]) (ik := 62) (is := 117) (ic := 66) hown (by decide) (by decide) kc62 (hts _ (by decide +kernel)) (hE.1.2.2.2.1 _ (List.mem_of_getElem? (i := 8) rfl)) (m_hat hE (by decide +kernel) hts) (by decide +kernel) hE hV hS (by rw [hml]; exact hl.1) dX4_addTimed_57 dX4_addTimed_60 dX4_addTimed_61 dX4_addTimed_63 dX4_addTimed_66 hnx (by decide) (by decide) (by decide) (by decide) hlocks (⟨rfl, Or.inr (Or.inl ⟨rfl, by rw [c9]; simp, Or.inl c24⟩)⟩) (by decide) (by decide)
    · refine lv_iload_n hx hb dX4_addTimed_27 rfl (lv_at hl 3 rfl) ?_
      refine lv_bipush (v := 9) hx hb dX4_addTimed_28 (by decide) ?_
      refine lv_icmp_gt (tgt := 57) hx hb dX4_addTimed_30 (by decide) (fun c30 => ?_) (fun c30 => ?_)
      · exact m_throw hx hb hfl (own := RX4) (cls := "java/lang/IllegalArgumentException") (text := "a number is out of range") (names := ["java/lang/RuntimeException", "java/lang/Exception"]) (ik := 62) (is := 117) (ic := 66) hown (by decide) (by decide) kc62 (hts _ (by decide +kernel)) (hE.1.2.2.2.1 _ (List.mem_of_getElem? (i := 8) rfl)) (m_hat hE (by decide +kernel) hts) (by decide +kernel) hE hV hS (by rw [hml]; exact hl.1) dX4_addTimed_57 dX4_addTimed_60 dX4_addTimed_61 dX4_addTimed_63 dX4_addTimed_66 hnx (by decide) (by decide) (by decide) (by decide) hlocks (⟨rfl, Or.inr (Or.inl ⟨rfl, by rw [c9]; simp, Or.inr (Or.inl c30)⟩)⟩) (by decide) (by decide)
      · refine lv_iload_n hx hb dX4_addTimed_33 rfl (lv_at hl 4 rfl) ?_
        refine lv_iconst (v := 2) hx hb dX4_addTimed_34 (by decide) ?_
        refine lv_icmp_lt (tgt := 57) hx hb dX4_addTimed_35 (by decide) (fun c35 => ?_) (fun c35 => ?_)
        · exact m_throw hx hb hfl (own := RX4) (cls := "java/lang/IllegalArgumentException") (text := "a number is out of range") (names := ["java/lang/RuntimeException", "java/lang/Exception"]) (ik := 62) (is := 117) (ic := 66) hown (by decide) (by decide) kc62 (hts _ (by decide +kernel)) (hE.1.2.2.2.1 _ (List.mem_of_getElem? (i := 8) rfl)) (m_hat hE (by decide +kernel) hts) (by decide +kernel) hE hV hS (by rw [hml]; exact hl.1) dX4_addTimed_57 dX4_addTimed_60 dX4_addTimed_61 dX4_addTimed_63 dX4_addTimed_66 hnx (by decide) (by decide) (by decide) (by decide) hlocks (⟨rfl, Or.inr (Or.inl ⟨rfl, by rw [c9]; simp, Or.inr (Or.inr (Or.inl c35))⟩)⟩) (by decide) (by decide)
        · refine lv_iload_n hx hb dX4_addTimed_38 rfl (lv_at hl 4 rfl) ?_
          refine lv_bipush (v := 60) hx hb dX4_addTimed_39 (by decide) ?_
          refine lv_icmp_gt (tgt := 57) hx hb dX4_addTimed_41 (by decide) (fun c41 => ?_) (fun c41 => ?_)
          · exact m_throw hx hb hfl (own := RX4) (cls := "java/lang/IllegalArgumentException") (text := "a number is out of range") (names := ["java/lang/RuntimeException", "java/lang/Exception"]) (ik := 62) (is := 117) (ic := 66) hown (by decide) (by decide) kc62 (hts _ (by decide +kernel)) (hE.1.2.2.2.1 _ (List.mem_of_getElem? (i := 8) rfl)) (m_hat hE (by decide +kernel) hts) (by decide +kernel) hE hV hS (by rw [hml]; exact hl.1) dX4_addTimed_57 dX4_addTimed_60 dX4_addTimed_61 dX4_addTimed_63 dX4_addTimed_66 hnx (by decide) (by decide) (by decide) (by decide) hlocks (⟨rfl, Or.inr (Or.inl ⟨rfl, by rw [c9]; simp, Or.inr (Or.inr (Or.inr (Or.inl c41)))⟩)⟩) (by decide) (by decide)
          · refine lv_iload hx hb dX4_addTimed_44 (lv_at hl 5 rfl) ?_
            refine lv_iconst (v := 1) hx hb dX4_addTimed_46 (by decide) ?_
            refine lv_icmp_lt (tgt := 57) hx hb dX4_addTimed_47 (by decide) (fun c47 => ?_) (fun c47 => ?_)
            · exact m_throw hx hb hfl (own := RX4) (cls := "java/lang/IllegalArgumentException") (text := "a number is out of range") (names := ["java/lang/RuntimeException", "java/lang/Exception"]) (ik := 62) (is := 117) (ic := 66) hown (by decide) (by decide) kc62 (hts _ (by decide +kernel)) (hE.1.2.2.2.1 _ (List.mem_of_getElem? (i := 8) rfl)) (m_hat hE (by decide +kernel) hts) (by decide +kernel) hE hV hS (by rw [hml]; exact hl.1) dX4_addTimed_57 dX4_addTimed_60 dX4_addTimed_61 dX4_addTimed_63 dX4_addTimed_66 hnx (by decide) (by decide) (by decide) (by decide) hlocks (⟨rfl, Or.inr (Or.inl ⟨rfl, by rw [c9]; simp, Or.inr (Or.inr (Or.inr (Or.inr (Or.inl c47))))⟩)⟩) (by decide) (by decide)
            · refine lv_iload hx hb dX4_addTimed_50 (lv_at hl 5 rfl) ?_
              refine lv_bipush (v := 40) hx hb dX4_addTimed_52 (by decide) ?_
              refine lv_icmp_le (tgt := 67) hx hb dX4_addTimed_54 (by decide) (fun c54 => ?_) (fun c54 => ?_)
              · refine lv_sipush (v := 1000) hx hb dX4_addTimed_67 (by decide) ?_
                refine lv_iload hx hb dX4_addTimed_70 (lv_at hl 5 rfl) ?_
                refine lv_imul hx hb dX4_addTimed_72 ?_
                refine lv_iload_n hx hb dX4_addTimed_73 rfl (lv_at hl 4 rfl) ?_
                refine lv_iadd hx hb dX4_addTimed_74 ?_
                refine lv_iconst (v := 1) hx hb dX4_addTimed_75 (by decide) ?_
                refine lv_isub hx hb dX4_addTimed_76 ?_
                refine lv_iload_n hx hb dX4_addTimed_77 rfl (lv_at hl 4 rfl) ?_
                refine lv_idiv hx hb dX4_addTimed_78 (fun z => c35 (by rw [z]; decide)) ?_
                refine lv_istore (lv' := [(6, .int ((((1000 * x3) + x2) - 1) / x2)), (5, .ref (L 2 k9)), (0, .ref (L 0 0)), (1, .int x0), (2, .int x1), (3, .int x2), (4, .int x3)]) hx hb dX4_addTimed_79 hl (by decide) rfl (fun ls hl => ?_)
                refine lv_aload_n hx hb dX4_addTimed_81 rfl (lv_at hl 2 rfl) ?_
                refine m_calli (va_runV (As := []) (rest := []) ⟨hx, hb, hml, hown, hts⟩ (c_X4_admitted (l := l) (H.size) hC ) (cwV 0 hts gX4_addTimed_X4_admitted rfl rfl rfl (by decide +kernel) ⟨by decide, by decide⟩) (m_preV (r := (RX4, TX4, 11)) hE hV hS hA (hC.at (k := 0) (i := 0) rfl) rfl) rfl rfl hl.1 rfl (lv_room (by first | exact Nat.le_of_ble_eq_true rfl | simp [rf_cat, ct_ref, ct_int, ct_null, ct_long])) dX4_addTimed_82 ⟨by decide, by decide⟩) hV hS hA (fun r h1 H locs hV hS hp _ => ?_)
                obtain ⟨e1, e2⟩ := hp
                subst e2
                rw [e1] at hV; clear e1
                refine lv_iload hx hb dX4_addTimed_85 (lv_at hl 0 rfl) ?_
                refine lv_iadd hx hb dX4_addTimed_87 ?_
                refine lv_sipush (v := 1000) hx hb dX4_addTimed_88 (by decide) ?_
                refine lv_aload_n hx hb dX4_addTimed_91 rfl (lv_at hl 2 rfl) ?_
                refine m_calli (va_runV (As := []) (rest := [.int 1000, .int ((sumI (fun t => if kB σ 36 t = true then 0 else kI σ 39 t) (kN σ 62 2)) + ((((1000 * x3) + x2) - 1) / x2))]) ⟨hx, hb, hml, hown, hts⟩ (c_X4_promise (l := l) (H.size) hC ) (cwV 0 hts gX4_addTimed_X4_promise rfl rfl rfl (by decide +kernel) ⟨by decide, by decide⟩) (m_preV (r := (RX4, TX4, 11)) hE hV hS hA (hC.at (k := 0) (i := 0) rfl) rfl) rfl rfl hl.1 rfl (lv_room (by first | exact Nat.le_of_ble_eq_true rfl | simp [rf_cat, ct_ref, ct_int, ct_null, ct_long])) dX4_addTimed_92 ⟨by decide, by decide⟩) hV hS hA (fun r h1 H locs hV hS hp _ => ?_)
                obtain ⟨e1, e2⟩ := hp
                subst e2
                rw [e1] at hV; clear e1
                refine lv_imul hx hb dX4_addTimed_95 ?_
                refine lv_icmp_le (tgt := 109) hx hb dX4_addTimed_96 (by decide) (fun c96 => ?_) (fun c96 => ?_)
                · refine lv_aload_n hx hb dX4_addTimed_109 rfl (lv_at hl 2 rfl) ?_
                  refine m_get (C := RX4) (T := TX4) (N := 11) hx hb hts hi_X4 hown hK hV 2 (v := .ref (L 5 2)) (g_kern2 hC rfl) rfl (by decide) k21 (fun _ h9 => h9) dX4_addTimed_110 ?_
                  refine m_calli (va_runV (As := []) (rest := []) ⟨hx, hb, hml, hown, hts⟩ (l_size (H.size) hC 2 (by decide)) (cwV 0 hts gX4_addTimed_Jx4a65c_size_8abf5 rfl rfl rfl (by decide +kernel) ⟨by decide, by decide⟩) (m_preV (r := (RJx4a65c, TJx4a65c, 3)) hE hV hS hA (CRep.atL hC (j := 2) (by decide)) rfl) rfl rfl hl.1 rfl (lv_room (by first | exact Nat.le_of_ble_eq_true rfl | simp [rf_cat, ct_ref, ct_int, ct_null, ct_long])) dX4_addTimed_113 ⟨by decide, by decide⟩) hV hS hA (fun r h1 H locs hV hS hp _ => ?_)
                  obtain ⟨e1, e2⟩ := hp
                  subst e2
                  rw [e1] at hV; clear e1
                  refine lv_istore (lv' := [(7, .int (nI (kN σ 62 2))), (6, .int ((((1000 * x3) + x2) - 1) / x2)), (5, .ref (L 2 k9)), (0, .ref (L 0 0)), (1, .int x0), (2, .int x1), (3, .int x2), (4, .int x3)]) hx hb dX4_addTimed_116 hl (by decide) rfl (fun ls hl => ?_)
                  refine lv_iload hx hb dX4_addTimed_118 (lv_at hl 0 rfl) ?_
                  refine lv_bipush (v := 12) hx hb dX4_addTimed_120 (by decide) ?_
                  refine lv_icmp_lt (tgt := 135) hx hb dX4_addTimed_122 (by decide) (fun c122 => ?_) (fun c122 => ?_)
                  · replace c122 : kN σ 62 2 < 12 := (nI_ltI (a := kN σ 62 2) (b := 12) (by omega) (by omega)).mp c122
                    refine m_newo (ci := 6) (fs := [.int 0, .null, .int 0, .long 0, .int 0, .int 0, .int 0, .int 0, .int 0, .int 0, .int 0, .int 0, .null, .null, .int 0, .int 0]) (C := RX3) (T := TX3) (N := 16) hx hb hts hi_X3 tyX3 tyX3_ok hown kc121 (hts (.instantiable RX3 16) (by decide +kernel)) (hts (.initialized RX3) (by decide +kernel)) hK hV hS hA rfl (fun j hj => match j, hj with | 0, _ => rfl | 1, _ => rfl | 2, _ => rfl | 3, _ => rfl | 4, _ => rfl | 5, _ => rfl | 6, _ => rfl | 7, _ => rfl | 8, _ => rfl | 9, _ => rfl | 10, _ => rfl | 11, _ => rfl | 12, _ => rfl | 13, _ => rfl | 14, _ => rfl | 15, _ => rfl | n + 16, h9 => absurd h9 (by omega)) (by decide) (by decide) dX4_addTimed_135 (fun q135 H eq135 hV hS => ?_)
                    have hC0 := hC
                    replace hC := hC0.fresh eq135 (.inr (6, [.int 0, .null, .int 0, .long 0, .int 0, .int 0, .int 0, .int 0, .int 0, .int 0, .int 0, .int 0, .null, .null, .int 0, .int 0]))
                    refine lv_dup hx hb dX4_addTimed_138 rfl ?_
                    refine lv_iload hx hb dX4_addTimed_139 (lv_at hl 0 rfl) ?_
                    refine lv_aload hx hb dX4_addTimed_141 (lv_at hl 2 rfl) ?_
                    refine lv_sipush (v := 2520) hx hb dX4_addTimed_143 (by decide) ?_
                    refine lv_iload_n hx hb dX4_addTimed_146 rfl (lv_at hl 5 rfl) ?_
                    refine lv_idiv hx hb dX4_addTimed_147 (fun z => c24 (by rw [z]; decide)) ?_
                    refine lv_aload_n hx hb dX4_addTimed_148 rfl (lv_at hl 3 rfl) ?_
                    refine lv_aload hx hb dX4_addTimed_149 (lv_at hl 2 rfl) ?_
                    refine m_calll (va_runV (As := [.ref (L 2 k9)]) (rest := [.int (2520 / x1), .ref (L 2 k9), .int (nI (kN σ 62 2)), .ref q135, .ref q135]) ⟨hx, hb, hml, hown, hts⟩ (c_X4_leastTimeIn (l := l) (H.size) hC k9 (by first | assumption | omega)) (cwV 1 hts gX4_addTimed_X4_leastTimeIn rfl rfl rfl (by decide +kernel) ⟨by decide, by decide⟩) (m_preV (r := (RX4, TX4, 11)) hE hV hS hA (hC.at (k := 0) (i := 0) rfl) rfl) rfl rfl hl.1 rfl (lv_room (by first | exact Nat.le_of_ble_eq_true rfl | simp [rf_cat, ct_ref, ct_int, ct_null, ct_long])) dX4_addTimed_151 ⟨by decide, by decide⟩) hV hS hA (fun r h1 H locs hV hS hp _ => ?_)
                    obtain ⟨e1, e2⟩ := hp
                    subst e2
                    rw [e1] at hV; clear e1
                    refine lv_iload hx hb dX4_addTimed_154 (lv_at hl 7 rfl) ?_
                    refine m_callv (va_runIN (As := [.int (nI (kN σ 62 2)), .ref (L 2 k9), .int (2520 / x1), .long (leastS σ k9), .int x3]) (rest := [.ref q135]) ⟨hx, hb, hml, hown, hts⟩ (c_X3_init (l := l) (D := D) (cs := cs) (df := df) (hh := (mu hh q135 (.inr (6, [.int 0, .null, .int 0, .long 0, .int 0, .int 0, .int 0, .int 0, .int 0, .int 0, .int 0, .int 0, .null, .null, .int 0, .int 0])))) (H.size) q135 (nI (kN σ 62 2)) (L 2 k9) (2520 / x1) (leastS σ k9) x3 (mu_s _ _ _)) ⟨va_cnB 5 hts gX4_addTimed_X3_init_n123 rfl rfl rfl kq123 (hts (.initialized RX3) (by decide +kernel)) (by decide +kernel) ⟨by decide, by decide⟩, rfl, hts (.instanceMethod yX3_init) (by decide +kernel)⟩ (m_preS hE hV hS hA) rfl rfl hl.1 rfl (lv_room (by first | exact Nat.le_of_ble_eq_true rfl | simp [rf_cat, ct_ref, ct_int, ct_null, ct_long])) dX4_addTimed_156 ⟨by decide, by decide⟩) hV hS hA (fun h1 H locs hV hS hp _ => ?_)
                    rw [hp] at hV; clear hp
                    rw [m_mm] at hV
                    replace hC := hC0.fresh eq135 (.inr (6, [.int (nI (kN σ 62 2)), .ref (L 2 k9), .int (2520 / x1), .long (leastS σ k9), .int x3, .int 0, .int 0, .int 0, .int 0, .int 0, .int 0, .int 0, .null, .null, .int 0, .int 0]))
                    refine lv_astore (lv' := [(8, .ref q135), (7, .int (nI (kN σ 62 2))), (6, .int ((((1000 * x3) + x2) - 1) / x2)), (5, .ref (L 2 k9)), (0, .ref (L 0 0)), (1, .int x0), (2, .int x1), (3, .int x2), (4, .int x3)]) hx hb dX4_addTimed_159 hl (by decide) rfl (fun ls hl => ?_)
                    refine lv_aload hx hb dX4_addTimed_161 (lv_at hl 0 rfl) ?_
                    refine lv_iload_n hx hb dX4_addTimed_163 rfl (lv_at hl 7 rfl) ?_
                    refine m_putN (host := "TaskKernel") (C := RX3) (T := TX3) (N := 16) (v := .int x2) (Rp := fun h8 => h8 = mu (mu hh q135 (.inr (6, [.int (nI (kN σ 62 2)), .ref (L 2 k9), .int (2520 / x1), .long (leastS σ k9), .int x3, .int 0, .int 0, .int 0, .int 0, .int 0, .int 0, .int 0, .null, .null, .int 0, .int 0]))) q135 (.inr (6, [.int (nI (kN σ 62 2)), .ref (L 2 k9), .int (2520 / x1), .long (leastS σ k9), .int x3, .int 0, .int 0, .int x2, .int 0, .int 0, .int 0, .int 0, .null, .null, .int 0, .int 0]))) hx hb hts hi_X3 tyX3 tyX3_ok nmX3 hown hK hV hS 7 ⟨_, (mu_s _ _ _), Nat.le_of_ble_eq_true rfl, rfl⟩ rfl (by decide) kn137 (fun _ h9 => h9) rfl (tyX3_ok 7 (by decide)) rfl rfl dX4_addTimed_164 (fun h9 H locs hV hS e9 => ?_)
                    subst e9
                    rw [m_mm] at hV
                    replace hC := hC0.fresh eq135 (.inr (6, [.int (nI (kN σ 62 2)), .ref (L 2 k9), .int (2520 / x1), .long (leastS σ k9), .int x3, .int 0, .int 0, .int x2, .int 0, .int 0, .int 0, .int 0, .null, .null, .int 0, .int 0]))
                    refine lv_aload hx hb dX4_addTimed_167 (lv_at hl 0 rfl) ?_
                    refine lv_iload hx hb dX4_addTimed_169 (lv_at hl 8 rfl) ?_
                    refine m_putN (host := "TaskKernel") (C := RX3) (T := TX3) (N := 16) (v := .int x3) (Rp := fun h8 => h8 = mu (mu hh q135 (.inr (6, [.int (nI (kN σ 62 2)), .ref (L 2 k9), .int (2520 / x1), .long (leastS σ k9), .int x3, .int 0, .int 0, .int x2, .int 0, .int 0, .int 0, .int 0, .null, .null, .int 0, .int 0]))) q135 (.inr (6, [.int (nI (kN σ 62 2)), .ref (L 2 k9), .int (2520 / x1), .long (leastS σ k9), .int x3, .int 0, .int 0, .int x2, .int x3, .int 0, .int 0, .int 0, .null, .null, .int 0, .int 0]))) hx hb hts hi_X3 tyX3 tyX3_ok nmX3 hown hK hV hS 8 ⟨_, (mu_s _ _ _), Nat.le_of_ble_eq_true rfl, rfl⟩ rfl (by decide) kn140 (fun _ h9 => h9) rfl (tyX3_ok 8 (by decide)) rfl rfl dX4_addTimed_171 (fun h9 H locs hV hS e9 => ?_)
                    subst e9
                    rw [m_mm] at hV
                    replace hC := hC0.fresh eq135 (.inr (6, [.int (nI (kN σ 62 2)), .ref (L 2 k9), .int (2520 / x1), .long (leastS σ k9), .int x3, .int 0, .int 0, .int x2, .int x3, .int 0, .int 0, .int 0, .null, .null, .int 0, .int 0]))
                    refine lv_aload hx hb dX4_addTimed_174 (lv_at hl 0 rfl) ?_
                    refine lv_iload hx hb dX4_addTimed_176 (lv_at hl 2 rfl) ?_
                    refine m_putN (host := "TaskKernel") (C := RX3) (T := TX3) (N := 16) (v := .int ((((1000 * x3) + x2) - 1) / x2)) (Rp := fun h8 => h8 = mu (mu hh q135 (.inr (6, [.int (nI (kN σ 62 2)), .ref (L 2 k9), .int (2520 / x1), .long (leastS σ k9), .int x3, .int 0, .int 0, .int x2, .int x3, .int 0, .int 0, .int 0, .null, .null, .int 0, .int 0]))) q135 (.inr (6, [.int (nI (kN σ 62 2)), .ref (L 2 k9), .int (2520 / x1), .long (leastS σ k9), .int x3, .int 0, .int 0, .int x2, .int x3, .int ((((1000 * x3) + x2) - 1) / x2), .int 0, .int 0, .null, .null, .int 0, .int 0]))) hx hb hts hi_X3 tyX3 tyX3_ok nmX3 hown hK hV hS 9 ⟨_, (mu_s _ _ _), Nat.le_of_ble_eq_true rfl, rfl⟩ rfl (by decide) kn143 (fun _ h9 => h9) rfl (tyX3_ok 9 (by decide)) rfl rfl dX4_addTimed_178 (fun h9 H locs hV hS e9 => ?_)
                    subst e9
                    rw [m_mm] at hV
                    replace hC := hC0.fresh eq135 (.inr (6, [.int (nI (kN σ 62 2)), .ref (L 2 k9), .int (2520 / x1), .long (leastS σ k9), .int x3, .int 0, .int 0, .int x2, .int x3, .int ((((1000 * x3) + x2) - 1) / x2), .int 0, .int 0, .null, .null, .int 0, .int 0]))
                    refine lv_aload hx hb dX4_addTimed_181 (lv_at hl 0 rfl) ?_
                    refine lv_aload_n hx hb dX4_addTimed_183 rfl (lv_at hl 4 rfl) ?_
                    refine m_get (C := RX4) (T := TX4) (N := 11) hx hb hts hi_X4 hown hK hV 7 (v := .int (kI σ 2 0)) (g_kern7 hC rfl) rfl (by decide) k43 (fun _ h9 => h9) dX4_addTimed_184 ?_
                    refine lv_iload_n hx hb dX4_addTimed_187 rfl (lv_at hl 7 rfl) ?_
                    refine lv_iadd hx hb dX4_addTimed_188 ?_
                    refine m_putN (host := "TaskKernel") (C := RX3) (T := TX3) (N := 16) (v := .int ((kI σ 2 0) + x2)) (Rp := fun h8 => h8 = mu (mu hh q135 (.inr (6, [.int (nI (kN σ 62 2)), .ref (L 2 k9), .int (2520 / x1), .long (leastS σ k9), .int x3, .int 0, .int 0, .int x2, .int x3, .int ((((1000 * x3) + x2) - 1) / x2), .int 0, .int 0, .null, .null, .int 0, .int 0]))) q135 (.inr (6, [.int (nI (kN σ 62 2)), .ref (L 2 k9), .int (2520 / x1), .long (leastS σ k9), .int x3, .int 0, .int 0, .int x2, .int x3, .int ((((1000 * x3) + x2) - 1) / x2), .int ((kI σ 2 0) + x2), .int 0, .null, .null, .int 0, .int 0]))) hx hb hts hi_X3 tyX3 tyX3_ok nmX3 hown hK hV hS 10 ⟨_, (mu_s _ _ _), Nat.le_of_ble_eq_true rfl, rfl⟩ rfl (by decide) kn146 (fun _ h9 => h9) rfl (tyX3_ok 10 (by decide)) rfl rfl dX4_addTimed_189 (fun h9 H locs hV hS e9 => ?_)
                    subst e9
                    rw [m_mm] at hV
                    replace hC := hC0.fresh eq135 (.inr (6, [.int (nI (kN σ 62 2)), .ref (L 2 k9), .int (2520 / x1), .long (leastS σ k9), .int x3, .int 0, .int 0, .int x2, .int x3, .int ((((1000 * x3) + x2) - 1) / x2), .int ((kI σ 2 0) + x2), .int 0, .null, .null, .int 0, .int 0]))
                    refine lv_aload_n hx hb dX4_addTimed_192 rfl (lv_at hl 4 rfl) ?_
                    refine m_get (C := RX4) (T := TX4) (N := 11) hx hb hts hi_X4 hown hK hV 2 (v := .ref (L 5 2)) (g_kern2 hC rfl) rfl (by decide) k21 (fun _ h9 => h9) dX4_addTimed_193 ?_
                    refine lv_aload hx hb dX4_addTimed_196 (lv_at hl 0 rfl) ?_
                    refine m_calli (va_runV (As := [.ref q135]) (rest := []) ⟨hx, hb, hml, hown, hts⟩ (l_addT (H.size) hC0 k9 (2520 / x1) (leastS σ k9) x3 x2 x3 ((((1000 * x3) + x2) - 1) / x2) ((kI σ 2 0) + x2) q135 eq135 (by omega) (by assumption) rfl) (cwV 1 hts gX4_addTimed_Jx4a65c_add_9ea2d rfl rfl rfl (by decide +kernel) ⟨by decide, by decide⟩) (m_preV (r := (RJx4a65c, TJx4a65c, 3)) hE hV hS hA (CRep.atL hC (j := 2) (by decide)) rfl) rfl rfl hl.1 rfl (lv_room (by first | exact Nat.le_of_ble_eq_true rfl | simp [rf_cat, ct_ref, ct_int, ct_null, ct_long])) dX4_addTimed_198 ⟨by decide, by decide⟩) hV hS hA (fun r h1 H locs hV hS hp _ => ?_)
                    obtain ⟨hC, e2⟩ := hp
                    subst e2
                    refine lv_pop hx hb dX4_addTimed_201 rfl ?_
                    refine lv_iload hx hb dX4_addTimed_202 (lv_at hl 1 rfl) ?_
                    exact vx_ret (m_iret (v := nI (kN σ 62 2)) hx hb hr hlocks hV hS (⟨k9, c9, (fun z => z.elim c24 (fun z => z.elim c30 (fun z => z.elim c35 (fun z => z.elim c41 (fun z => z.elim c47 (Int32.not_lt.mpr c54)))))), c96, c122, ⟨_, Lnew_k L (by decide), hC⟩, rfl⟩) dX4_addTimed_204)
                  · replace c122 : ¬ kN σ 62 2 < 12 := fun q9 => c122 ((nI_ltI (a := kN σ 62 2) (b := 12) (by omega) (by omega)).mpr q9)
                    exact m_throw hx hb hfl (own := RX4) (cls := "java/lang/IllegalStateException") (text := "there are as many tasks as there may be") (names := ["java/lang/RuntimeException", "java/lang/Exception"]) (ik := 73) (is := 119) (ic := 77) hown (by decide) (by decide) kc73 (hts _ (by decide +kernel)) (hE.1.2.2.2.1 _ (List.mem_of_getElem? (i := 9) rfl)) (m_hat hE (by decide +kernel) hts) (by decide +kernel) hE hV hS (by rw [hml]; exact hl.1) dX4_addTimed_125 dX4_addTimed_128 dX4_addTimed_129 dX4_addTimed_131 dX4_addTimed_134 hnx (by decide) (by decide) (by decide) (by decide) hlocks (⟨rfl, Or.inr (Or.inr (Or.inr ⟨rfl, by rw [c9]; simp, (fun z => z.elim c24 (fun z => z.elim c30 (fun z => z.elim c35 (fun z => z.elim c41 (fun z => z.elim c47 (Int32.not_lt.mpr c54)))))), c96, c122⟩))⟩) (by decide) (by decide)
                · exact m_throw hx hb hfl (own := RX4) (cls := "java/lang/UnsupportedOperationException") (text := "the task is not admitted") (names := ["java/lang/RuntimeException", "java/lang/Exception"]) (ik := 132) (is := 134) (ic := 136) hown (by decide) (by decide) kc132 (hts _ (by decide +kernel)) (hE.1.2.2.2.1 _ (List.mem_of_getElem? (i := 10) rfl)) (m_hat hE (by decide +kernel) hts) (by decide +kernel) hE hV hS (by rw [hml]; exact hl.1) dX4_addTimed_99 dX4_addTimed_102 dX4_addTimed_103 dX4_addTimed_105 dX4_addTimed_108 hnx (by decide) (by decide) (by decide) (by decide) hlocks (⟨rfl, Or.inr (Or.inr (Or.inl ⟨rfl, by rw [c9]; simp, (fun z => z.elim c24 (fun z => z.elim c30 (fun z => z.elim c35 (fun z => z.elim c41 (fun z => z.elim c47 (Int32.not_lt.mpr c54)))))), c96⟩))⟩) (by decide) (by decide)
              · exact m_throw hx hb hfl (own := RX4) (cls := "java/lang/IllegalArgumentException") (text := "a number is out of range") (names := ["java/lang/RuntimeException", "java/lang/Exception"]) (ik := 62) (is := 117) (ic := 66) hown (by decide) (by decide) kc62 (hts _ (by decide +kernel)) (hE.1.2.2.2.1 _ (List.mem_of_getElem? (i := 8) rfl)) (m_hat hE (by decide +kernel) hts) (by decide +kernel) hE hV hS (by rw [hml]; exact hl.1) dX4_addTimed_57 dX4_addTimed_60 dX4_addTimed_61 dX4_addTimed_63 dX4_addTimed_66 hnx (by decide) (by decide) (by decide) (by decide) hlocks (⟨rfl, Or.inr (Or.inl ⟨rfl, by rw [c9]; simp, Or.inr (Or.inr (Or.inr (Or.inr (Or.inr (Int32.not_le.mp c54)))))⟩)⟩) (by decide) (by decide)
  · replace hl : lv_has ls 9 [(5, .null), (0, .ref (L 0 0)), (1, .int x0), (2, .int x1), (3, .int x2), (4, .int x3)] := by have h9 := hl; rw [c9] at h9; exact h9
    exact m_throw hx hb hfl (own := RX4) (cls := "java/lang/IndexOutOfBoundsException") (text := "there is no such group") (names := ["java/lang/RuntimeException", "java/lang/Exception"]) (ik := 91) (is := 107) (ic := 95) hown (by decide) (by decide) kc91 (hts _ (by decide +kernel)) (hE.1.2.2.2.1 _ (List.mem_of_getElem? (i := 5) rfl)) (m_hat hE (by decide +kernel) hts) (by decide +kernel) hE hV hS (by rw [hml]; exact hl.1) dX4_addTimed_12 dX4_addTimed_15 dX4_addTimed_16 dX4_addTimed_18 dX4_addTimed_21 hnx (by decide) (by decide) (by decide) (by decide) hlocks (⟨rfl, Or.inl ⟨rfl, c9⟩⟩) (by decide) (by decide)
