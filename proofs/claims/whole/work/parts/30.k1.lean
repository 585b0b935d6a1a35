def paceS (sp ht lim : Int32) : Int32 := if lim ≤ ht then (sp + 1) / 2 else sp
set_option maxHeartbeats 4000000 in
set_option maxRecDepth 100000 in
theorem c_X0_paceUnder {l : Launch} {D : va_G} {cs : mC} {df : Nat} {P : Nat → Prop} {h0 : mH} {L : KL} {σ : KS} {hh : mH} (sz : Nat) (hC : CRep cs df P h0 L σ hh) (i : Nat) (x0 : Int32) (hi : i < kN σ 62 0) : Met l yX0_paceUnder wsX0_paceUnder ({ frames := 0, cells := 0, slots := 0, locals := 0 }) (mPre [.ref (L 1 i), .int x0] D cs df hh sz) (va_Qi ((fun (r : Int32) (h1 : mH) => h1 = hh ∧ r = (paceS (kI σ 10 i) (kI σ 11 i) x0))) (mB D hh sz) (mA hh sz)) 0 0 (mA hh sz) := by
  refine Met.ofW (cc := cX0_paceUnder) (maxL := 2) (ret := (some .int)) (by decide) rfl ?_
  intro p e s m args below meth c s₁ B0 hml hv
  obtain ⟨hargs, hsz, hV, hE⟩ := hv
  subst hsz
  have hx := B0.exec
  have hb := B0.bytes
  have hr := B0.returns
  have hlocks := B0.notSynchronized
  have hts := atoms_spec (ws := wsX0_paceUnder) B0.pre
  have hown : s.vm.findClass RX0 = some m.cls := findClass_of_methodNamed B0.named
  have hK := hE.1.1
  have hA : ∀ q : Nat, s.heap.size ≤ q → mA hh s.heap.size q := mA.top
  have hS : va_S (mA hh s.heap.size) s.heap s.heap [] := va_S.rf
  have hi_X0 : ∀ w ∈ u_ws RX0 TX0 3, w ∈ wsX0_paceUnder := by decide +kernel
  have k13 : (Cond.fieldLink RX0 13 "TaskKernel$Core" "heat" "I").before args s = true := hts _ (by decide +kernel)
  have k7 : (Cond.fieldLink RX0 7 "TaskKernel$Core" "speed" "I").before args s = true := hts _ (by decide +kernel)
  have hl := lv_entry ([.ref (L 1 i), .int x0]) (n := 2) (by first | exact Nat.le_of_ble_eq_true rfl | simp [lg_sl, rf_cat, ct_ref, ct_int, ct_null, ct_long])
  have hent := lg_entry_eq m ([.ref (L 1 i), .int x0]) 2
  rw [← hargs] at hent
  rw [hent]
  generalize (lg_sl ([.ref (L 1 i), .int x0]) ++ List.replicate (2 - (lg_sl ([.ref (L 1 i), .int x0])).length) Slot.unset).toArray = ls at hl ⊢
  replace hl : lv_has ls 2 [(0, .ref (L 1 i)), (1, .int x0)] := hl
  refine lv_aload_n hx hb dX0_paceUnder_0 rfl (lv_at hl 0 rfl) ?_
  refine m_get (C := RX0) (T := TX0) (N := 3) hx hb hts hi_X0 hown hK hV 1 (v := .int (kI σ 11 i)) (g_core1 hC (by first | assumption | (show i < kN σ 62 0; omega))) rfl (by decide) k13 (fun _ h9 => h9) dX0_paceUnder_1 ?_
  refine lv_iload_n hx hb dX0_paceUnder_4 rfl (lv_at hl 1 rfl) ?_
  refine lv_icmp_ge (tgt := 15) hx hb dX0_paceUnder_5 (by decide) (fun c5 => ?_) (fun c5 => ?_)
  · refine lv_aload_n hx hb dX0_paceUnder_15 rfl (lv_at hl 0 rfl) ?_
    refine m_get (C := RX0) (T := TX0) (N := 3) hx hb hts hi_X0 hown hK hV 0 (v := .int (kI σ 10 i)) (g_core0 hC (by first | assumption | (show i < kN σ 62 0; omega))) rfl (by decide) k7 (fun _ h9 => h9) dX0_paceUnder_16 ?_
    refine lv_iconst (v := 1) hx hb dX0_paceUnder_19 (by decide) ?_
    refine lv_iadd hx hb dX0_paceUnder_20 ?_
    refine lv_iconst (v := 2) hx hb dX0_paceUnder_21 (by decide) ?_
    refine lv_idiv hx hb dX0_paceUnder_22 (by decide) ?_
    exact m_iret (v := (((kI σ 10 i) + 1) / 2)) hx hb hr hlocks hV hS (⟨rfl, by first | rfl | simp [paceS, c5]⟩) dX0_paceUnder_23
  · refine lv_aload_n hx hb dX0_paceUnder_8 rfl (lv_at hl 0 rfl) ?_
    refine m_get (C := RX0) (T := TX0) (N := 3) hx hb hts hi_X0 hown hK hV 0 (v := .int (kI σ 10 i)) (g_core0 hC (by first | assumption | (show i < kN σ 62 0; omega))) rfl (by decide) k7 (fun _ h9 => h9) dX0_paceUnder_9 ?_
    refine lv_goto (tgt := 23) hx hb dX0_paceUnder_12 (by decide) ?_
    exact m_iret (v := (kI σ 10 i)) hx hb hr hlocks hV hS (⟨rfl, by first | rfl | simp [paceS, c5]⟩) dX0_paceUnder_23
set_option maxHeartbeats 4000000 in
set_option maxRecDepth 100000 in
theorem c_X3_isTimed {l : Launch} {D : va_G} {cs : mC} {df : Nat} {P : Nat → Prop} {h0 : mH} {L : KL} {σ : KS} {hh : mH} (sz : Nat) (hC : CRep cs df P h0 L σ hh) (i : Nat) (hi : i < kN σ 62 2) : Met l yX3_isTimed wsX3_isTimed ({ frames := 0, cells := 0, slots := 0, locals := 0 }) (mPre [.ref (L 3 i)] D cs df hh sz) (va_Qi ((fun (r : Int32) (h1 : mH) => h1 = hh ∧ r = bI (decide (0 < kI σ 37 i)))) (mB D hh sz) (mA hh sz)) 0 0 (mA hh sz) := by
  refine Met.ofW (cc := cX3_isTimed) (maxL := 1) (ret := (some .boolean)) (by decide) rfl ?_
  intro p e s m args below meth c s₁ B0 hml hv
  obtain ⟨hargs, hsz, hV, hE⟩ := hv
  subst hsz
  have hx := B0.exec
  have hb := B0.bytes
  have hr := B0.returns
  have hlocks := B0.notSynchronized
  have hts := atoms_spec (ws := wsX3_isTimed) B0.pre
  have hown : s.vm.findClass RX3 = some m.cls := findClass_of_methodNamed B0.named
  have hK := hE.1.1
  have hA : ∀ q : Nat, s.heap.size ≤ q → mA hh s.heap.size q := mA.top
  have hS : va_S (mA hh s.heap.size) s.heap s.heap [] := va_S.rf
  have hi_X3 : ∀ w ∈ u_ws RX3 TX3 16, w ∈ wsX3_isTimed := by decide +kernel
  have k29 : (Cond.fieldLink RX3 29 "TaskKernel$Task" "period" "I").before args s = true := hts _ (by decide +kernel)
  have hl := lv_entry ([.ref (L 3 i)]) (n := 1) (by first | exact Nat.le_of_ble_eq_true rfl | simp [lg_sl, rf_cat, ct_ref, ct_int, ct_null, ct_long])
  have hent := lg_entry_eq m ([.ref (L 3 i)]) 1
  rw [← hargs] at hent
  rw [hent]
  generalize (lg_sl ([.ref (L 3 i)]) ++ List.replicate (1 - (lg_sl ([.ref (L 3 i)])).length) Slot.unset).toArray = ls at hl ⊢
  replace hl : lv_has ls 1 [(0, .ref (L 3 i))] := hl
  refine lv_aload_n hx hb dX3_isTimed_0 rfl (lv_at hl 0 rfl) ?_
  refine m_get (C := RX3) (T := TX3) (N := 16) hx hb hts hi_X3 hown hK hV 7 (v := .int (kI σ 37 i)) (g_task7 hC (by first | assumption | (show i < kN σ 62 2; omega))) rfl (by decide) k29 (fun _ h9 => h9) dX3_isTimed_1 ?_
  refine lv_if_le (tgt := 11) hx hb dX3_isTimed_4 (by decide) (fun c4 => ?_) (fun c4 => ?_)
  · refine lv_iconst (v := 0) hx hb dX3_isTimed_11 (by decide) ?_
    exact m_zret (v := 0) hx hb hr hlocks (by decide) hV hS (⟨rfl, by rw [decide_eq_false (by simpa using c4)]; rfl⟩) dX3_isTimed_12
  · refine lv_iconst (v := 1) hx hb dX3_isTimed_7 (by decide) ?_
    refine lv_goto (tgt := 12) hx hb dX3_isTimed_8 (by decide) ?_
    exact m_zret (v := 1) hx hb hr hlocks (by decide) hV hS (⟨rfl, by rw [decide_eq_true (by first | exact c4 | simpa using c4)]; rfl⟩) dX3_isTimed_12
set_option maxHeartbeats 4000000 in
set_option maxRecDepth 100000 in
theorem c_X4_coreAt {l : Launch} {D : va_G} {cs : mC} {df : Nat} {P : Nat → Prop} {h0 : mH} {L : KL} {σ : KS} {hh : mH} (sz : Nat) (hC : CRep cs df P h0 L σ hh) (x0 : Int32) : Met l yX4_coreAt wsX4_coreAt ({ frames := 3, cells := 0, slots := 0, locals := 64 }) (mPre [.ref (L 0 0), .int x0] D cs df hh sz) (va_Qq ((fun (r : Option Nat) (h1 : mH) => h1 = hh ∧ r = (((inR x0 (kN σ 62 0))).map (L 1)))) (mB D hh sz) (mA hh sz)) 0 0 (mA hh sz) := by
  refine Met.ofW (cc := cX4_coreAt) (maxL := 2) (ret := (some (.object "TaskKernel$Core"))) (by decide) rfl ?_
  intro p e s m args below meth c s₁ B0 hml hv
  obtain ⟨hargs, hsz, hV, hE⟩ := hv
  subst hsz
  have hx := B0.exec
  have hb := B0.bytes
  have hr := B0.returns
  have hlocks := B0.notSynchronized
  have hts := atoms_spec (ws := wsX4_coreAt) B0.pre
  have hown : s.vm.findClass RX4 = some m.cls := findClass_of_methodNamed B0.named
  have hK := hE.1.1
  have hA : ∀ q : Nat, s.heap.size ≤ q → mA hh s.heap.size q := mA.top
  have hS : va_S (mA hh s.heap.size) s.heap s.heap [] := va_S.rf
  have hi_X4 : ∀ w ∈ u_ws RX4 TX4 11, w ∈ wsX4_coreAt := by decide +kernel
  have k12 : (Cond.fieldLink RX4 12 "TaskKernel" "cores" "Ljava/util/ArrayList;").before args s = true := hts _ (by decide +kernel)
  have kc78 : (Cond.classLink RX4 78 "TaskKernel$Core").before args s = true := hts _ (by decide +kernel)
  have hl := lv_entry ([.ref (L 0 0), .int x0]) (n := 2) (by first | exact Nat.le_of_ble_eq_true rfl | simp [lg_sl, rf_cat, ct_ref, ct_int, ct_null, ct_long])
  have hent := lg_entry_eq m ([.ref (L 0 0), .int x0]) 2
  rw [← hargs] at hent
  rw [hent]
  generalize (lg_sl ([.ref (L 0 0), .int x0]) ++ List.replicate (2 - (lg_sl ([.ref (L 0 0), .int x0])).length) Slot.unset).toArray = ls at hl ⊢
  replace hl : lv_has ls 2 [(0, .ref (L 0 0)), (1, .int x0)] := hl
  have hwf := hC.wf
  obtain ⟨⟨z0, z1, z2, z3, z4⟩, z5, z6, z7, z8, z9, z10, z11, z12⟩ := hwf
  refine lv_iload_n hx hb dX4_coreAt_0 rfl (lv_at hl 1 rfl) ?_
  refine lv_if_lt (tgt := 15) hx hb dX4_coreAt_1 (by decide) (fun c1 => ?_) (fun c1 => ?_)
  · refine lv_null hx hb dX4_coreAt_15 ?_
    refine lv_goto (tgt := 30) hx hb dX4_coreAt_16 (by decide) ?_
    exact m_aret (v := none) hx hb hr hlocks (Or.inl ⟨_, rfl⟩) hV hS (⟨rfl, by rw [inR_lt0 c1]; rfl⟩) dX4_coreAt_30
  · refine lv_iload_n hx hb dX4_coreAt_4 rfl (lv_at hl 1 rfl) ?_
    refine lv_aload_n hx hb dX4_coreAt_5 rfl (lv_at hl 0 rfl) ?_
    refine m_get (C := RX4) (T := TX4) (N := 11) hx hb hts hi_X4 hown hK hV 0 (v := .ref (L 5 0)) (g_kern0 hC rfl) rfl (by decide) k12 (fun _ h9 => h9) dX4_coreAt_6 ?_
    refine m_calli (va_runV (As := []) (rest := [.int x0]) ⟨hx, hb, hml, hown, hts⟩ (l_size (s.heap.size) hC 0 (by decide)) (cwV 0 hts gX4_coreAt_Jx4a65c_size_8abf5 rfl rfl rfl (by decide +kernel) ⟨by decide, by decide⟩) (m_preV (r := (RJx4a65c, TJx4a65c, 3)) hE hV hS hA (CRep.atL hC (j := 0) (by decide)) rfl) rfl rfl hl.1 rfl (lv_room (by first | exact Nat.le_of_ble_eq_true rfl | simp [rf_cat, ct_ref, ct_int, ct_null, ct_long])) dX4_coreAt_9 ⟨by decide, by decide⟩) hV hS hA (fun r h1 H locs hV hS hp _ => ?_)
    obtain ⟨e1, e2⟩ := hp
    subst e2
    rw [e1] at hV; clear e1
    refine lv_icmp_lt (tgt := 19) hx hb dX4_coreAt_12 (by decide) (fun c12 => ?_) (fun c12 => ?_)
    · obtain ⟨t, ht0, rfl, ht⟩ := inR_mid (n := kN σ 62 0) (by omega) c1 (Int32.not_le.mpr c12)
      refine lv_aload_n hx hb dX4_coreAt_19 rfl (lv_at hl 0 rfl) ?_
      refine m_get (C := RX4) (T := TX4) (N := 11) hx hb hts hi_X4 hown hK hV 0 (v := .ref (L 5 0)) (g_kern0 hC rfl) rfl (by decide) k12 (fun _ h9 => h9) dX4_coreAt_20 ?_
      refine lv_iload_n hx hb dX4_coreAt_23 rfl (lv_at hl 1 rfl) ?_
      refine m_callq (va_runV (As := [.int (nI t)]) (rest := []) ⟨hx, hb, hml, hown, hts⟩ (l_get0 (H.size) hC t (by first | assumption | omega)) (cwV 1 hts gX4_coreAt_Jx4a65c_get_915e3 rfl rfl rfl (by decide +kernel) ⟨by decide, by decide⟩) (m_preV (r := (RJx4a65c, TJx4a65c, 3)) hE hV hS hA (CRep.atL hC (j := 0) (by decide)) rfl) rfl rfl hl.1 rfl (lv_room (by first | exact Nat.le_of_ble_eq_true rfl | simp [rf_cat, ct_ref, ct_int, ct_null, ct_long])) dX4_coreAt_24 ⟨by decide, by decide⟩) hV hS hA (fun r h1 H locs hV hS hp _ => ?_)
      obtain ⟨e1, e2⟩ := hp
      subst e2
      rw [e1] at hV; clear e1
      refine m_cast (r := (RX0, TX0, 3)) hx hb hE hV (hC.at (k := 1) (i := t) (by first | assumption | (show t < kN σ 62 0; omega))) rfl hown kc78 dX4_coreAt_27 ?_
      exact m_aret (v := (some (L 1 t))) hx hb hr hlocks (Or.inl ⟨_, rfl⟩) hV hS (⟨rfl, by rw [ht0]; rfl⟩) dX4_coreAt_30
    · refine lv_null hx hb dX4_coreAt_15 ?_
      refine lv_goto (tgt := 30) hx hb dX4_coreAt_16 (by decide) ?_
      exact m_aret (v := none) hx hb hr hlocks (Or.inl ⟨_, rfl⟩) hV hS (⟨rfl, by rw [inR_ge (by omega) (Int32.not_lt.mp c12)]; rfl⟩) dX4_coreAt_30
set_option maxHeartbeats 4000000 in
set_option maxRecDepth 100000 in
theorem c_X4_groupAt {l : Launch} {D : va_G} {cs : mC} {df : Nat} {P : Nat → Prop} {h0 : mH} {L : KL} {σ : KS} {hh : mH} (sz : Nat) (hC : CRep cs df P h0 L σ hh) (x0 : Int32) : Met l yX4_groupAt wsX4_groupAt ({ frames := 3, cells := 0, slots := 0, locals := 64 }) (mPre [.ref (L 0 0), .int x0] D cs df hh sz) (va_Qq ((fun (r : Option Nat) (h1 : mH) => h1 = hh ∧ r = (((inR x0 (kN σ 62 1))).map (L 2)))) (mB D hh sz) (mA hh sz)) 0 0 (mA hh sz) := by
  refine Met.ofW (cc := cX4_groupAt) (maxL := 2) (ret := (some (.object "TaskKernel$Group"))) (by decide) rfl ?_
  intro p e s m args below meth c s₁ B0 hml hv
  obtain ⟨hargs, hsz, hV, hE⟩ := hv
  subst hsz
  have hx := B0.exec
  have hb := B0.bytes
  have hr := B0.returns
  have hlocks := B0.notSynchronized
  have hts := atoms_spec (ws := wsX4_groupAt) B0.pre
  have hown : s.vm.findClass RX4 = some m.cls := findClass_of_methodNamed B0.named
  have hK := hE.1.1
  have hA : ∀ q : Nat, s.heap.size ≤ q → mA hh s.heap.size q := mA.top
  have hS : va_S (mA hh s.heap.size) s.heap s.heap [] := va_S.rf
  have hi_X4 : ∀ w ∈ u_ws RX4 TX4 11, w ∈ wsX4_groupAt := by decide +kernel
  have k18 : (Cond.fieldLink RX4 18 "TaskKernel" "groups" "Ljava/util/ArrayList;").before args s = true := hts _ (by decide +kernel)
  have kc27 : (Cond.classLink RX4 27 "TaskKernel$Group").before args s = true := hts _ (by decide +kernel)
  have hl := lv_entry ([.ref (L 0 0), .int x0]) (n := 2) (by first | exact Nat.le_of_ble_eq_true rfl | simp [lg_sl, rf_cat, ct_ref, ct_int, ct_null, ct_long])
  have hent := lg_entry_eq m ([.ref (L 0 0), .int x0]) 2
  rw [← hargs] at hent
  rw [hent]
  generalize (lg_sl ([.ref (L 0 0), .int x0]) ++ List.replicate (2 - (lg_sl ([.ref (L 0 0), .int x0])).length) Slot.unset).toArray = ls at hl ⊢
  replace hl : lv_has ls 2 [(0, .ref (L 0 0)), (1, .int x0)] := hl
  have hwf := hC.wf
  obtain ⟨⟨z0, z1, z2, z3, z4⟩, z5, z6, z7, z8, z9, z10, z11, z12⟩ := hwf
  refine lv_iload_n hx hb dX4_groupAt_0 rfl (lv_at hl 1 rfl) ?_
  refine lv_if_lt (tgt := 15) hx hb dX4_groupAt_1 (by decide) (fun c1 => ?_) (fun c1 => ?_)
  · refine lv_null hx hb dX4_groupAt_15 ?_
    refine lv_goto (tgt := 30) hx hb dX4_groupAt_16 (by decide) ?_
    exact m_aret (v := none) hx hb hr hlocks (Or.inl ⟨_, rfl⟩) hV hS (⟨rfl, by rw [inR_lt0 c1]; rfl⟩) dX4_groupAt_30
  · refine lv_iload_n hx hb dX4_groupAt_4 rfl (lv_at hl 1 rfl) ?_
    refine lv_aload_n hx hb dX4_groupAt_5 rfl (lv_at hl 0 rfl) ?_
    refine m_get (C := RX4) (T := TX4) (N := 11) hx hb hts hi_X4 hown hK hV 1 (v := .ref (L 5 1)) (g_kern1 hC rfl) rfl (by decide) k18 (fun _ h9 => h9) dX4_groupAt_6 ?_
    refine m_calli (va_runV (As := []) (rest := [.int x0]) ⟨hx, hb, hml, hown, hts⟩ (l_size (s.heap.size) hC 1 (by decide)) (cwV 0 hts gX4_groupAt_Jx4a65c_size_8abf5 rfl rfl rfl (by decide +kernel) ⟨by decide, by decide⟩) (m_preV (r := (RJx4a65c, TJx4a65c, 3)) hE hV hS hA (CRep.atL hC (j := 1) (by decide)) rfl) rfl rfl hl.1 rfl (lv_room (by first | exact Nat.le_of_ble_eq_true rfl | simp [rf_cat, ct_ref, ct_int, ct_null, ct_long])) dX4_groupAt_9 ⟨by decide, by decide⟩) hV hS hA (fun r h1 H locs hV hS hp _ => ?_)
    obtain ⟨e1, e2⟩ := hp
    subst e2
    rw [e1] at hV; clear e1
    refine lv_icmp_lt (tgt := 19) hx hb dX4_groupAt_12 (by decide) (fun c12 => ?_) (fun c12 => ?_)
    · obtain ⟨t, ht0, rfl, ht⟩ := inR_mid (n := kN σ 62 1) (by omega) c1 (Int32.not_le.mpr c12)
      refine lv_aload_n hx hb dX4_groupAt_19 rfl (lv_at hl 0 rfl) ?_
      refine m_get (C := RX4) (T := TX4) (N := 11) hx hb hts hi_X4 hown hK hV 1 (v := .ref (L 5 1)) (g_kern1 hC rfl) rfl (by decide) k18 (fun _ h9 => h9) dX4_groupAt_20 ?_
      refine lv_iload_n hx hb dX4_groupAt_23 rfl (lv_at hl 1 rfl) ?_
      refine m_callq (va_runV (As := [.int (nI t)]) (rest := []) ⟨hx, hb, hml, hown, hts⟩ (l_get1 (H.size) hC t (by first | assumption | omega)) (cwV 1 hts gX4_groupAt_Jx4a65c_get_915e3 rfl rfl rfl (by decide +kernel) ⟨by decide, by decide⟩) (m_preV (r := (RJx4a65c, TJx4a65c, 3)) hE hV hS hA (CRep.atL hC (j := 1) (by decide)) rfl) rfl rfl hl.1 rfl (lv_room (by first | exact Nat.le_of_ble_eq_true rfl | simp [rf_cat, ct_ref, ct_int, ct_null, ct_long])) dX4_groupAt_24 ⟨by decide, by decide⟩) hV hS hA (fun r h1 H locs hV hS hp _ => ?_)
      obtain ⟨e1, e2⟩ := hp
      subst e2
      rw [e1] at hV; clear e1
      refine m_cast (r := (RX1, TX1, 6)) hx hb hE hV (hC.at (k := 2) (i := t) (by first | assumption | (show t < kN σ 62 1; omega))) rfl hown kc27 dX4_groupAt_27 ?_
      exact m_aret (v := (some (L 2 t))) hx hb hr hlocks (Or.inl ⟨_, rfl⟩) hV hS (⟨rfl, by rw [ht0]; rfl⟩) dX4_groupAt_30
    · refine lv_null hx hb dX4_groupAt_15 ?_
      refine lv_goto (tgt := 30) hx hb dX4_groupAt_16 (by decide) ?_
      exact m_aret (v := none) hx hb hr hlocks (Or.inl ⟨_, rfl⟩) hV hS (⟨rfl, by rw [inR_ge (by omega) (Int32.not_lt.mp c12)]; rfl⟩) dX4_groupAt_30
set_option maxHeartbeats 4000000 in
set_option maxRecDepth 100000 in
theorem c_X4_taskAt {l : Launch} {D : va_G} {cs : mC} {df : Nat} {P : Nat → Prop} {h0 : mH} {L : KL} {σ : KS} {hh : mH} (sz : Nat) (hC : CRep cs df P h0 L σ hh) (x0 : Int32) : Met l yX4_taskAt wsX4_taskAt ({ frames := 3, cells := 0, slots := 0, locals := 64 }) (mPre [.ref (L 0 0), .int x0] D cs df hh sz) (va_Qq ((fun (r : Option Nat) (h1 : mH) => h1 = hh ∧ r = (((inR x0 (kN σ 62 2))).map (L 3)))) (mB D hh sz) (mA hh sz)) 0 0 (mA hh sz) := by
  refine Met.ofW (cc := cX4_taskAt) (maxL := 2) (ret := (some (.object "TaskKernel$Task"))) (by decide) rfl ?_
  intro p e s m args below meth c s₁ B0 hml hv
  obtain ⟨hargs, hsz, hV, hE⟩ := hv
  subst hsz
  have hx := B0.exec
  have hb := B0.bytes
  have hr := B0.returns
  have hlocks := B0.notSynchronized
  have hts := atoms_spec (ws := wsX4_taskAt) B0.pre
  have hown : s.vm.findClass RX4 = some m.cls := findClass_of_methodNamed B0.named
  have hK := hE.1.1
  have hA : ∀ q : Nat, s.heap.size ≤ q → mA hh s.heap.size q := mA.top
  have hS : va_S (mA hh s.heap.size) s.heap s.heap [] := va_S.rf
  have hi_X4 : ∀ w ∈ u_ws RX4 TX4 11, w ∈ wsX4_taskAt := by decide +kernel
  have k21 : (Cond.fieldLink RX4 21 "TaskKernel" "tasks" "Ljava/util/ArrayList;").before args s = true := hts _ (by decide +kernel)
  have kc121 : (Cond.classLink RX4 121 "TaskKernel$Task").before args s = true := hts _ (by decide +kernel)
  have hl := lv_entry ([.ref (L 0 0), .int x0]) (n := 2) (by first | exact Nat.le_of_ble_eq_true rfl | simp [lg_sl, rf_cat, ct_ref, ct_int, ct_null, ct_long])
  have hent := lg_entry_eq m ([.ref (L 0 0), .int x0]) 2
  rw [← hargs] at hent
  rw [hent]
  generalize (lg_sl ([.ref (L 0 0), .int x0]) ++ List.replicate (2 - (lg_sl ([.ref (L 0 0), .int x0])).length) Slot.unset).toArray = ls at hl ⊢
  replace hl : lv_has ls 2 [(0, .ref (L 0 0)), (1, .int x0)] := hl
  have hwf := hC.wf
  obtain ⟨⟨z0, z1, z2, z3, z4⟩, z5, z6, z7, z8, z9, z10, z11, z12⟩ := hwf
  refine lv_iload_n hx hb dX4_taskAt_0 rfl (lv_at hl 1 rfl) ?_
  refine lv_if_lt (tgt := 15) hx hb dX4_taskAt_1 (by decide) (fun c1 => ?_) (fun c1 => ?_)
  · refine lv_null hx hb dX4_taskAt_15 ?_
    refine lv_goto (tgt := 30) hx hb dX4_taskAt_16 (by decide) ?_
    exact m_aret (v := none) hx hb hr hlocks (Or.inl ⟨_, rfl⟩) hV hS (⟨rfl, by rw [inR_lt0 c1]; rfl⟩) dX4_taskAt_30
  · refine lv_iload_n hx hb dX4_taskAt_4 rfl (lv_at hl 1 rfl) ?_
    refine lv_aload_n hx hb dX4_taskAt_5 rfl (lv_at hl 0 rfl) ?_
    refine m_get (C := RX4) (T := TX4) (N := 11) hx hb hts hi_X4 hown hK hV 2 (v := .ref (L 5 2)) (g_kern2 hC rfl) rfl (by decide) k21 (fun _ h9 => h9) dX4_taskAt_6 ?_
    refine m_calli (va_runV (As := []) (rest := [.int x0]) ⟨hx, hb, hml, hown, hts⟩ (l_size (s.heap.size) hC 2 (by decide)) (cwV 0 hts gX4_taskAt_Jx4a65c_size_8abf5 rfl rfl rfl (by decide +kernel) ⟨by decide, by decide⟩) (m_preV (r := (RJx4a65c, TJx4a65c, 3)) hE hV hS hA (CRep.atL hC (j := 2) (by decide)) rfl) rfl rfl hl.1 rfl (lv_room (by first | exact Nat.le_of_ble_eq_true rfl | simp [rf_cat, ct_ref, ct_int, ct_null, ct_long])) dX4_taskAt_9 ⟨by decide, by decide⟩) hV hS hA (fun r h1 H locs hV hS hp _ => ?_)
    obtain ⟨e1, e2⟩ := hp
    subst e2
    rw [e1] at hV; clear e1
    refine lv_icmp_lt (tgt := 19) hx hb dX4_taskAt_12 (by decide) (fun c12 => ?_) (fun c12 => ?_)
    · obtain ⟨t, ht0, rfl, ht⟩ := inR_mid (n := kN σ 62 2) (by omega) c1 (Int32.not_le.mpr c12)
      refine lv_aload_n hx hb dX4_taskAt_19 rfl (lv_at hl 0 rfl) ?_
      refine m_get (C := RX4) (T := TX4) (N := 11) hx hb hts hi_X4 hown hK hV 2 (v := .ref (L 5 2)) (g_kern2 hC rfl) rfl (by decide) k21 (fun _ h9 => h9) dX4_taskAt_20 ?_
      refine lv_iload_n hx hb dX4_taskAt_23 rfl (lv_at hl 1 rfl) ?_
      refine m_callq (va_runV (As := [.int (nI t)]) (rest := []) ⟨hx, hb, hml, hown, hts⟩ (l_get2 (H.size) hC t (by first | assumption | omega)) (cwV 1 hts gX4_taskAt_Jx4a65c_get_915e3 rfl rfl rfl (by decide +kernel) ⟨by decide, by decide⟩) (m_preV (r := (RJx4a65c, TJx4a65c, 3)) hE hV hS hA (CRep.atL hC (j := 2) (by decide)) rfl) rfl rfl hl.1 rfl (lv_room (by first | exact Nat.le_of_ble_eq_true rfl | simp [rf_cat, ct_ref, ct_int, ct_null, ct_long])) dX4_taskAt_24 ⟨by decide, by decide⟩) hV hS hA (fun r h1 H locs hV hS hp _ => ?_)
      obtain ⟨e1, e2⟩ := hp
      subst e2
      rw [e1] at hV; clear e1
      refine m_cast (r := (RX3, TX3, 16)) hx hb hE hV (hC.at (k := 3) (i := t) (by first | assumption | (show t < kN σ 62 2; omega))) rfl hown kc121 dX4_taskAt_27 ?_
      exact m_aret (v := (some (L 3 t))) hx hb hr hlocks (Or.inl ⟨_, rfl⟩) hV hS (⟨rfl, by rw [ht0]; rfl⟩) dX4_taskAt_30
    · refine lv_null hx hb dX4_taskAt_15 ?_
      refine lv_goto (tgt := 30) hx hb dX4_taskAt_16 (by decide) ?_
      exact m_aret (v := none) hx hb hr hlocks (Or.inl ⟨_, rfl⟩) hV hS (⟨rfl, by rw [inR_ge (by omega) (Int32.not_lt.mp c12)]; rfl⟩) dX4_taskAt_30
set_option maxHeartbeats 4000000 in
set_option maxRecDepth 100000 in
theorem c_X4_lockAt {l : Launch} {D : va_G} {cs : mC} {df : Nat} {P : Nat → Prop} {h0 : mH} {L : KL} {σ : KS} {hh : mH} (sz : Nat) (hC : CRep cs df P h0 L σ hh) (x0 : Int32) : Met l yX4_lockAt wsX4_lockAt ({ frames := 3, cells := 0, slots := 0, locals := 64 }) (mPre [.ref (L 0 0), .int x0] D cs df hh sz) (va_Qq ((fun (r : Option Nat) (h1 : mH) => h1 = hh ∧ r = (((inR x0 (kN σ 62 3))).map (L 4)))) (mB D hh sz) (mA hh sz)) 0 0 (mA hh sz) := by
  refine Met.ofW (cc := cX4_lockAt) (maxL := 2) (ret := (some (.object "TaskKernel$Lock"))) (by decide) rfl ?_
  intro p e s m args below meth c s₁ B0 hml hv
  obtain ⟨hargs, hsz, hV, hE⟩ := hv
  subst hsz
  have hx := B0.exec
  have hb := B0.bytes
  have hr := B0.returns
  have hlocks := B0.notSynchronized
  have hts := atoms_spec (ws := wsX4_lockAt) B0.pre
  have hown : s.vm.findClass RX4 = some m.cls := findClass_of_methodNamed B0.named
  have hK := hE.1.1
  have hA : ∀ q : Nat, s.heap.size ≤ q → mA hh s.heap.size q := mA.top
  have hS : va_S (mA hh s.heap.size) s.heap s.heap [] := va_S.rf
  have hi_X4 : ∀ w ∈ u_ws RX4 TX4 11, w ∈ wsX4_lockAt := by decide +kernel
  have k24 : (Cond.fieldLink RX4 24 "TaskKernel" "locks" "Ljava/util/ArrayList;").before args s = true := hts _ (by decide +kernel)
  have kc59 : (Cond.classLink RX4 59 "TaskKernel$Lock").before args s = true := hts _ (by decide +kernel)
  have hl := lv_entry ([.ref (L 0 0), .int x0]) (n := 2) (by first | exact Nat.le_of_ble_eq_true rfl | simp [lg_sl, rf_cat, ct_ref, ct_int, ct_null, ct_long])
  have hent := lg_entry_eq m ([.ref (L 0 0), .int x0]) 2
  rw [← hargs] at hent
  rw [hent]
  generalize (lg_sl ([.ref (L 0 0), .int x0]) ++ List.replicate (2 - (lg_sl ([.ref (L 0 0), .int x0])).length) Slot.unset).toArray = ls at hl ⊢
  replace hl : lv_has ls 2 [(0, .ref (L 0 0)), (1, .int x0)] := hl
  have hwf := hC.wf
  obtain ⟨⟨z0, z1, z2, z3, z4⟩, z5, z6, z7, z8, z9, z10, z11, z12⟩ := hwf
  refine lv_iload_n hx hb dX4_lockAt_0 rfl (lv_at hl 1 rfl) ?_
  refine lv_if_lt (tgt := 15) hx hb dX4_lockAt_1 (by decide) (fun c1 => ?_) (fun c1 => ?_)
  · refine lv_null hx hb dX4_lockAt_15 ?_
    refine lv_goto (tgt := 30) hx hb dX4_lockAt_16 (by decide) ?_
    exact m_aret (v := none) hx hb hr hlocks (Or.inl ⟨_, rfl⟩) hV hS (⟨rfl, by rw [inR_lt0 c1]; rfl⟩) dX4_lockAt_30
  · refine lv_iload_n hx hb dX4_lockAt_4 rfl (lv_at hl 1 rfl) ?_
    refine lv_aload_n hx hb dX4_lockAt_5 rfl (lv_at hl 0 rfl) ?_
    refine m_get (C := RX4) (T := TX4) (N := 11) hx hb hts hi_X4 hown hK hV 3 (v := .ref (L 5 3)) (g_kern3 hC rfl) rfl (by decide) k24 (fun _ h9 => h9) dX4_lockAt_6 ?_
    refine m_calli (va_runV (As := []) (rest := [.int x0]) ⟨hx, hb, hml, hown, hts⟩ (l_size (s.heap.size) hC 3 (by decide)) (cwV 0 hts gX4_lockAt_Jx4a65c_size_8abf5 rfl rfl rfl (by decide +kernel) ⟨by decide, by decide⟩) (m_preV (r := (RJx4a65c, TJx4a65c, 3)) hE hV hS hA (CRep.atL hC (j := 3) (by decide)) rfl) rfl rfl hl.1 rfl (lv_room (by first | exact Nat.le_of_ble_eq_true rfl | simp [rf_cat, ct_ref, ct_int, ct_null, ct_long])) dX4_lockAt_9 ⟨by decide, by decide⟩) hV hS hA (fun r h1 H locs hV hS hp _ => ?_)
    obtain ⟨e1, e2⟩ := hp
    subst e2
    rw [e1] at hV; clear e1
    refine lv_icmp_lt (tgt := 19) hx hb dX4_lockAt_12 (by decide) (fun c12 => ?_) (fun c12 => ?_)
    · obtain ⟨t, ht0, rfl, ht⟩ := inR_mid (n := kN σ 62 3) (by omega) c1 (Int32.not_le.mpr c12)
      refine lv_aload_n hx hb dX4_lockAt_19 rfl (lv_at hl 0 rfl) ?_
      refine m_get (C := RX4) (T := TX4) (N := 11) hx hb hts hi_X4 hown hK hV 3 (v := .ref (L 5 3)) (g_kern3 hC rfl) rfl (by decide) k24 (fun _ h9 => h9) dX4_lockAt_20 ?_
      refine lv_iload_n hx hb dX4_lockAt_23 rfl (lv_at hl 1 rfl) ?_
      refine m_callq (va_runV (As := [.int (nI t)]) (rest := []) ⟨hx, hb, hml, hown, hts⟩ (l_get3 (H.size) hC t (by first | assumption | omega)) (cwV 1 hts gX4_lockAt_Jx4a65c_get_915e3 rfl rfl rfl (by decide +kernel) ⟨by decide, by decide⟩) (m_preV (r := (RJx4a65c, TJx4a65c, 3)) hE hV hS hA (CRep.atL hC (j := 3) (by decide)) rfl) rfl rfl hl.1 rfl (lv_room (by first | exact Nat.le_of_ble_eq_true rfl | simp [rf_cat, ct_ref, ct_int, ct_null, ct_long])) dX4_lockAt_24 ⟨by decide, by decide⟩) hV hS hA (fun r h1 H locs hV hS hp _ => ?_)
      obtain ⟨e1, e2⟩ := hp
      subst e2
      rw [e1] at hV; clear e1
      refine m_cast (r := (RX2, TX2, 2)) hx hb hE hV (hC.at (k := 4) (i := t) (show t < 4 by omega)) rfl hown kc59 dX4_lockAt_27 ?_
      exact m_aret (v := (some (L 4 t))) hx hb hr hlocks (Or.inl ⟨_, rfl⟩) hV hS (⟨rfl, by rw [ht0]; rfl⟩) dX4_lockAt_30
    · refine lv_null hx hb dX4_lockAt_15 ?_
      refine lv_goto (tgt := 30) hx hb dX4_lockAt_16 (by decide) ?_
      exact m_aret (v := none) hx hb hr hlocks (Or.inl ⟨_, rfl⟩) hV hS (⟨rfl, by rw [inR_ge (by omega) (Int32.not_lt.mp c12)]; rfl⟩) dX4_lockAt_30
set_option maxHeartbeats 4000000 in
set_option maxRecDepth 100000 in
theorem c_X4_numberOf {l : Launch} {D : va_G} {cs : mC} {df : Nat} {P : Nat → Prop} {h0 : mH} {L : KL} {σ : KS} {hh : mH} (sz : Nat) (hC : CRep cs df P h0 L σ hh) (o : Option Nat) (ho : ∀ t, o = some t → t < kN σ 62 2) : Met l yX4_numberOf wsX4_numberOf ({ frames := 0, cells := 0, slots := 0, locals := 0 }) (mPre [va_rf ((o).map (L 3))] D cs df hh sz) (va_Qi ((fun (r : Int32) (h1 : mH) => h1 = hh ∧ r = oI o)) (mB D hh sz) (mA hh sz)) 0 0 (mA hh sz) := by
  refine Met.ofW (cc := cX4_numberOf) (maxL := 1) (ret := (some .int)) (by decide) rfl ?_
  intro p e s m args below meth c s₁ B0 hml hv
  obtain ⟨hargs, hsz, hV, hE⟩ := hv
  subst hsz
  have hx := B0.exec
  have hb := B0.bytes
  have hr := B0.returns
  have hlocks := B0.notSynchronized
  have hts := atoms_spec (ws := wsX4_numberOf) B0.pre
  have hown : s.vm.findClass RX4 = some m.cls := findClass_of_methodNamed B0.named
  have hK := hE.1.1
  have hA : ∀ q : Nat, s.heap.size ≤ q → mA hh s.heap.size q := mA.top
  have hS : va_S (mA hh s.heap.size) s.heap s.heap [] := va_S.rf
  have hi_X3 : ∀ w ∈ u_ws RX3 TX3 16, w ∈ wsX4_numberOf := by decide +kernel
  have kn283 : va_Nw (.fieldLinkNest RX4 283 "TaskKernel$Task" "number" "I" "TaskKernel") s := hE.1.2.1 _ (List.mem_of_getElem? (i := 11) rfl)
  have hl := lv_entry ([va_rf ((o).map (L 3))]) (n := 1) (by first | exact Nat.le_of_ble_eq_true rfl | simp [lg_sl, rf_cat, ct_ref, ct_int, ct_null, ct_long])
  have hent := lg_entry_eq m ([va_rf ((o).map (L 3))]) 1
  rw [← hargs] at hent
  rw [hent]
  generalize (lg_sl ([va_rf ((o).map (L 3))]) ++ List.replicate (1 - (lg_sl ([va_rf ((o).map (L 3))])).length) Slot.unset).toArray = ls at hl ⊢
  replace hl : lv_has ls 1 [(0, va_rf ((o).map (L 3)))] := by first | exact hl | simpa [lv_args, rf_cat, ct_ref, ct_int, ct_null, ct_long] using hl
  try simp only [lv_args, rf_cat, ct_ref, ct_int] at hl
  refine m_aload_nq hx hb dX4_numberOf_0 rfl (lv_at hl 0 rfl) ?_
  refine m_ifnonnull_q (o := o) (f := L 3) (tgt := 8) hx hb dX4_numberOf_1 (by decide) (fun k1 c1 => ?_) (fun c1 => ?_)
  · replace hl : lv_has ls 1 [(0, .ref (L 3 k1))] := by have h9 := hl; rw [c1] at h9; exact h9
    refine lv_aload_n hx hb dX4_numberOf_8 rfl (lv_at hl 0 rfl) ?_
    refine m_getN (C := RX3) (T := TX3) (N := 16) (host := "TaskKernel") hx hb hts hi_X3 hown hK hV 0 (v := .int (nI k1)) (g_task0 hC (ho _ c1)) rfl (by decide) kn283 (fun _ h9 => h9) dX4_numberOf_9 ?_
    exact m_iret (v := nI k1) hx hb hr hlocks hV hS (⟨rfl, by rw [c1]; rfl⟩) dX4_numberOf_12
  · replace hl : lv_has ls 1 [(0, .null)] := by have h9 := hl; rw [c1] at h9; exact h9
    refine lv_iconst (v := (-1)) hx hb dX4_numberOf_4 (by decide) ?_
    refine lv_goto (tgt := 12) hx hb dX4_numberOf_5 (by decide) ?_
    exact m_iret (v := (-1)) hx hb hr hlocks hV hS (⟨rfl, by rw [c1]; rfl⟩) dX4_numberOf_12
