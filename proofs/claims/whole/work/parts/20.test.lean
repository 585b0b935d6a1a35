def paceS (sp ht lim : Int32) : Int32 := if lim ≤ ht then (sp + 1) / 2 else sp
set_option maxHeartbeats 4000000 in
set_option maxRecDepth 100000 in
theorem c_X0_paceUnder {l : Launch} {D : va_G} {cs : mC} {df : Nat} {P : Nat → Prop} {h0 : mH} {L : KL} {σ : KS} {hh : mH} (sz : Nat) (hC : CRep cs df P h0 L σ hh) (i : Nat) (x0 : Int32) (hi : i < kN σ 62 0) : Met l yX0_paceUnder wsX0_paceUnder ({ frames := 0, cells := 0, slots := 0, locals := 0 }) (mPre [.ref (L.1 1 i), .int x0] D cs df hh sz) (va_Qi ((fun (r : Int32) (h1 : mH) => h1 = hh ∧ r = (paceS (kI σ 10 i) (kI σ 11 i) x0))) (mB D hh sz) (mA hh sz)) 0 0 (mA hh sz) := by
  refine Met.ofW (cc := cX0_paceUnder) (maxL := 2) (ret := (some .int)) (by decide) rfl ?_
  intro p e s m args below meth c s₁ B0 hml hv
  obtain ⟨hargs, hsz, hV, hE⟩ := hv
  subst hsz
  have hx := B0.exec
  have hb := B0.bytes
  have hr := B0.returns
  have hlocks := B0.notSynchronized
  have hts := atoms_spec (ws := wsX0_paceUnder) B0.pre
  have hown : s.vm.findClass RX0 = some m.cls := findClass_of_methodNamed B0.named
  have hK := hE.1.1
  have hA : ∀ q : Nat, s.heap.size ≤ q → mA hh s.heap.size q := mA.top
  have hS : va_S (mA hh s.heap.size) s.heap s.heap [] := va_S.rf
  have hi_X0 : ∀ w ∈ u_ws RX0 TX0 3, w ∈ wsX0_paceUnder := by decide +kernel
  have k13 : (Cond.fieldLink RX0 13 "TaskKernel$Core" "heat" "I").before args s = true := hts _ (by decide +kernel)
  have k7 : (Cond.fieldLink RX0 7 "TaskKernel$Core" "speed" "I").before args s = true := hts _ (by decide +kernel)
  have hl := lv_entry ([.ref (L.1 1 i), .int x0]) (n := 2) (by first | exact Nat.le_of_ble_eq_true rfl | simp [lg_sl, rf_cat, Value.category])
  have hent := lg_entry_eq m ([.ref (L.1 1 i), .int x0]) 2
  rw [← hargs] at hent
  rw [hent]
  generalize (lg_sl ([.ref (L.1 1 i), .int x0]) ++ List.replicate (2 - (lg_sl ([.ref (L.1 1 i), .int x0])).length) Slot.unset).toArray = ls at hl ⊢
  replace hl : lv_has ls 2 [(0, .ref (L.1 1 i)), (1, .int x0)] := hl
  refine lv_aload_n hx hb dX0_paceUnder_0 rfl (lv_at hl 0 rfl) ?_
  refine m_get (C := RX0) (T := TX0) (N := 3) hx hb hts hi_X0 hown hK hV 1 (v := .int (kI σ 11 i)) (g_core1 hC (by first | assumption | omega)) rfl (by decide) k13 (fun _ h9 => h9) dX0_paceUnder_1 ?_
  refine lv_iload_n hx hb dX0_paceUnder_4 rfl (lv_at hl 1 rfl) ?_
  refine lv_icmp_ge (tgt := 15) hx hb dX0_paceUnder_5 (by decide) (fun c5 => ?_) (fun c5 => ?_)
  · refine lv_aload_n hx hb dX0_paceUnder_15 rfl (lv_at hl 0 rfl) ?_
    refine m_get (C := RX0) (T := TX0) (N := 3) hx hb hts hi_X0 hown hK hV 0 (v := .int (kI σ 10 i)) (g_core0 hC (by first | assumption | omega)) rfl (by decide) k7 (fun _ h9 => h9) dX0_paceUnder_16 ?_
    refine lv_iconst (v := 1) hx hb dX0_paceUnder_19 (by decide) ?_
    refine lv_iadd hx hb dX0_paceUnder_20 ?_
    refine lv_iconst (v := 2) hx hb dX0_paceUnder_21 (by decide) ?_
    refine lv_idiv hx hb dX0_paceUnder_22 (by decide) ?_
    exact m_iret (v := (((kI σ 10 i) + 1) / 2)) hx hb hr hlocks hV hS (⟨rfl, by first | rfl | simp [paceS, c5]⟩) dX0_paceUnder_23
  · refine lv_aload_n hx hb dX0_paceUnder_8 rfl (lv_at hl 0 rfl) ?_
    refine m_get (C := RX0) (T := TX0) (N := 3) hx hb hts hi_X0 hown hK hV 0 (v := .int (kI σ 10 i)) (g_core0 hC (by first | assumption | omega)) rfl (by decide) k7 (fun _ h9 => h9) dX0_paceUnder_9 ?_
    refine lv_goto (tgt := 23) hx hb dX0_paceUnder_12 (by decide) ?_
    exact m_iret (v := (kI σ 10 i)) hx hb hr hlocks hV hS (⟨rfl, by first | rfl | simp [paceS, c5]⟩) dX0_paceUnder_23
set_option maxHeartbeats 4000000 in
set_option maxRecDepth 100000 in
theorem c_X3_isTimed {l : Launch} {D : va_G} {cs : mC} {df : Nat} {P : Nat → Prop} {h0 : mH} {L : KL} {σ : KS} {hh : mH} (sz : Nat) (hC : CRep cs df P h0 L σ hh) (i : Nat) (hi : i < kN σ 62 2) : Met l yX3_isTimed wsX3_isTimed ({ frames := 0, cells := 0, slots := 0, locals := 0 }) (mPre [.ref (L.1 3 i)] D cs df hh sz) (va_Qi ((fun (r : Int32) (h1 : mH) => h1 = hh ∧ r = bI (decide (0 < kI σ 37 i)))) (mB D hh sz) (mA hh sz)) 0 0 (mA hh sz) := by
  refine Met.ofW (cc := cX3_isTimed) (maxL := 1) (ret := (some .boolean)) (by decide) rfl ?_
  intro p e s m args below meth c s₁ B0 hml hv
  obtain ⟨hargs, hsz, hV, hE⟩ := hv
  subst hsz
  have hx := B0.exec
  have hb := B0.bytes
  have hr := B0.returns
  have hlocks := B0.notSynchronized
  have hts := atoms_spec (ws := wsX3_isTimed) B0.pre
  have hown : s.vm.findClass RX3 = some m.cls := findClass_of_methodNamed B0.named
  have hK := hE.1.1
  have hA : ∀ q : Nat, s.heap.size ≤ q → mA hh s.heap.size q := mA.top
  have hS : va_S (mA hh s.heap.size) s.heap s.heap [] := va_S.rf
  have hi_X3 : ∀ w ∈ u_ws RX3 TX3 16, w ∈ wsX3_isTimed := by decide +kernel
  have k29 : (Cond.fieldLink RX3 29 "TaskKernel$Task" "period" "I").before args s = true := hts _ (by decide +kernel)
  have hl := lv_entry ([.ref (L.1 3 i)]) (n := 1) (by first | exact Nat.le_of_ble_eq_true rfl | simp [lg_sl, rf_cat, Value.category])
  have hent := lg_entry_eq m ([.ref (L.1 3 i)]) 1
  rw [← hargs] at hent
  rw [hent]
  generalize (lg_sl ([.ref (L.1 3 i)]) ++ List.replicate (1 - (lg_sl ([.ref (L.1 3 i)])).length) Slot.unset).toArray = ls at hl ⊢
  replace hl : lv_has ls 1 [(0, .ref (L.1 3 i))] := hl
  refine lv_aload_n hx hb dX3_isTimed_0 rfl (lv_at hl 0 rfl) ?_
  refine m_get (C := RX3) (T := TX3) (N := 16) hx hb hts hi_X3 hown hK hV 7 (v := .int (kI σ 37 i)) (g_task7 hC (by first | assumption | omega)) rfl (by decide) k29 (fun _ h9 => h9) dX3_isTimed_1 ?_
  refine lv_if_le (tgt := 11) hx hb dX3_isTimed_4 (by decide) (fun c4 => ?_) (fun c4 => ?_)
  · refine lv_iconst (v := 0) hx hb dX3_isTimed_11 (by decide) ?_
    exact m_zret (v := 0) hx hb hr hlocks (by decide) hV hS (⟨rfl, by rw [decide_eq_false (by simpa using c4)]; rfl⟩) dX3_isTimed_12
  · refine lv_iconst (v := 1) hx hb dX3_isTimed_7 (by decide) ?_
    refine lv_goto (tgt := 12) hx hb dX3_isTimed_8 (by decide) ?_
    exact m_zret (v := 1) hx hb hr hlocks (by decide) hV hS (⟨rfl, by rw [decide_eq_true (by first | exact c4 | simpa using c4)]; rfl⟩) dX3_isTimed_12
set_option maxHeartbeats 4000000 in
set_option maxRecDepth 100000 in
theorem c_X4_now {l : Launch} {D : va_G} {cs : mC} {df : Nat} {P : Nat → Prop} {h0 : mH} {L : KL} {σ : KS} {hh : mH} (sz : Nat) (hC : CRep cs df P h0 L σ hh)  : Met l yX4_now wsX4_now ({ frames := 0, cells := 0, slots := 0, locals := 0 }) (mPre [.ref (L.1 0 0)] D cs df hh sz) (va_Qi ((fun (r : Int32) (h1 : mH) => h1 = hh ∧ r = (kI σ 2 0))) (mB D hh sz) (mA hh sz)) 0 0 (mA hh sz) := by
  refine Met.ofW (cc := cX4_now) (maxL := 1) (ret := (some .int)) (by decide) rfl ?_
  intro p e s m args below meth c s₁ B0 hml hv
  obtain ⟨hargs, hsz, hV, hE⟩ := hv
  subst hsz
  have hx := B0.exec
  have hb := B0.bytes
  have hr := B0.returns
  have hlocks := B0.notSynchronized
  have hts := atoms_spec (ws := wsX4_now) B0.pre
  have hown : s.vm.findClass RX4 = some m.cls := findClass_of_methodNamed B0.named
  have hK := hE.1.1
  have hA : ∀ q : Nat, s.heap.size ≤ q → mA hh s.heap.size q := mA.top
  have hS : va_S (mA hh s.heap.size) s.heap s.heap [] := va_S.rf
  have hi_X4 : ∀ w ∈ u_ws RX4 TX4 11, w ∈ wsX4_now := by decide +kernel
  have k43 : (Cond.fieldLink RX4 43 "TaskKernel" "presentTick" "I").before args s = true := hts _ (by decide +kernel)
  have hl := lv_entry ([.ref (L.1 0 0)]) (n := 1) (by first | exact Nat.le_of_ble_eq_true rfl | simp [lg_sl, rf_cat, Value.category])
  have hent := lg_entry_eq m ([.ref (L.1 0 0)]) 1
  rw [← hargs] at hent
  rw [hent]
  generalize (lg_sl ([.ref (L.1 0 0)]) ++ List.replicate (1 - (lg_sl ([.ref (L.1 0 0)])).length) Slot.unset).toArray = ls at hl ⊢
  replace hl : lv_has ls 1 [(0, .ref (L.1 0 0))] := hl
  refine lv_aload_n hx hb dX4_now_0 rfl (lv_at hl 0 rfl) ?_
  refine m_get (C := RX4) (T := TX4) (N := 11) hx hb hts hi_X4 hown hK hV 7 (v := .int (kI σ 2 0)) (g_kern7 hC rfl) rfl (by decide) k43 (fun _ h9 => h9) dX4_now_1 ?_
  exact m_iret (v := (kI σ 2 0)) hx hb hr hlocks hV hS (⟨rfl, rfl⟩) dX4_now_4
set_option maxHeartbeats 4000000 in
set_option maxRecDepth 100000 in
theorem c_X5_thrown {l : Launch} {D : va_G} {cs : mC} {df : Nat} {P : Nat → Prop} {h0 : mH} {B : Nat → Nat} {μ : KS} {hh : mH} (sz : Nat) (hM : DRep cs P h0 B μ hh)  : Met l yX5_thrown wsX5_thrown ({ frames := 0, cells := 0, slots := 0, locals := 0 }) (mPre [.ref (B 100)] D cs df hh sz) (va_Qi ((fun (r : Int32) (h1 : mH) => h1 = hh ∧ r = (kI μ 33 0))) (mB D hh sz) (mA hh sz)) 0 0 (mA hh sz) := by
  refine Met.ofW (cc := cX5_thrown) (maxL := 1) (ret := (some .int)) (by decide) rfl ?_
  intro p e s m args below meth c s₁ B0 hml hv
  obtain ⟨hargs, hsz, hV, hE⟩ := hv
  subst hsz
  have hx := B0.exec
  have hb := B0.bytes
  have hr := B0.returns
  have hlocks := B0.notSynchronized
  have hts := atoms_spec (ws := wsX5_thrown) B0.pre
  have hown : s.vm.findClass RX5 = some m.cls := findClass_of_methodNamed B0.named
  have hK := hE.1.1
  have hA : ∀ q : Nat, s.heap.size ≤ q → mA hh s.heap.size q := mA.top
  have hS : va_S (mA hh s.heap.size) s.heap s.heap [] := va_S.rf
  have hi_X5 : ∀ w ∈ u_ws RX5 TX5 34, w ∈ wsX5_thrown := by decide +kernel
  have k91 : (Cond.fieldLink RX5 91 "TaskKernelModel" "thrown" "I").before args s = true := hts _ (by decide +kernel)
  have hl := lv_entry ([.ref (B 100)]) (n := 1) (by first | exact Nat.le_of_ble_eq_true rfl | simp [lg_sl, rf_cat, Value.category])
  have hent := lg_entry_eq m ([.ref (B 100)]) 1
  rw [← hargs] at hent
  rw [hent]
  generalize (lg_sl ([.ref (B 100)]) ++ List.replicate (1 - (lg_sl ([.ref (B 100)])).length) Slot.unset).toArray = ls at hl ⊢
  replace hl : lv_has ls 1 [(0, .ref (B 100))] := hl
  refine lv_aload_n hx hb dX5_thrown_0 rfl (lv_at hl 0 rfl) ?_
  refine m_get (C := RX5) (T := TX5) (N := 34) hx hb hts hi_X5 hown hK hV 33 (v := .int (kI μ 33 0)) (g_m33 hM) rfl (by decide) k91 (fun _ h9 => h9) dX5_thrown_1 ?_
  exact m_iret (v := (kI μ 33 0)) hx hb hr hlocks hV hS (⟨rfl, rfl⟩) dX5_thrown_4
set_option maxHeartbeats 4000000 in
set_option maxRecDepth 100000 in
theorem c_X5_paceOf {l : Launch} {D : va_G} {cs : mC} {df : Nat} {P : Nat → Prop} {h0 : mH} {B : Nat → Nat} {μ : KS} {hh : mH} (sz : Nat) (hM : DRep cs P h0 B μ hh) (t : Nat) (ht : t < 3) : Met l yX5_paceOf wsX5_paceOf ({ frames := 0, cells := 0, slots := 0, locals := 0 }) (mPre [.ref (B 100), .int (nI t)] D cs df hh sz) (va_Qi ((fun (r : Int32) (h1 : mH) => h1 = hh ∧ r = (paceS (kI μ 1 t) (kI μ 2 t) (kI μ 4 0)))) (mB D hh sz) (mA hh sz)) 0 0 (mA hh sz) := by
  refine Met.ofW (cc := cX5_paceOf) (maxL := 2) (ret := (some .int)) (by decide) rfl ?_
  intro p e s m args below meth c s₁ B0 hml hv
  obtain ⟨hargs, hsz, hV, hE⟩ := hv
  subst hsz
  have hx := B0.exec
  have hb := B0.bytes
  have hr := B0.returns
  have hlocks := B0.notSynchronized
  have hts := atoms_spec (ws := wsX5_paceOf) B0.pre
  have hown : s.vm.findClass RX5 = some m.cls := findClass_of_methodNamed B0.named
  have hK := hE.1.1
  have hA : ∀ q : Nat, s.heap.size ≤ q → mA hh s.heap.size q := mA.top
  have hS : va_S (mA hh s.heap.size) s.heap s.heap [] := va_S.rf
  have hi_X5 : ∀ w ∈ u_ws RX5 TX5 34, w ∈ wsX5_paceOf := by decide +kernel
  have k13 : (Cond.fieldLink RX5 13 "TaskKernelModel" "heats" "[I").before args s = true := hts _ (by decide +kernel)
  have k16 : (Cond.fieldLink RX5 16 "TaskKernelModel" "limit" "I").before args s = true := hts _ (by decide +kernel)
  have k7 : (Cond.fieldLink RX5 7 "TaskKernelModel" "speeds" "[I").before args s = true := hts _ (by decide +kernel)
  have hl := lv_entry ([.ref (B 100), .int (nI t)]) (n := 2) (by first | exact Nat.le_of_ble_eq_true rfl | simp [lg_sl, rf_cat, Value.category])
  have hent := lg_entry_eq m ([.ref (B 100), .int (nI t)]) 2
  rw [← hargs] at hent
  rw [hent]
  generalize (lg_sl ([.ref (B 100), .int (nI t)]) ++ List.replicate (2 - (lg_sl ([.ref (B 100), .int (nI t)])).length) Slot.unset).toArray = ls at hl ⊢
  replace hl : lv_has ls 2 [(0, .ref (B 100)), (1, .int (nI t))] := hl
  refine lv_aload_n hx hb dX5_paceOf_0 rfl (lv_at hl 0 rfl) ?_
  refine m_get (C := RX5) (T := TX5) (N := 34) hx hb hts hi_X5 hown hK hV 2 (v := .ref (B 2)) (g_m2 hM) rfl (by decide) k13 (fun _ h9 => h9) dX5_paceOf_1 ?_
  refine lv_iload_n hx hb dX5_paceOf_4 rfl (lv_at hl 1 rfl) ?_
  refine m_iald hx hb hK hV 0 (i := nI t) (x := (kI μ 2 t)) (a_m2 hM) rfl (vp_in_nI (by omega) (by omega)) (by rw [nI_clamp (by omega)] <;> rfl) dX5_paceOf_5 ?_
  refine lv_aload_n hx hb dX5_paceOf_6 rfl (lv_at hl 0 rfl) ?_
  refine m_get (C := RX5) (T := TX5) (N := 34) hx hb hts hi_X5 hown hK hV 4 (v := .int (kI μ 4 0)) (g_m4 hM) rfl (by decide) k16 (fun _ h9 => h9) dX5_paceOf_7 ?_
  refine lv_icmp_ge (tgt := 22) hx hb dX5_paceOf_10 (by decide) (fun c10 => ?_) (fun c10 => ?_)
  · refine lv_aload_n hx hb dX5_paceOf_22 rfl (lv_at hl 0 rfl) ?_
    refine m_get (C := RX5) (T := TX5) (N := 34) hx hb hts hi_X5 hown hK hV 1 (v := .ref (B 1)) (g_m1 hM) rfl (by decide) k7 (fun _ h9 => h9) dX5_paceOf_23 ?_
    refine lv_iload_n hx hb dX5_paceOf_26 rfl (lv_at hl 1 rfl) ?_
    refine m_iald hx hb hK hV 0 (i := nI t) (x := (kI μ 1 t)) (a_m1 hM) rfl (vp_in_nI (by omega) (by omega)) (by rw [nI_clamp (by omega)] <;> rfl) dX5_paceOf_27 ?_
    refine lv_iconst (v := 1) hx hb dX5_paceOf_28 (by decide) ?_
    refine lv_iadd hx hb dX5_paceOf_29 ?_
    refine lv_iconst (v := 2) hx hb dX5_paceOf_30 (by decide) ?_
    refine lv_idiv hx hb dX5_paceOf_31 (by decide) ?_
    exact m_iret (v := (((kI μ 1 t) + 1) / 2)) hx hb hr hlocks hV hS (⟨rfl, by first | rfl | simp [paceS, c10]⟩) dX5_paceOf_32
  · refine lv_aload_n hx hb dX5_paceOf_13 rfl (lv_at hl 0 rfl) ?_
    refine m_get (C := RX5) (T := TX5) (N := 34) hx hb hts hi_X5 hown hK hV 1 (v := .ref (B 1)) (g_m1 hM) rfl (by decide) k7 (fun _ h9 => h9) dX5_paceOf_14 ?_
    refine lv_iload_n hx hb dX5_paceOf_17 rfl (lv_at hl 1 rfl) ?_
    refine m_iald hx hb hK hV 0 (i := nI t) (x := (kI μ 1 t)) (a_m1 hM) rfl (vp_in_nI (by omega) (by omega)) (by rw [nI_clamp (by omega)] <;> rfl) dX5_paceOf_18 ?_
    refine lv_goto (tgt := 32) hx hb dX5_paceOf_19 (by decide) ?_
    exact m_iret (v := (kI μ 1 t)) hx hb hr hlocks hV hS (⟨rfl, by first | rfl | simp [paceS, c10]⟩) dX5_paceOf_32
