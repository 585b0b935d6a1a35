set_option maxHeartbeats 4000000 in
set_option maxRecDepth 100000 in
theorem c_X5_in {l : Launch} {D : va_G} {cs : mC} {df : Nat} {hh : mH} (sz : Nat) (v : Int64) (lo : Int64) (hi : Int64) : Met l yX5_in wsX5_in ({ frames := 0, cells := 0, slots := 0, locals := 0 }) (mPre [.long v, .long lo, .long hi] D cs df hh sz) (va_Qi ((fun (r : Int32) (h1 : mH) => h1 = hh ∧ r = bI (inL v lo hi))) (mB D hh sz) (mA hh sz)) 0 0 (mA hh sz) := by
  refine Met.ofW (cc := cX5_in) (maxL := 6) (ret := (some .boolean)) (by decide) rfl ?_
  intro p e s m args below meth c s₁ B0 hml hv
  obtain ⟨hargs, hsz, hV, hE⟩ := hv
  subst hsz
  have hx := B0.exec
  have hb := B0.bytes
  have hr := B0.returns
  have hlocks := B0.notSynchronized
  have hts := atoms_spec (ws := wsX5_in) B0.pre
  have hown : s.vm.findClass RX5 = some m.cls := findClass_of_methodNamed B0.named
  have hK := hE.1.1
  have hA : ∀ q : Nat, s.heap.size ≤ q → mA hh s.heap.size q := mA.top
  have hS : va_S (mA hh s.heap.size) s.heap s.heap [] := va_S.rf
  have hl := lv_entry ([.long v, .long lo, .long hi]) (n := 6) (by first | exact Nat.le_of_ble_eq_true rfl | simp [lg_sl, rf_cat, ct_ref, ct_int, ct_null, ct_long])
  have hent := lg_entry_eq m ([.long v, .long lo, .long hi]) 6
  rw [← hargs] at hent
  rw [hent]
  generalize (lg_sl ([.long v, .long lo, .long hi]) ++ List.replicate (6 - (lg_sl ([.long v, .long lo, .long hi])).length) Slot.unset).toArray = ls at hl ⊢
  replace hl : lv_has ls 6 [(0, .long v), (2, .long lo), (4, .long hi)] := hl
  refine lv_lload_n hx hb dX5_in_0 rfl (lv_at hl 0 rfl) ?_
  refine lv_lload_n hx hb dX5_in_1 rfl (lv_at hl 1 rfl) ?_
  refine m_lcmp_lt (tgt := 17) hx hb dX5_in_2 dX5_in_3 (by decide) (fun c3 => ?_) (fun c3 => ?_)
  · refine lv_iconst (v := 0) hx hb dX5_in_17 (by decide) ?_
    exact m_zret (v := 0) hx hb hr hlocks (by decide) hV hS (⟨rfl, by unfold inL; rw [decide_eq_false (fun q => Int64.not_lt.mpr q.1 c3)]; rfl⟩) dX5_in_18
  · refine lv_lload_n hx hb dX5_in_6 rfl (lv_at hl 0 rfl) ?_
    refine lv_lload hx hb dX5_in_7 (lv_at hl 2 rfl) ?_
    refine m_lcmp_gt (tgt := 17) hx hb dX5_in_9 dX5_in_10 (by decide) (fun c10 => ?_) (fun c10 => ?_)
    · refine lv_iconst (v := 0) hx hb dX5_in_17 (by decide) ?_
      exact m_zret (v := 0) hx hb hr hlocks (by decide) hV hS (⟨rfl, by unfold inL; rw [decide_eq_false (fun q => Int64.not_lt.mpr q.2 c10)]; rfl⟩) dX5_in_18
    · refine lv_iconst (v := 1) hx hb dX5_in_13 (by decide) ?_
      refine lv_goto (tgt := 18) hx hb dX5_in_14 (by decide) ?_
      exact m_zret (v := 1) hx hb hr hlocks (by decide) hV hS (⟨rfl, by unfold inL; rw [decide_eq_true ⟨Int64.not_lt.mp c3, Int64.not_lt.mp c10⟩]; rfl⟩) dX5_in_18
set_option maxHeartbeats 4000000 in
set_option maxRecDepth 100000 in
theorem c_X5_share {l : Launch} {D : va_G} {cs : mC} {df : Nat} {hh : mH} (sz : Nat) (b : Int32) (p9 : Int32) (hp : ¬ p9 = 0) : Met l yX5_share wsX5_share ({ frames := 0, cells := 0, slots := 0, locals := 0 }) (mPre [.int b, .int p9] D cs df hh sz) (va_Qi ((fun (r : Int32) (h1 : mH) => h1 = hh ∧ r = (shM b p9))) (mB D hh sz) (mA hh sz)) 0 0 (mA hh sz) := by
  refine Met.ofW (cc := cX5_share) (maxL := 2) (ret := (some .int)) (by decide) rfl ?_
  intro p e s m args below meth c s₁ B0 hml hv
  obtain ⟨hargs, hsz, hV, hE⟩ := hv
  subst hsz
  have hx := B0.exec
  have hb := B0.bytes
  have hr := B0.returns
  have hlocks := B0.notSynchronized
  have hts := atoms_spec (ws := wsX5_share) B0.pre
  have hown : s.vm.findClass RX5 = some m.cls := findClass_of_methodNamed B0.named
  have hK := hE.1.1
  have hA : ∀ q : Nat, s.heap.size ≤ q → mA hh s.heap.size q := mA.top
  have hS : va_S (mA hh s.heap.size) s.heap s.heap [] := va_S.rf
  have hl := lv_entry ([.int b, .int p9]) (n := 2) (by first | exact Nat.le_of_ble_eq_true rfl | simp [lg_sl, rf_cat, ct_ref, ct_int, ct_null, ct_long])
  have hent := lg_entry_eq m ([.int b, .int p9]) 2
  rw [← hargs] at hent
  rw [hent]
  generalize (lg_sl ([.int b, .int p9]) ++ List.replicate (2 - (lg_sl ([.int b, .int p9])).length) Slot.unset).toArray = ls at hl ⊢
  replace hl : lv_has ls 2 [(0, .int b), (1, .int p9)] := hl
  refine lv_sipush (v := 1000) hx hb dX5_share_0 (by decide) ?_
  refine lv_iload_n hx hb dX5_share_3 rfl (lv_at hl 0 rfl) ?_
  refine lv_imul hx hb dX5_share_4 ?_
  refine lv_iload_n hx hb dX5_share_5 rfl (lv_at hl 1 rfl) ?_
  refine lv_iadd hx hb dX5_share_6 ?_
  refine lv_iconst (v := 1) hx hb dX5_share_7 (by decide) ?_
  refine lv_isub hx hb dX5_share_8 ?_
  refine lv_iload_n hx hb dX5_share_9 rfl (lv_at hl 1 rfl) ?_
  refine lv_idiv hx hb dX5_share_10 (by assumption) ?_
  exact m_iret (v := ((((1000 * b) + p9) - 1) / p9)) hx hb hr hlocks hV hS (⟨rfl, rfl⟩) dX5_share_11
set_option maxHeartbeats 4000000 in
set_option maxRecDepth 100000 in
theorem c_X5_isLock {l : Launch} {D : va_G} {cs : mC} {df : Nat} {hh : mH} (sz : Nat) (x0 : Int32) : Met l yX5_isLock wsX5_isLock ({ frames := 1, cells := 0, slots := 0, locals := 25 }) (mPre [.int x0] D cs df hh sz) (va_Qi ((fun (r : Int32) (h1 : mH) => h1 = hh ∧ r = bI ((inR x0 4).isSome))) (mB D hh sz) (mA hh sz)) 0 0 (mA hh sz) := by
  refine Met.ofW (cc := cX5_isLock) (maxL := 1) (ret := (some .boolean)) (by decide) rfl ?_
  intro p e s m args below meth c s₁ B0 hml hv
  obtain ⟨hargs, hsz, hV, hE⟩ := hv
  subst hsz
  have hx := B0.exec
  have hb := B0.bytes
  have hr := B0.returns
  have hlocks := B0.notSynchronized
  have hts := atoms_spec (ws := wsX5_isLock) B0.pre
  have hown : s.vm.findClass RX5 = some m.cls := findClass_of_methodNamed B0.named
  have hK := hE.1.1
  have hA : ∀ q : Nat, s.heap.size ≤ q → mA hh s.heap.size q := mA.top
  have hS : va_S (mA hh s.heap.size) s.heap s.heap [] := va_S.rf
  have kk173 : (Cond.constantLong RX5 173 (3)).before args s = true := hts _ (by decide +kernel)
  have hl := lv_entry ([.int x0]) (n := 1) (by first | exact Nat.le_of_ble_eq_true rfl | simp [lg_sl, rf_cat, ct_ref, ct_int, ct_null, ct_long])
  have hent := lg_entry_eq m ([.int x0]) 1
  rw [← hargs] at hent
  rw [hent]
  generalize (lg_sl ([.int x0]) ++ List.replicate (1 - (lg_sl ([.int x0])).length) Slot.unset).toArray = ls at hl ⊢
  replace hl : lv_has ls 1 [(0, .int x0)] := hl
  refine lv_iload_n hx hb dX5_isLock_0 rfl (lv_at hl 0 rfl) ?_
  refine lv_i2l (v := (x0).toInt64) hx hb dX5_isLock_1 rfl ?_
  refine lv_lconst (v := 0) hx hb dX5_isLock_2 (by decide) ?_
  refine lv_ldc2 (v := 3) hx hb hown kk173 dX5_isLock_3 ?_
  refine m_calli (va_runS (As := [.long ((x0).toInt64), .long 0, .long 3]) (rest := []) ⟨hx, hb, hml, hown, hts⟩ (c_X5_in (l := l) (D := D) (cs := cs) (df := df) (hh := hh) (s.heap.size) ((x0).toInt64) 0 3) (va_cwS 3 hts gX5_isLock_X5_in rfl rfl rfl (by decide +kernel) ⟨by decide, by decide⟩) (m_preS hE hV hS hA) rfl rfl hl.1 rfl (lv_room (by first | exact Nat.le_of_ble_eq_true rfl | simp [rf_cat, ct_ref, ct_int, ct_null, ct_long])) dX5_isLock_6 ⟨by decide, by decide⟩) hV hS hA (fun r h1 H locs hV hS hp _ => ?_)
  obtain ⟨e1, e2⟩ := hp
  subst e2
  rw [e1] at hV; clear e1
  refine m_topi (y := bI ((inR x0 4).isSome)) (congrArg bI (inL_R (n := 4) (by decide) rfl)) ?_
  exact m_zret (v := bI ((inR x0 4).isSome)) hx hb hr hlocks (bI_narrow _) hV hS (⟨rfl, rfl⟩) dX5_isLock_9
set_option maxHeartbeats 4000000 in
set_option maxRecDepth 100000 in
theorem c_X5_thrown {l : Launch} {D : va_G} {cs : mC} {df : Nat} {P : Nat → Prop} {h0 : mH} {B : Nat → Nat} {μ : KS} {hh : mH} (sz : Nat) (hM : DRep cs P h0 B μ hh)  : Met l yX5_thrown wsX5_thrown ({ frames := 0, cells := 0, slots := 0, locals := 0 }) (mPre [.ref (B 100)] D cs df hh sz) (va_Qi ((fun (r : Int32) (h1 : mH) => h1 = hh ∧ r = (kI μ 33 0))) (mB D hh sz) (mA hh sz)) 0 0 (mA hh sz) := by
  refine Met.ofW (cc := cX5_thrown) (maxL := 1) (ret := (some .int)) (by decide) rfl ?_
  intro p e s m args below meth c s₁ B0 hml hv
  obtain ⟨hargs, hsz, hV, hE⟩ := hv
  subst hsz
  have hx := B0.exec
  have hb := B0.bytes
  have hr := B0.returns
  have hlocks := B0.notSynchronized
  have hts := atoms_spec (ws := wsX5_thrown) B0.pre
  have hown : s.vm.findClass RX5 = some m.cls := findClass_of_methodNamed B0.named
  have hK := hE.1.1
  have hA : ∀ q : Nat, s.heap.size ≤ q → mA hh s.heap.size q := mA.top
  have hS : va_S (mA hh s.heap.size) s.heap s.heap [] := va_S.rf
  have hi_X5 : ∀ w ∈ u_ws RX5 TX5 34, w ∈ wsX5_thrown := by decide +kernel
  have k91 : (Cond.fieldLink RX5 91 "TaskKernelModel" "thrown" "I").before args s = true := hts _ (by decide +kernel)
  have hl := lv_entry ([.ref (B 100)]) (n := 1) (by first | exact Nat.le_of_ble_eq_true rfl | simp [lg_sl, rf_cat, ct_ref, ct_int, ct_null, ct_long])
  have hent := lg_entry_eq m ([.ref (B 100)]) 1
  rw [← hargs] at hent
  rw [hent]
  generalize (lg_sl ([.ref (B 100)]) ++ List.replicate (1 - (lg_sl ([.ref (B 100)])).length) Slot.unset).toArray = ls at hl ⊢
  replace hl : lv_has ls 1 [(0, .ref (B 100))] := hl
  have hwf := hM.wf
  obtain ⟨⟨y0, y1, y2, y3⟩, y4, y5, y6, y7⟩ := hwf
  refine lv_aload_n hx hb dX5_thrown_0 rfl (lv_at hl 0 rfl) ?_
  refine m_get (C := RX5) (T := TX5) (N := 34) hx hb hts hi_X5 hown hK hV 33 (v := .int (kI μ 33 0)) (by have z9 := g_m33 hM; exact z9) rfl (by decide) k91 (fun _ h9 => h9) dX5_thrown_1 ?_
  exact m_iret (v := (kI μ 33 0)) hx hb hr hlocks hV hS (⟨rfl, rfl⟩) dX5_thrown_4
set_option maxHeartbeats 4000000 in
set_option maxRecDepth 100000 in
theorem c_X5_isGroup {l : Launch} {D : va_G} {cs : mC} {df : Nat} {P : Nat → Prop} {h0 : mH} {B : Nat → Nat} {μ : KS} {hh : mH} (sz : Nat) (hM : DRep cs P h0 B μ hh) (x0 : Int32) : Met l yX5_isGroup wsX5_isGroup ({ frames := 1, cells := 0, slots := 0, locals := 25 }) (mPre [.ref (B 100), .int x0] D cs df hh sz) (va_Qi ((fun (r : Int32) (h1 : mH) => h1 = hh ∧ r = bI ((inR x0 (kN μ 9 0)).isSome))) (mB D hh sz) (mA hh sz)) 0 0 (mA hh sz) := by
  refine Met.ofW (cc := cX5_isGroup) (maxL := 2) (ret := (some .boolean)) (by decide) rfl ?_
  intro p e s m args below meth c s₁ B0 hml hv
  obtain ⟨hargs, hsz, hV, hE⟩ := hv
  subst hsz
  have hx := B0.exec
  have hb := B0.bytes
  have hr := B0.returns
  have hlocks := B0.notSynchronized
  have hts := atoms_spec (ws := wsX5_isGroup) B0.pre
  have hown : s.vm.findClass RX5 = some m.cls := findClass_of_methodNamed B0.named
  have hK := hE.1.1
  have hA : ∀ q : Nat, s.heap.size ≤ q → mA hh s.heap.size q := mA.top
  have hS : va_S (mA hh s.heap.size) s.heap s.heap [] := va_S.rf
  have hi_X5 : ∀ w ∈ u_ws RX5 TX5 34, w ∈ wsX5_isGroup := by decide +kernel
  have k33 : (Cond.fieldLink RX5 33 "TaskKernelModel" "groups" "I").before args s = true := hts _ (by decide +kernel)
  have hl := lv_entry ([.ref (B 100), .int x0]) (n := 2) (by first | exact Nat.le_of_ble_eq_true rfl | simp [lg_sl, rf_cat, ct_ref, ct_int, ct_null, ct_long])
  have hent := lg_entry_eq m ([.ref (B 100), .int x0]) 2
  rw [← hargs] at hent
  rw [hent]
  generalize (lg_sl ([.ref (B 100), .int x0]) ++ List.replicate (2 - (lg_sl ([.ref (B 100), .int x0])).length) Slot.unset).toArray = ls at hl ⊢
  replace hl : lv_has ls 2 [(0, .ref (B 100)), (1, .int x0)] := hl
  have hwf := hM.wf
  obtain ⟨⟨y0, y1, y2, y3⟩, y4, y5, y6, y7⟩ := hwf
  refine lv_iload_n hx hb dX5_isGroup_0 rfl (lv_at hl 1 rfl) ?_
  refine lv_i2l (v := (x0).toInt64) hx hb dX5_isGroup_1 rfl ?_
  refine lv_lconst (v := 0) hx hb dX5_isGroup_2 (by decide) ?_
  refine lv_aload_n hx hb dX5_isGroup_3 rfl (lv_at hl 0 rfl) ?_
  refine m_get (C := RX5) (T := TX5) (N := 34) hx hb hts hi_X5 hown hK hV 9 (v := .int (nI (kN μ 9 0))) (by have z9 := g_m9 hM; exact z9) rfl (by decide) k33 (fun _ h9 => h9) dX5_isGroup_4 ?_
  refine lv_iconst (v := 1) hx hb dX5_isGroup_7 (by decide) ?_
  refine lv_isub hx hb dX5_isGroup_8 ?_
  refine lv_i2l (v := ((nI (kN μ 9 0) - 1)).toInt64) hx hb dX5_isGroup_9 rfl ?_
  refine m_calli (va_runS (As := [.long ((x0).toInt64), .long 0, .long (((nI (kN μ 9 0) - 1)).toInt64)]) (rest := []) ⟨hx, hb, hml, hown, hts⟩ (c_X5_in (l := l) (D := D) (cs := cs) (df := df) (hh := hh) (s.heap.size) ((x0).toInt64) 0 (((nI (kN μ 9 0) - 1)).toInt64)) (va_cwS 3 hts gX5_isGroup_X5_in rfl rfl rfl (by decide +kernel) ⟨by decide, by decide⟩) (m_preS hE hV hS hA) rfl rfl hl.1 rfl (lv_room (by first | exact Nat.le_of_ble_eq_true rfl | simp [rf_cat, ct_ref, ct_int, ct_null, ct_long])) dX5_isGroup_10 ⟨by decide, by decide⟩) hV hS hA (fun r h1 H locs hV hS hp _ => ?_)
  obtain ⟨e1, e2⟩ := hp
  subst e2
  rw [e1] at hV; clear e1
  refine m_topi (y := bI ((inR x0 (kN μ 9 0)).isSome)) (congrArg bI (inL_R (by omega) rfl)) ?_
  exact m_zret (v := bI ((inR x0 (kN μ 9 0)).isSome)) hx hb hr hlocks (bI_narrow _) hV hS (⟨rfl, rfl⟩) dX5_isGroup_13
set_option maxHeartbeats 4000000 in
set_option maxRecDepth 100000 in
theorem c_X5_isTask {l : Launch} {D : va_G} {cs : mC} {df : Nat} {P : Nat → Prop} {h0 : mH} {B : Nat → Nat} {μ : KS} {hh : mH} (sz : Nat) (hM : DRep cs P h0 B μ hh) (x0 : Int32) : Met l yX5_isTask wsX5_isTask ({ frames := 1, cells := 0, slots := 0, locals := 25 }) (mPre [.ref (B 100), .int x0] D cs df hh sz) (va_Qi ((fun (r : Int32) (h1 : mH) => h1 = hh ∧ r = bI ((inR x0 (kN μ 24 0)).isSome))) (mB D hh sz) (mA hh sz)) 0 0 (mA hh sz) := by
  refine Met.ofW (cc := cX5_isTask) (maxL := 2) (ret := (some .boolean)) (by decide) rfl ?_
  intro p e s m args below meth c s₁ B0 hml hv
  obtain ⟨hargs, hsz, hV, hE⟩ := hv
  subst hsz
  have hx := B0.exec
  have hb := B0.bytes
  have hr := B0.returns
  have hlocks := B0.notSynchronized
  have hts := atoms_spec (ws := wsX5_isTask) B0.pre
  have hown : s.vm.findClass RX5 = some m.cls := findClass_of_methodNamed B0.named
  have hK := hE.1.1
  have hA : ∀ q : Nat, s.heap.size ≤ q → mA hh s.heap.size q := mA.top
  have hS : va_S (mA hh s.heap.size) s.heap s.heap [] := va_S.rf
  have hi_X5 : ∀ w ∈ u_ws RX5 TX5 34, w ∈ wsX5_isTask := by decide +kernel
  have k117 : (Cond.fieldLink RX5 117 "TaskKernelModel" "tasks" "I").before args s = true := hts _ (by decide +kernel)
  have hl := lv_entry ([.ref (B 100), .int x0]) (n := 2) (by first | exact Nat.le_of_ble_eq_true rfl | simp [lg_sl, rf_cat, ct_ref, ct_int, ct_null, ct_long])
  have hent := lg_entry_eq m ([.ref (B 100), .int x0]) 2
  rw [← hargs] at hent
  rw [hent]
  generalize (lg_sl ([.ref (B 100), .int x0]) ++ List.replicate (2 - (lg_sl ([.ref (B 100), .int x0])).length) Slot.unset).toArray = ls at hl ⊢
  replace hl : lv_has ls 2 [(0, .ref (B 100)), (1, .int x0)] := hl
  have hwf := hM.wf
  obtain ⟨⟨y0, y1, y2, y3⟩, y4, y5, y6, y7⟩ := hwf
  refine lv_iload_n hx hb dX5_isTask_0 rfl (lv_at hl 1 rfl) ?_
  refine lv_i2l (v := (x0).toInt64) hx hb dX5_isTask_1 rfl ?_
  refine lv_lconst (v := 0) hx hb dX5_isTask_2 (by decide) ?_
  refine lv_aload_n hx hb dX5_isTask_3 rfl (lv_at hl 0 rfl) ?_
  refine m_get (C := RX5) (T := TX5) (N := 34) hx hb hts hi_X5 hown hK hV 24 (v := .int (nI (kN μ 24 0))) (by have z9 := g_m24 hM; exact z9) rfl (by decide) k117 (fun _ h9 => h9) dX5_isTask_4 ?_
  refine lv_iconst (v := 1) hx hb dX5_isTask_7 (by decide) ?_
  refine lv_isub hx hb dX5_isTask_8 ?_
  refine lv_i2l (v := ((nI (kN μ 24 0) - 1)).toInt64) hx hb dX5_isTask_9 rfl ?_
  refine m_calli (va_runS (As := [.long ((x0).toInt64), .long 0, .long (((nI (kN μ 24 0) - 1)).toInt64)]) (rest := []) ⟨hx, hb, hml, hown, hts⟩ (c_X5_in (l := l) (D := D) (cs := cs) (df := df) (hh := hh) (s.heap.size) ((x0).toInt64) 0 (((nI (kN μ 24 0) - 1)).toInt64)) (va_cwS 3 hts gX5_isTask_X5_in rfl rfl rfl (by decide +kernel) ⟨by decide, by decide⟩) (m_preS hE hV hS hA) rfl rfl hl.1 rfl (lv_room (by first | exact Nat.le_of_ble_eq_true rfl | simp [rf_cat, ct_ref, ct_int, ct_null, ct_long])) dX5_isTask_10 ⟨by decide, by decide⟩) hV hS hA (fun r h1 H locs hV hS hp _ => ?_)
  obtain ⟨e1, e2⟩ := hp
  subst e2
  rw [e1] at hV; clear e1
  refine m_topi (y := bI ((inR x0 (kN μ 24 0)).isSome)) (congrArg bI (inL_R (by omega) rfl)) ?_
  exact m_zret (v := bI ((inR x0 (kN μ 24 0)).isSome)) hx hb hr hlocks (bI_narrow _) hV hS (⟨rfl, rfl⟩) dX5_isTask_13
set_option maxHeartbeats 4000000 in
set_option maxRecDepth 100000 in
theorem c_X5_isCore {l : Launch} {D : va_G} {cs : mC} {df : Nat} {P : Nat → Prop} {h0 : mH} {B : Nat → Nat} {μ : KS} {hh : mH} (sz : Nat) (hM : DRep cs P h0 B μ hh) (x0 : Int32) : Met l yX5_isCore wsX5_isCore ({ frames := 1, cells := 0, slots := 0, locals := 25 }) (mPre [.ref (B 100), .int x0] D cs df hh sz) (va_Qi ((fun (r : Int32) (h1 : mH) => DRep cs P h0 B (thS μ (if ((inR x0 (kN μ 3 0)).isSome) = true then 0 else 1)) h1 ∧ r = bI ((inR x0 (kN μ 3 0)).isSome))) (mB D hh sz) (mA hh sz)) 0 0 (mA hh sz) := by
  refine Met.ofW (cc := cX5_isCore) (maxL := 2) (ret := (some .boolean)) (by decide) rfl ?_
  intro p e s m args below meth c s₁ B0 hml hv
  obtain ⟨hargs, hsz, hV, hE⟩ := hv
  subst hsz
  have hx := B0.exec
  have hb := B0.bytes
  have hr := B0.returns
  have hlocks := B0.notSynchronized
  have hts := atoms_spec (ws := wsX5_isCore) B0.pre
  have hown : s.vm.findClass RX5 = some m.cls := findClass_of_methodNamed B0.named
  have hK := hE.1.1
  have hA : ∀ q : Nat, s.heap.size ≤ q → mA hh s.heap.size q := mA.top
  have hS : va_S (mA hh s.heap.size) s.heap s.heap [] := va_S.rf
  have hi_X5 : ∀ w ∈ u_ws RX5 TX5 34, w ∈ wsX5_isCore := by decide +kernel
  have k100 : (Cond.fieldLink RX5 100 "TaskKernelModel" "cores" "I").before args s = true := hts _ (by decide +kernel)
  have k91 : (Cond.fieldLink RX5 91 "TaskKernelModel" "thrown" "I").before args s = true := hts _ (by decide +kernel)
  have hl := lv_entry ([.ref (B 100), .int x0]) (n := 2) (by first | exact Nat.le_of_ble_eq_true rfl | simp [lg_sl, rf_cat, ct_ref, ct_int, ct_null, ct_long])
  have hent := lg_entry_eq m ([.ref (B 100), .int x0]) 2
  rw [← hargs] at hent
  rw [hent]
  generalize (lg_sl ([.ref (B 100), .int x0]) ++ List.replicate (2 - (lg_sl ([.ref (B 100), .int x0])).length) Slot.unset).toArray = ls at hl ⊢
  replace hl : lv_has ls 2 [(0, .ref (B 100)), (1, .int x0)] := hl
  have hwf := hM.wf
  obtain ⟨⟨y0, y1, y2, y3⟩, y4, y5, y6, y7⟩ := hwf
  refine lv_aload_n hx hb dX5_isCore_0 rfl (lv_at hl 0 rfl) ?_
  refine lv_iload_n hx hb dX5_isCore_1 rfl (lv_at hl 1 rfl) ?_
  refine lv_i2l (v := (x0).toInt64) hx hb dX5_isCore_2 rfl ?_
  refine lv_lconst (v := 0) hx hb dX5_isCore_3 (by decide) ?_
  refine lv_aload_n hx hb dX5_isCore_4 rfl (lv_at hl 0 rfl) ?_
  refine m_get (C := RX5) (T := TX5) (N := 34) hx hb hts hi_X5 hown hK hV 3 (v := .int (nI (kN μ 3 0))) (by have z9 := g_m3 hM; exact z9) rfl (by decide) k100 (fun _ h9 => h9) dX5_isCore_5 ?_
  refine lv_iconst (v := 1) hx hb dX5_isCore_8 (by decide) ?_
  refine lv_isub hx hb dX5_isCore_9 ?_
  refine lv_i2l (v := ((nI (kN μ 3 0) - 1)).toInt64) hx hb dX5_isCore_10 rfl ?_
  refine m_calli (va_runS (As := [.long ((x0).toInt64), .long 0, .long (((nI (kN μ 3 0) - 1)).toInt64)]) (rest := [.ref (B 100)]) ⟨hx, hb, hml, hown, hts⟩ (c_X5_in (l := l) (D := D) (cs := cs) (df := df) (hh := hh) (s.heap.size) ((x0).toInt64) 0 (((nI (kN μ 3 0) - 1)).toInt64)) (va_cwS 3 hts gX5_isCore_X5_in rfl rfl rfl (by decide +kernel) ⟨by decide, by decide⟩) (m_preS hE hV hS hA) rfl rfl hl.1 rfl (lv_room (by first | exact Nat.le_of_ble_eq_true rfl | simp [rf_cat, ct_ref, ct_int, ct_null, ct_long])) dX5_isCore_11 ⟨by decide, by decide⟩) hV hS hA (fun r h1 H locs hV hS hp _ => ?_)
  obtain ⟨e1, e2⟩ := hp
  subst e2
  rw [e1] at hV; clear e1
  refine m_topi (y := bI ((inR x0 (kN μ 3 0)).isSome)) (congrArg bI (inL_R (by omega) rfl)) ?_
  refine lv_if_eq (tgt := 21) hx hb dX5_isCore_14 (by decide) (fun c14 => ?_) (fun c14 => ?_)
  · replace c14 : ((inR x0 (kN μ 3 0)).isSome) = false := bI_0.mp c14
    refine lv_iconst (v := 1) hx hb dX5_isCore_21 (by decide) ?_
    refine m_put (C := RX5) (T := TX5) (N := 34) (v := .int 1) hx hb hts hi_X5 tyX5 tyX5_ok nmX5 hown hK hV hS 33 (p_m33 hM 1) rfl (by decide) k91 (fun _ h9 => h9) rfl (tyX5_ok 33 (by decide)) rfl rfl dX5_isCore_22 (fun h H locs hV hS hM => ?_)
    refine lv_aload_n hx hb dX5_isCore_25 rfl (lv_at hl 0 rfl) ?_
    refine m_get (C := RX5) (T := TX5) (N := 34) hx hb hts hi_X5 hown hK hV 33 (v := .int 1) (by have z9 := g_m33 hM; exact z9) rfl (by decide) k91 (fun _ h9 => h9) dX5_isCore_26 ?_
    refine lv_if_ne (tgt := 36) hx hb dX5_isCore_29 (by decide) (fun c29 => ?_) (fun c29 => (absurd c29 (by decide)))
    refine lv_iconst (v := 0) hx hb dX5_isCore_36 (by decide) ?_
    exact m_zret (v := 0) hx hb hr hlocks (by decide) hV hS (⟨(by rw [if_neg (by rw [c14]; decide)]; exact hM), by rw [c14]; rfl⟩) dX5_isCore_37
  · replace c14 : ((inR x0 (kN μ 3 0)).isSome) = true := bI_1.mp c14
    refine lv_iconst (v := 0) hx hb dX5_isCore_17 (by decide) ?_
    refine lv_goto (tgt := 22) hx hb dX5_isCore_18 (by decide) ?_
    refine m_put (C := RX5) (T := TX5) (N := 34) (v := .int 0) hx hb hts hi_X5 tyX5 tyX5_ok nmX5 hown hK hV hS 33 (p_m33 hM 0) rfl (by decide) k91 (fun _ h9 => h9) rfl (tyX5_ok 33 (by decide)) rfl rfl dX5_isCore_22 (fun h H locs hV hS hM => ?_)
    refine lv_aload_n hx hb dX5_isCore_25 rfl (lv_at hl 0 rfl) ?_
    refine m_get (C := RX5) (T := TX5) (N := 34) hx hb hts hi_X5 hown hK hV 33 (v := .int 0) (by have z9 := g_m33 hM; exact z9) rfl (by decide) k91 (fun _ h9 => h9) dX5_isCore_26 ?_
    refine lv_if_ne (tgt := 36) hx hb dX5_isCore_29 (by decide) (fun c29 => (absurd (by decide) c29)) (fun c29 => ?_)
    refine lv_iconst (v := 1) hx hb dX5_isCore_32 (by decide) ?_
    refine lv_goto (tgt := 37) hx hb dX5_isCore_33 (by decide) ?_
    exact m_zret (v := 1) hx hb hr hlocks (by decide) hV hS (⟨(by rw [if_pos c14]; exact hM), by rw [c14]; rfl⟩) dX5_isCore_37
set_option maxHeartbeats 4000000 in
set_option maxRecDepth 100000 in
theorem c_X5_asks {l : Launch} {D : va_G} {cs : mC} {df : Nat} {P : Nat → Prop} {h0 : mH} {B : Nat → Nat} {μ : KS} {hh : mH} (sz : Nat) (hM : DRep cs P h0 B μ hh) (x0 : Int32) : Met l yX5_asks wsX5_asks ({ frames := 2, cells := 0, slots := 0, locals := 46 }) (mPre [.ref (B 100), .int x0] D cs df hh sz) (va_Qi ((fun (r : Int32) (h1 : mH) => DRep cs P h0 B (thS μ (if ((inR x0 (kN μ 24 0)).isSome) = true then 0 else 1)) h1 ∧ r = bI ((inR x0 (kN μ 24 0)).isSome))) (mB D hh sz) (mA hh sz)) 0 0 (mA hh sz) := by
  refine Met.ofW (cc := cX5_asks) (maxL := 2) (ret := (some .boolean)) (by decide) rfl ?_
  intro p e s m args below meth c s₁ B0 hml hv
  obtain ⟨hargs, hsz, hV, hE⟩ := hv
  subst hsz
  have hx := B0.exec
  have hb := B0.bytes
  have hr := B0.returns
  have hlocks := B0.notSynchronized
  have hts := atoms_spec (ws := wsX5_asks) B0.pre
  have hown : s.vm.findClass RX5 = some m.cls := findClass_of_methodNamed B0.named
  have hK := hE.1.1
  have hA : ∀ q : Nat, s.heap.size ≤ q → mA hh s.heap.size q := mA.top
  have hS : va_S (mA hh s.heap.size) s.heap s.heap [] := va_S.rf
  have k91 : (Cond.fieldLink RX5 91 "TaskKernelModel" "thrown" "I").before args s = true := hts _ (by decide +kernel)
  have hi_X5 : ∀ w ∈ u_ws RX5 TX5 34, w ∈ wsX5_asks := by decide +kernel
  have hl := lv_entry ([.ref (B 100), .int x0]) (n := 2) (by first | exact Nat.le_of_ble_eq_true rfl | simp [lg_sl, rf_cat, ct_ref, ct_int, ct_null, ct_long])
  have hent := lg_entry_eq m ([.ref (B 100), .int x0]) 2
  rw [← hargs] at hent
  rw [hent]
  generalize (lg_sl ([.ref (B 100), .int x0]) ++ List.replicate (2 - (lg_sl ([.ref (B 100), .int x0])).length) Slot.unset).toArray = ls at hl ⊢
  replace hl : lv_has ls 2 [(0, .ref (B 100)), (1, .int x0)] := hl
  have hwf := hM.wf
  obtain ⟨⟨y0, y1, y2, y3⟩, y4, y5, y6, y7⟩ := hwf
  refine lv_aload_n hx hb dX5_asks_0 rfl (lv_at hl 0 rfl) ?_
  refine lv_aload_n hx hb dX5_asks_1 rfl (lv_at hl 0 rfl) ?_
  refine lv_iload_n hx hb dX5_asks_2 rfl (lv_at hl 1 rfl) ?_
  refine m_calli (va_runV (As := [.int x0]) (rest := [.ref (B 100)]) ⟨hx, hb, hml, hown, hts⟩ (c_X5_isTask (l := l) (s.heap.size) hM x0) (cwV 1 hts gX5_asks_X5_isTask rfl rfl rfl (by decide +kernel) ⟨by decide, by decide⟩) (m_preV (r := (RX5, TX5, 34)) hE hV hS hA (hM.at 100 (by decide)) rfl) rfl rfl hl.1 rfl (lv_room (by first | exact Nat.le_of_ble_eq_true rfl | simp [rf_cat, ct_ref, ct_int, ct_null, ct_long])) dX5_asks_3 ⟨by decide, by decide⟩) hV hS hA (fun r h1 H locs hV hS hp _ => ?_)
  obtain ⟨e1, e2⟩ := hp
  subst e2
  rw [e1] at hV; clear e1
  refine lv_if_eq (tgt := 13) hx hb dX5_asks_6 (by decide) (fun c6 => ?_) (fun c6 => ?_)
  · replace c6 : ((inR x0 (kN μ 24 0)).isSome) = false := bI_0.mp c6
    refine lv_iconst (v := 1) hx hb dX5_asks_13 (by decide) ?_
    refine m_put (C := RX5) (T := TX5) (N := 34) (v := .int 1) hx hb hts hi_X5 tyX5 tyX5_ok nmX5 hown hK hV hS 33 (p_m33 hM 1) rfl (by decide) k91 (fun _ h9 => h9) rfl (tyX5_ok 33 (by decide)) rfl rfl dX5_asks_14 (fun h H locs hV hS hM => ?_)
    refine lv_aload_n hx hb dX5_asks_17 rfl (lv_at hl 0 rfl) ?_
    refine m_get (C := RX5) (T := TX5) (N := 34) hx hb hts hi_X5 hown hK hV 33 (v := .int 1) (by have z9 := g_m33 hM; exact z9) rfl (by decide) k91 (fun _ h9 => h9) dX5_asks_18 ?_
    refine lv_if_ne (tgt := 28) hx hb dX5_asks_21 (by decide) (fun c21 => ?_) (fun c21 => (absurd c21 (by decide)))
    refine lv_iconst (v := 0) hx hb dX5_asks_28 (by decide) ?_
    exact m_zret (v := 0) hx hb hr hlocks (by decide) hV hS (⟨(by rw [if_neg (by rw [c6]; decide)]; exact hM), by rw [c6]; rfl⟩) dX5_asks_29
  · replace c6 : ((inR x0 (kN μ 24 0)).isSome) = true := bI_1.mp c6
    refine lv_iconst (v := 0) hx hb dX5_asks_9 (by decide) ?_
    refine lv_goto (tgt := 14) hx hb dX5_asks_10 (by decide) ?_
    refine m_put (C := RX5) (T := TX5) (N := 34) (v := .int 0) hx hb hts hi_X5 tyX5 tyX5_ok nmX5 hown hK hV hS 33 (p_m33 hM 0) rfl (by decide) k91 (fun _ h9 => h9) rfl (tyX5_ok 33 (by decide)) rfl rfl dX5_asks_14 (fun h H locs hV hS hM => ?_)
    refine lv_aload_n hx hb dX5_asks_17 rfl (lv_at hl 0 rfl) ?_
    refine m_get (C := RX5) (T := TX5) (N := 34) hx hb hts hi_X5 hown hK hV 33 (v := .int 0) (by have z9 := g_m33 hM; exact z9) rfl (by decide) k91 (fun _ h9 => h9) dX5_asks_18 ?_
    refine lv_if_ne (tgt := 28) hx hb dX5_asks_21 (by decide) (fun c21 => (absurd (by decide) c21)) (fun c21 => ?_)
    refine lv_iconst (v := 1) hx hb dX5_asks_24 (by decide) ?_
    refine lv_goto (tgt := 29) hx hb dX5_asks_25 (by decide) ?_
    exact m_zret (v := 1) hx hb hr hlocks (by decide) hV hS (⟨(by rw [if_pos c6]; exact hM), by rw [c6]; rfl⟩) dX5_asks_29
set_option maxHeartbeats 4000000 in
set_option maxRecDepth 100000 in
theorem c_X5_paceOf {l : Launch} {D : va_G} {cs : mC} {df : Nat} {P : Nat → Prop} {h0 : mH} {B : Nat → Nat} {μ : KS} {hh : mH} (sz : Nat) (hM : DRep cs P h0 B μ hh) (t : Nat) (ht : t < 3) : Met l yX5_paceOf wsX5_paceOf ({ frames := 0, cells := 0, slots := 0, locals := 0 }) (mPre [.ref (B 100), .int (nI t)] D cs df hh sz) (va_Qi ((fun (r : Int32) (h1 : mH) => h1 = hh ∧ r = (paM μ t))) (mB D hh sz) (mA hh sz)) 0 0 (mA hh sz) := by
  refine Met.ofW (cc := cX5_paceOf) (maxL := 2) (ret := (some .int)) (by decide) rfl ?_
  intro p e s m args below meth c s₁ B0 hml hv
  obtain ⟨hargs, hsz, hV, hE⟩ := hv
  subst hsz
  have hx := B0.exec
  have hb := B0.bytes
  have hr := B0.returns
  have hlocks := B0.notSynchronized
  have hts := atoms_spec (ws := wsX5_paceOf) B0.pre
  have hown : s.vm.findClass RX5 = some m.cls := findClass_of_methodNamed B0.named
  have hK := hE.1.1
  have hA : ∀ q : Nat, s.heap.size ≤ q → mA hh s.heap.size q := mA.top
  have hS : va_S (mA hh s.heap.size) s.heap s.heap [] := va_S.rf
  have hi_X5 : ∀ w ∈ u_ws RX5 TX5 34, w ∈ wsX5_paceOf := by decide +kernel
  have k13 : (Cond.fieldLink RX5 13 "TaskKernelModel" "heats" "[I").before args s = true := hts _ (by decide +kernel)
  have k16 : (Cond.fieldLink RX5 16 "TaskKernelModel" "limit" "I").before args s = true := hts _ (by decide +kernel)
  have k7 : (Cond.fieldLink RX5 7 "TaskKernelModel" "speeds" "[I").before args s = true := hts _ (by decide +kernel)
  have hl := lv_entry ([.ref (B 100), .int (nI t)]) (n := 2) (by first | exact Nat.le_of_ble_eq_true rfl | simp [lg_sl, rf_cat, ct_ref, ct_int, ct_null, ct_long])
  have hent := lg_entry_eq m ([.ref (B 100), .int (nI t)]) 2
  rw [← hargs] at hent
  rw [hent]
  generalize (lg_sl ([.ref (B 100), .int (nI t)]) ++ List.replicate (2 - (lg_sl ([.ref (B 100), .int (nI t)])).length) Slot.unset).toArray = ls at hl ⊢
  replace hl : lv_has ls 2 [(0, .ref (B 100)), (1, .int (nI t))] := hl
  have hwf := hM.wf
  obtain ⟨⟨y0, y1, y2, y3⟩, y4, y5, y6, y7⟩ := hwf
  refine lv_aload_n hx hb dX5_paceOf_0 rfl (lv_at hl 0 rfl) ?_
  refine m_get (C := RX5) (T := TX5) (N := 34) hx hb hts hi_X5 hown hK hV 2 (v := .ref (B 2)) (g_m2 hM) rfl (by decide) k13 (fun _ h9 => h9) dX5_paceOf_1 ?_
  refine lv_iload_n hx hb dX5_paceOf_4 rfl (lv_at hl 1 rfl) ?_
  refine m_iald hx hb hK hV 0 (i := nI t) (x := (kI μ 2 t)) (a_m2 hM) rfl (vp_in_nI (by omega) (by omega)) (by rw [nI_clamp (by omega)] <;> rfl) dX5_paceOf_5 ?_
  refine lv_aload_n hx hb dX5_paceOf_6 rfl (lv_at hl 0 rfl) ?_
  refine m_get (C := RX5) (T := TX5) (N := 34) hx hb hts hi_X5 hown hK hV 4 (v := .int (kI μ 4 0)) (by have z9 := g_m4 hM; exact z9) rfl (by decide) k16 (fun _ h9 => h9) dX5_paceOf_7 ?_
  refine lv_icmp_ge (tgt := 22) hx hb dX5_paceOf_10 (by decide) (fun c10 => ?_) (fun c10 => ?_)
  · refine lv_aload_n hx hb dX5_paceOf_22 rfl (lv_at hl 0 rfl) ?_
    refine m_get (C := RX5) (T := TX5) (N := 34) hx hb hts hi_X5 hown hK hV 1 (v := .ref (B 1)) (g_m1 hM) rfl (by decide) k7 (fun _ h9 => h9) dX5_paceOf_23 ?_
    refine lv_iload_n hx hb dX5_paceOf_26 rfl (lv_at hl 1 rfl) ?_
    refine m_iald hx hb hK hV 0 (i := nI t) (x := (kI μ 1 t)) (a_m1 hM) rfl (vp_in_nI (by omega) (by omega)) (by rw [nI_clamp (by omega)] <;> rfl) dX5_paceOf_27 ?_
    refine lv_iconst (v := 1) hx hb dX5_paceOf_28 (by decide) ?_
    refine lv_iadd hx hb dX5_paceOf_29 ?_
    refine lv_iconst (v := 2) hx hb dX5_paceOf_30 (by decide) ?_
    refine lv_idiv hx hb dX5_paceOf_31 (by decide) ?_
    exact m_iret (v := (((kI μ 1 t) + 1) / 2)) hx hb hr hlocks hV hS (⟨rfl, by unfold paM paceS; rw [if_pos c10]⟩) dX5_paceOf_32
  · refine lv_aload_n hx hb dX5_paceOf_13 rfl (lv_at hl 0 rfl) ?_
    refine m_get (C := RX5) (T := TX5) (N := 34) hx hb hts hi_X5 hown hK hV 1 (v := .ref (B 1)) (g_m1 hM) rfl (by decide) k7 (fun _ h9 => h9) dX5_paceOf_14 ?_
    refine lv_iload_n hx hb dX5_paceOf_17 rfl (lv_at hl 1 rfl) ?_
    refine m_iald hx hb hK hV 0 (i := nI t) (x := (kI μ 1 t)) (a_m1 hM) rfl (vp_in_nI (by omega) (by omega)) (by rw [nI_clamp (by omega)] <;> rfl) dX5_paceOf_18 ?_
    refine lv_goto (tgt := 32) hx hb dX5_paceOf_19 (by decide) ?_
    exact m_iret (v := (kI μ 1 t)) hx hb hr hlocks hV hS (⟨rfl, by unfold paM paceS; rw [if_neg c10]⟩) dX5_paceOf_32
set_option maxHeartbeats 4000000 in
set_option maxRecDepth 100000 in
theorem c_X5_heat {l : Launch} {D : va_G} {cs : mC} {df : Nat} {P : Nat → Prop} {h0 : mH} {B : Nat → Nat} {μ : KS} {hh : mH} (sz : Nat) (hM : DRep cs P h0 B μ hh) (x0 : Int32) : Met l yX5_heat wsX5_heat ({ frames := 2, cells := 0, slots := 0, locals := 46 }) (mPre [.ref (B 100), .int x0] D cs df hh sz) (va_Qi ((fun (r : Int32) (h1 : mH) => ∃ μ1 : KS, DRep cs P h0 B μ1 h1 ∧ om_heat μ x0 r μ1)) (mB D hh sz) (mA hh sz)) 0 0 (mA hh sz) := by
  refine Met.ofW (cc := cX5_heat) (maxL := 2) (ret := (some .int)) (by decide) rfl ?_
  intro p e s m args below meth c s₁ B0 hml hv
  obtain ⟨hargs, hsz, hV, hE⟩ := hv
  subst hsz
  have hx := B0.exec
  have hb := B0.bytes
  have hr := B0.returns
  have hlocks := B0.notSynchronized
  have hts := atoms_spec (ws := wsX5_heat) B0.pre
  have hown : s.vm.findClass RX5 = some m.cls := findClass_of_methodNamed B0.named
  have hK := hE.1.1
  have hA : ∀ q : Nat, s.heap.size ≤ q → mA hh s.heap.size q := mA.top
  have hS : va_S (mA hh s.heap.size) s.heap s.heap [] := va_S.rf
  have hi_X5 : ∀ w ∈ u_ws RX5 TX5 34, w ∈ wsX5_heat := by decide +kernel
  have k13 : (Cond.fieldLink RX5 13 "TaskKernelModel" "heats" "[I").before args s = true := hts _ (by decide +kernel)
  have hl := lv_entry ([.ref (B 100), .int x0]) (n := 2) (by first | exact Nat.le_of_ble_eq_true rfl | simp [lg_sl, rf_cat, ct_ref, ct_int, ct_null, ct_long])
  have hent := lg_entry_eq m ([.ref (B 100), .int x0]) 2
  rw [← hargs] at hent
  rw [hent]
  generalize (lg_sl ([.ref (B 100), .int x0]) ++ List.replicate (2 - (lg_sl ([.ref (B 100), .int x0])).length) Slot.unset).toArray = ls at hl ⊢
  replace hl : lv_has ls 2 [(0, .ref (B 100)), (1, .int x0)] := hl
  have hwf := hM.wf
  obtain ⟨⟨y0, y1, y2, y3⟩, y4, y5, y6, y7⟩ := hwf
  refine lv_aload_n hx hb dX5_heat_0 rfl (lv_at hl 0 rfl) ?_
  refine lv_iload_n hx hb dX5_heat_1 rfl (lv_at hl 1 rfl) ?_
  refine m_calli (va_runV (As := [.int x0]) (rest := []) ⟨hx, hb, hml, hown, hts⟩ (c_X5_isCore (l := l) (s.heap.size) hM x0) (cwV 1 hts gX5_heat_X5_isCore rfl rfl rfl (by decide +kernel) ⟨by decide, by decide⟩) (m_preV (r := (RX5, TX5, 34)) hE hV hS hA (hM.at 100 (by decide)) rfl) rfl rfl hl.1 rfl (lv_room (by first | exact Nat.le_of_ble_eq_true rfl | simp [rf_cat, ct_ref, ct_int, ct_null, ct_long])) dX5_heat_2 ⟨by decide, by decide⟩) hV hS hA (fun r h H locs hV hS hp _ => ?_)
  obtain ⟨hM, e2⟩ := hp
  subst e2
  refine lv_if_eq (tgt := 17) hx hb dX5_heat_5 (by decide) (fun c5 => ?_) (fun c5 => ?_)
  · replace c5 : ((inR x0 (kN μ 3 0)).isSome) = false := bI_0.mp c5
    rw [if_neg (by rw [c5]; decide)] at hM
    refine lv_iconst (v := (-1)) hx hb dX5_heat_17 (by decide) ?_
    exact m_iret (v := (-1)) hx hb hr hlocks hV hS (⟨_, hM, Or.inr ⟨Option.not_isSome_iff_eq_none.mp (by rw [c5]; decide), rfl⟩⟩) dX5_heat_18
  · replace c5 : ((inR x0 (kN μ 3 0)).isSome) = true := bI_1.mp c5
    rw [if_pos c5] at hM
    obtain ⟨t, ht⟩ := Option.isSome_iff_exists.mp c5
    obtain ⟨rfl, bt⟩ := inR_some ht
    refine lv_aload_n hx hb dX5_heat_8 rfl (lv_at hl 0 rfl) ?_
    refine m_get (C := RX5) (T := TX5) (N := 34) hx hb hts hi_X5 hown hK hV 2 (v := .ref (B 2)) (g_m2 hM) rfl (by decide) k13 (fun _ h9 => h9) dX5_heat_9 ?_
    refine lv_iload_n hx hb dX5_heat_12 rfl (lv_at hl 1 rfl) ?_
    refine m_iald hx hb hK hV 0 (i := nI t) (x := (kI (thS μ 0) 2 t)) (a_m2 hM) rfl (vp_in_nI (by omega) (by omega)) (by rw [nI_clamp (by omega)] <;> rfl) dX5_heat_13 ?_
    refine lv_goto (tgt := 18) hx hb dX5_heat_14 (by decide) ?_
    exact m_iret (v := (kI (thS μ 0) 2 t)) hx hb hr hlocks hV hS (⟨_, hM, Or.inl ⟨t, ht, rfl, rfl⟩⟩) dX5_heat_18
set_option maxHeartbeats 4000000 in
set_option maxRecDepth 100000 in
theorem c_X5_pace {l : Launch} {D : va_G} {cs : mC} {df : Nat} {P : Nat → Prop} {h0 : mH} {B : Nat → Nat} {μ : KS} {hh : mH} (sz : Nat) (hM : DRep cs P h0 B μ hh) (x0 : Int32) : Met l yX5_pace wsX5_pace ({ frames := 2, cells := 0, slots := 0, locals := 46 }) (mPre [.ref (B 100), .int x0] D cs df hh sz) (va_Qi ((fun (r : Int32) (h1 : mH) => ∃ μ1 : KS, DRep cs P h0 B μ1 h1 ∧ om_pace μ x0 r μ1)) (mB D hh sz) (mA hh sz)) 0 0 (mA hh sz) := by
  refine Met.ofW (cc := cX5_pace) (maxL := 2) (ret := (some .int)) (by decide) rfl ?_
  intro p e s m args below meth c s₁ B0 hml hv
  obtain ⟨hargs, hsz, hV, hE⟩ := hv
  subst hsz
  have hx := B0.exec
  have hb := B0.bytes
  have hr := B0.returns
  have hlocks := B0.notSynchronized
  have hts := atoms_spec (ws := wsX5_pace) B0.pre
  have hown : s.vm.findClass RX5 = some m.cls := findClass_of_methodNamed B0.named
  have hK := hE.1.1
  have hA : ∀ q : Nat, s.heap.size ≤ q → mA hh s.heap.size q := mA.top
  have hS : va_S (mA hh s.heap.size) s.heap s.heap [] := va_S.rf
  have hl := lv_entry ([.ref (B 100), .int x0]) (n := 2) (by first | exact Nat.le_of_ble_eq_true rfl | simp [lg_sl, rf_cat, ct_ref, ct_int, ct_null, ct_long])
  have hent := lg_entry_eq m ([.ref (B 100), .int x0]) 2
  rw [← hargs] at hent
  rw [hent]
  generalize (lg_sl ([.ref (B 100), .int x0]) ++ List.replicate (2 - (lg_sl ([.ref (B 100), .int x0])).length) Slot.unset).toArray = ls at hl ⊢
  replace hl : lv_has ls 2 [(0, .ref (B 100)), (1, .int x0)] := hl
  have hwf := hM.wf
  obtain ⟨⟨y0, y1, y2, y3⟩, y4, y5, y6, y7⟩ := hwf
  refine lv_aload_n hx hb dX5_pace_0 rfl (lv_at hl 0 rfl) ?_
  refine lv_iload_n hx hb dX5_pace_1 rfl (lv_at hl 1 rfl) ?_
  refine m_calli (va_runV (As := [.int x0]) (rest := []) ⟨hx, hb, hml, hown, hts⟩ (c_X5_isCore (l := l) (s.heap.size) hM x0) (cwV 1 hts gX5_pace_X5_isCore rfl rfl rfl (by decide +kernel) ⟨by decide, by decide⟩) (m_preV (r := (RX5, TX5, 34)) hE hV hS hA (hM.at 100 (by decide)) rfl) rfl rfl hl.1 rfl (lv_room (by first | exact Nat.le_of_ble_eq_true rfl | simp [rf_cat, ct_ref, ct_int, ct_null, ct_long])) dX5_pace_2 ⟨by decide, by decide⟩) hV hS hA (fun r h H locs hV hS hp _ => ?_)
  obtain ⟨hM, e2⟩ := hp
  subst e2
  refine lv_if_eq (tgt := 16) hx hb dX5_pace_5 (by decide) (fun c5 => ?_) (fun c5 => ?_)
  · replace c5 : ((inR x0 (kN μ 3 0)).isSome) = false := bI_0.mp c5
    rw [if_neg (by rw [c5]; decide)] at hM
    refine lv_iconst (v := (-1)) hx hb dX5_pace_16 (by decide) ?_
    exact m_iret (v := (-1)) hx hb hr hlocks hV hS (⟨_, hM, Or.inr ⟨Option.not_isSome_iff_eq_none.mp (by rw [c5]; decide), rfl⟩⟩) dX5_pace_17
  · replace c5 : ((inR x0 (kN μ 3 0)).isSome) = true := bI_1.mp c5
    rw [if_pos c5] at hM
    obtain ⟨t, ht⟩ := Option.isSome_iff_exists.mp c5
    obtain ⟨rfl, bt⟩ := inR_some ht
    refine lv_aload_n hx hb dX5_pace_8 rfl (lv_at hl 0 rfl) ?_
    refine lv_iload_n hx hb dX5_pace_9 rfl (lv_at hl 1 rfl) ?_
    refine m_calli (va_runV (As := [.int (nI t)]) (rest := []) ⟨hx, hb, hml, hown, hts⟩ (c_X5_paceOf (l := l) (H.size) hM t (by first | assumption | omega)) (cwV 1 hts gX5_pace_X5_paceOf rfl rfl rfl (by decide +kernel) ⟨by decide, by decide⟩) (m_preV (r := (RX5, TX5, 34)) hE hV hS hA (hM.at 100 (by decide)) rfl) rfl rfl hl.1 rfl (lv_room (by first | exact Nat.le_of_ble_eq_true rfl | simp [rf_cat, ct_ref, ct_int, ct_null, ct_long])) dX5_pace_10 ⟨by decide, by decide⟩) hV hS hA (fun r h1 H locs hV hS hp _ => ?_)
    obtain ⟨e1, e2⟩ := hp
    subst e2
    rw [e1] at hV; clear e1
    refine lv_goto (tgt := 17) hx hb dX5_pace_13 (by decide) ?_
    exact m_iret (v := (paM (thS μ 0) t)) hx hb hr hlocks hV hS (⟨_, hM, Or.inl ⟨t, ht, rfl, rfl⟩⟩) dX5_pace_17
set_option maxHeartbeats 4000000 in
set_option maxRecDepth 100000 in
theorem c_X5_left {l : Launch} {D : va_G} {cs : mC} {df : Nat} {P : Nat → Prop} {h0 : mH} {B : Nat → Nat} {μ : KS} {hh : mH} (sz : Nat) (hM : DRep cs P h0 B μ hh) (x0 : Int32) : Met l yX5_left wsX5_left ({ frames := 3, cells := 0, slots := 0, locals := 67 }) (mPre [.ref (B 100), .int x0] D cs df hh sz) (va_Qi ((fun (r : Int32) (h1 : mH) => ∃ μ1 : KS, DRep cs P h0 B μ1 h1 ∧ om_left μ x0 r μ1)) (mB D hh sz) (mA hh sz)) 0 0 (mA hh sz) := by
  refine Met.ofW (cc := cX5_left) (maxL := 2) (ret := (some .int)) (by decide) rfl ?_
  intro p e s m args below meth c s₁ B0 hml hv
  obtain ⟨hargs, hsz, hV, hE⟩ := hv
  subst hsz
  have hx := B0.exec
  have hb := B0.bytes
  have hr := B0.returns
  have hlocks := B0.notSynchronized
  have hts := atoms_spec (ws := wsX5_left) B0.pre
  have hown : s.vm.findClass RX5 = some m.cls := findClass_of_methodNamed B0.named
  have hK := hE.1.1
  have hA : ∀ q : Nat, s.heap.size ≤ q → mA hh s.heap.size q := mA.top
  have hS : va_S (mA hh s.heap.size) s.heap s.heap [] := va_S.rf
  have hi_X5 : ∀ w ∈ u_ws RX5 TX5 34, w ∈ wsX5_left := by decide +kernel
  have k45 : (Cond.fieldLink RX5 45 "TaskKernelModel" "lefts" "[I").before args s = true := hts _ (by decide +kernel)
  have hl := lv_entry ([.ref (B 100), .int x0]) (n := 2) (by first | exact Nat.le_of_ble_eq_true rfl | simp [lg_sl, rf_cat, ct_ref, ct_int, ct_null, ct_long])
  have hent := lg_entry_eq m ([.ref (B 100), .int x0]) 2
  rw [← hargs] at hent
  rw [hent]
  generalize (lg_sl ([.ref (B 100), .int x0]) ++ List.replicate (2 - (lg_sl ([.ref (B 100), .int x0])).length) Slot.unset).toArray = ls at hl ⊢
  replace hl : lv_has ls 2 [(0, .ref (B 100)), (1, .int x0)] := hl
  have hwf := hM.wf
  obtain ⟨⟨y0, y1, y2, y3⟩, y4, y5, y6, y7⟩ := hwf
  refine lv_aload_n hx hb dX5_left_0 rfl (lv_at hl 0 rfl) ?_
  refine lv_iload_n hx hb dX5_left_1 rfl (lv_at hl 1 rfl) ?_
  refine m_calli (va_runV (As := [.int x0]) (rest := []) ⟨hx, hb, hml, hown, hts⟩ (c_X5_asks (l := l) (s.heap.size) hM x0) (cwV 1 hts gX5_left_X5_asks rfl rfl rfl (by decide +kernel) ⟨by decide, by decide⟩) (m_preV (r := (RX5, TX5, 34)) hE hV hS hA (hM.at 100 (by decide)) rfl) rfl rfl hl.1 rfl (lv_room (by first | exact Nat.le_of_ble_eq_true rfl | simp [rf_cat, ct_ref, ct_int, ct_null, ct_long])) dX5_left_2 ⟨by decide, by decide⟩) hV hS hA (fun r h H locs hV hS hp _ => ?_)
  obtain ⟨hM, e2⟩ := hp
  subst e2
  refine lv_if_eq (tgt := 17) hx hb dX5_left_5 (by decide) (fun c5 => ?_) (fun c5 => ?_)
  · replace c5 : ((inR x0 (kN μ 24 0)).isSome) = false := bI_0.mp c5
    rw [if_neg (by rw [c5]; decide)] at hM
    refine lv_iconst (v := (-1)) hx hb dX5_left_17 (by decide) ?_
    exact m_iret (v := (-1)) hx hb hr hlocks hV hS (⟨_, hM, Or.inr ⟨Option.not_isSome_iff_eq_none.mp (by rw [c5]; decide), rfl⟩⟩) dX5_left_18
  · replace c5 : ((inR x0 (kN μ 24 0)).isSome) = true := bI_1.mp c5
    rw [if_pos c5] at hM
    obtain ⟨t, ht⟩ := Option.isSome_iff_exists.mp c5
    obtain ⟨rfl, bt⟩ := inR_some ht
    refine lv_aload_n hx hb dX5_left_8 rfl (lv_at hl 0 rfl) ?_
    refine m_get (C := RX5) (T := TX5) (N := 34) hx hb hts hi_X5 hown hK hV 13 (v := .ref (B 13)) (g_m13 hM) rfl (by decide) k45 (fun _ h9 => h9) dX5_left_9 ?_
    refine lv_iload_n hx hb dX5_left_12 rfl (lv_at hl 1 rfl) ?_
    refine m_iald hx hb hK hV 0 (i := nI t) (x := (kI (thS μ 0) 13 t)) (a_m13 hM) rfl (vp_in_nI (by omega) (by omega)) (by rw [nI_clamp (by omega)] <;> rfl) dX5_left_13 ?_
    refine lv_goto (tgt := 18) hx hb dX5_left_14 (by decide) ?_
    exact m_iret (v := (kI (thS μ 0) 13 t)) hx hb hr hlocks hV hS (⟨_, hM, Or.inl ⟨t, ht, rfl, rfl⟩⟩) dX5_left_18
set_option maxHeartbeats 4000000 in
set_option maxRecDepth 100000 in
theorem c_X5_timeOf {l : Launch} {D : va_G} {cs : mC} {df : Nat} {P : Nat → Prop} {h0 : mH} {B : Nat → Nat} {μ : KS} {hh : mH} (sz : Nat) (hM : DRep cs P h0 B μ hh) (x0 : Int32) : Met l yX5_timeOf wsX5_timeOf ({ frames := 3, cells := 0, slots := 0, locals := 67 }) (mPre [.ref (B 100), .int x0] D cs df hh sz) (va_Ql ((fun (r : Int64) (h1 : mH) => ∃ μ1 : KS, DRep cs P h0 B μ1 h1 ∧ om_timeOf μ x0 r μ1)) (mB D hh sz) (mA hh sz)) 0 0 (mA hh sz) := by
  refine Met.ofW (cc := cX5_timeOf) (maxL := 2) (ret := (some .long)) (by decide) rfl ?_
  intro p e s m args below meth c s₁ B0 hml hv
  obtain ⟨hargs, hsz, hV, hE⟩ := hv
  subst hsz
  have hx := B0.exec
  have hb := B0.bytes
  have hr := B0.returns
  have hlocks := B0.notSynchronized
  have hts := atoms_spec (ws := wsX5_timeOf) B0.pre
  have hown : s.vm.findClass RX5 = some m.cls := findClass_of_methodNamed B0.named
  have hK := hE.1.1
  have hA : ∀ q : Nat, s.heap.size ≤ q → mA hh s.heap.size q := mA.top
  have hS : va_S (mA hh s.heap.size) s.heap s.heap [] := va_S.rf
  have kk115 : (Cond.constantLong RX5 115 (-1)).before args s = true := hts _ (by decide +kernel)
  have hi_X5 : ∀ w ∈ u_ws RX5 TX5 34, w ∈ wsX5_timeOf := by decide +kernel
  have k42 : (Cond.fieldLink RX5 42 "TaskKernelModel" "times" "[J").before args s = true := hts _ (by decide +kernel)
  have hl := lv_entry ([.ref (B 100), .int x0]) (n := 2) (by first | exact Nat.le_of_ble_eq_true rfl | simp [lg_sl, rf_cat, ct_ref, ct_int, ct_null, ct_long])
  have hent := lg_entry_eq m ([.ref (B 100), .int x0]) 2
  rw [← hargs] at hent
  rw [hent]
  generalize (lg_sl ([.ref (B 100), .int x0]) ++ List.replicate (2 - (lg_sl ([.ref (B 100), .int x0])).length) Slot.unset).toArray = ls at hl ⊢
  replace hl : lv_has ls 2 [(0, .ref (B 100)), (1, .int x0)] := hl
  have hwf := hM.wf
  obtain ⟨⟨y0, y1, y2, y3⟩, y4, y5, y6, y7⟩ := hwf
  refine lv_aload_n hx hb dX5_timeOf_0 rfl (lv_at hl 0 rfl) ?_
  refine lv_iload_n hx hb dX5_timeOf_1 rfl (lv_at hl 1 rfl) ?_
  refine m_calli (va_runV (As := [.int x0]) (rest := []) ⟨hx, hb, hml, hown, hts⟩ (c_X5_asks (l := l) (s.heap.size) hM x0) (cwV 1 hts gX5_timeOf_X5_asks rfl rfl rfl (by decide +kernel) ⟨by decide, by decide⟩) (m_preV (r := (RX5, TX5, 34)) hE hV hS hA (hM.at 100 (by decide)) rfl) rfl rfl hl.1 rfl (lv_room (by first | exact Nat.le_of_ble_eq_true rfl | simp [rf_cat, ct_ref, ct_int, ct_null, ct_long])) dX5_timeOf_2 ⟨by decide, by decide⟩) hV hS hA (fun r h H locs hV hS hp _ => ?_)
  obtain ⟨hM, e2⟩ := hp
  subst e2
  refine lv_if_eq (tgt := 17) hx hb dX5_timeOf_5 (by decide) (fun c5 => ?_) (fun c5 => ?_)
  · replace c5 : ((inR x0 (kN μ 24 0)).isSome) = false := bI_0.mp c5
    rw [if_neg (by rw [c5]; decide)] at hM
    refine lv_ldc2 (v := (-1)) hx hb hown kk115 dX5_timeOf_17 ?_
    exact m_lret (v := (-1)) hx hb hr hlocks hV hS (⟨_, hM, Or.inr ⟨Option.not_isSome_iff_eq_none.mp (by rw [c5]; decide), rfl⟩⟩) dX5_timeOf_20
  · replace c5 : ((inR x0 (kN μ 24 0)).isSome) = true := bI_1.mp c5
    rw [if_pos c5] at hM
    obtain ⟨t, ht⟩ := Option.isSome_iff_exists.mp c5
    obtain ⟨rfl, bt⟩ := inR_some ht
    refine lv_aload_n hx hb dX5_timeOf_8 rfl (lv_at hl 0 rfl) ?_
    refine m_get (C := RX5) (T := TX5) (N := 34) hx hb hts hi_X5 hown hK hV 12 (v := .ref (B 12)) (g_m12 hM) rfl (by decide) k42 (fun _ h9 => h9) dX5_timeOf_9 ?_
    refine lv_iload_n hx hb dX5_timeOf_12 rfl (lv_at hl 1 rfl) ?_
    refine m_lald hx hb hK hV 1 (i := nI t) (x := (kW (thS μ 0) 12 t)) (a_m12 hM) rfl (vp_in_nI (by omega) (by omega)) (by rw [nI_clamp (by omega)] <;> rfl) dX5_timeOf_13 ?_
    refine lv_goto (tgt := 20) hx hb dX5_timeOf_14 (by decide) ?_
    exact m_lret (v := (kW (thS μ 0) 12 t)) hx hb hr hlocks hV hS (⟨_, hM, Or.inl ⟨t, ht, rfl, rfl⟩⟩) dX5_timeOf_20
set_option maxHeartbeats 4000000 in
set_option maxRecDepth 100000 in
theorem c_X5_doneBy {l : Launch} {D : va_G} {cs : mC} {df : Nat} {P : Nat → Prop} {h0 : mH} {B : Nat → Nat} {μ : KS} {hh : mH} (sz : Nat) (hM : DRep cs P h0 B μ hh) (x0 : Int32) : Met l yX5_doneBy wsX5_doneBy ({ frames := 3, cells := 0, slots := 0, locals := 67 }) (mPre [.ref (B 100), .int x0] D cs df hh sz) (va_Qi ((fun (r : Int32) (h1 : mH) => ∃ μ1 : KS, DRep cs P h0 B μ1 h1 ∧ om_doneBy μ x0 r μ1)) (mB D hh sz) (mA hh sz)) 0 0 (mA hh sz) := by
  refine Met.ofW (cc := cX5_doneBy) (maxL := 2) (ret := (some .int)) (by decide) rfl ?_
  intro p e s m args below meth c s₁ B0 hml hv
  obtain ⟨hargs, hsz, hV, hE⟩ := hv
  subst hsz
  have hx := B0.exec
  have hb := B0.bytes
  have hr := B0.returns
  have hlocks := B0.notSynchronized
  have hts := atoms_spec (ws := wsX5_doneBy) B0.pre
  have hown : s.vm.findClass RX5 = some m.cls := findClass_of_methodNamed B0.named
  have hK := hE.1.1
  have hA : ∀ q : Nat, s.heap.size ≤ q → mA hh s.heap.size q := mA.top
  have hS : va_S (mA hh s.heap.size) s.heap s.heap [] := va_S.rf
  have hi_X5 : ∀ w ∈ u_ws RX5 TX5 34, w ∈ wsX5_doneBy := by decide +kernel
  have k63 : (Cond.fieldLink RX5 63 "TaskKernelModel" "done" "[I").before args s = true := hts _ (by decide +kernel)
  have hl := lv_entry ([.ref (B 100), .int x0]) (n := 2) (by first | exact Nat.le_of_ble_eq_true rfl | simp [lg_sl, rf_cat, ct_ref, ct_int, ct_null, ct_long])
  have hent := lg_entry_eq m ([.ref (B 100), .int x0]) 2
  rw [← hargs] at hent
  rw [hent]
  generalize (lg_sl ([.ref (B 100), .int x0]) ++ List.replicate (2 - (lg_sl ([.ref (B 100), .int x0])).length) Slot.unset).toArray = ls at hl ⊢
  replace hl : lv_has ls 2 [(0, .ref (B 100)), (1, .int x0)] := hl
  have hwf := hM.wf
  obtain ⟨⟨y0, y1, y2, y3⟩, y4, y5, y6, y7⟩ := hwf
  refine lv_aload_n hx hb dX5_doneBy_0 rfl (lv_at hl 0 rfl) ?_
  refine lv_iload_n hx hb dX5_doneBy_1 rfl (lv_at hl 1 rfl) ?_
  refine m_calli (va_runV (As := [.int x0]) (rest := []) ⟨hx, hb, hml, hown, hts⟩ (c_X5_asks (l := l) (s.heap.size) hM x0) (cwV 1 hts gX5_doneBy_X5_asks rfl rfl rfl (by decide +kernel) ⟨by decide, by decide⟩) (m_preV (r := (RX5, TX5, 34)) hE hV hS hA (hM.at 100 (by decide)) rfl) rfl rfl hl.1 rfl (lv_room (by first | exact Nat.le_of_ble_eq_true rfl | simp [rf_cat, ct_ref, ct_int, ct_null, ct_long])) dX5_doneBy_2 ⟨by decide, by decide⟩) hV hS hA (fun r h H locs hV hS hp _ => ?_)
  obtain ⟨hM, e2⟩ := hp
  subst e2
  refine lv_if_eq (tgt := 17) hx hb dX5_doneBy_5 (by decide) (fun c5 => ?_) (fun c5 => ?_)
  · replace c5 : ((inR x0 (kN μ 24 0)).isSome) = false := bI_0.mp c5
    rw [if_neg (by rw [c5]; decide)] at hM
    refine lv_iconst (v := (-1)) hx hb dX5_doneBy_17 (by decide) ?_
    exact m_iret (v := (-1)) hx hb hr hlocks hV hS (⟨_, hM, Or.inr ⟨Option.not_isSome_iff_eq_none.mp (by rw [c5]; decide), rfl⟩⟩) dX5_doneBy_18
  · replace c5 : ((inR x0 (kN μ 24 0)).isSome) = true := bI_1.mp c5
    rw [if_pos c5] at hM
    obtain ⟨t, ht⟩ := Option.isSome_iff_exists.mp c5
    obtain ⟨rfl, bt⟩ := inR_some ht
    refine lv_aload_n hx hb dX5_doneBy_8 rfl (lv_at hl 0 rfl) ?_
    refine m_get (C := RX5) (T := TX5) (N := 34) hx hb hts hi_X5 hown hK hV 19 (v := .ref (B 19)) (g_m19 hM) rfl (by decide) k63 (fun _ h9 => h9) dX5_doneBy_9 ?_
    refine lv_iload_n hx hb dX5_doneBy_12 rfl (lv_at hl 1 rfl) ?_
    refine m_iald hx hb hK hV 0 (i := nI t) (x := (kI (thS μ 0) 19 t)) (a_m19 hM) rfl (vp_in_nI (by omega) (by omega)) (by rw [nI_clamp (by omega)] <;> rfl) dX5_doneBy_13 ?_
    refine lv_goto (tgt := 18) hx hb dX5_doneBy_14 (by decide) ?_
    exact m_iret (v := (kI (thS μ 0) 19 t)) hx hb hr hlocks hV hS (⟨_, hM, Or.inl ⟨t, ht, rfl, rfl⟩⟩) dX5_doneBy_18
set_option maxHeartbeats 4000000 in
set_option maxRecDepth 100000 in
theorem c_X5_missesOf {l : Launch} {D : va_G} {cs : mC} {df : Nat} {P : Nat → Prop} {h0 : mH} {B : Nat → Nat} {μ : KS} {hh : mH} (sz : Nat) (hM : DRep cs P h0 B μ hh) (x0 : Int32) : Met l yX5_missesOf wsX5_missesOf ({ frames := 3, cells := 0, slots := 0, locals := 67 }) (mPre [.ref (B 100), .int x0] D cs df hh sz) (va_Qi ((fun (r : Int32) (h1 : mH) => ∃ μ1 : KS, DRep cs P h0 B μ1 h1 ∧ om_missesOf μ x0 r μ1)) (mB D hh sz) (mA hh sz)) 0 0 (mA hh sz) := by
  refine Met.ofW (cc := cX5_missesOf) (maxL := 2) (ret := (some .int)) (by decide) rfl ?_
  intro p e s m args below meth c s₁ B0 hml hv
  obtain ⟨hargs, hsz, hV, hE⟩ := hv
  subst hsz
  have hx := B0.exec
  have hb := B0.bytes
  have hr := B0.returns
  have hlocks := B0.notSynchronized
  have hts := atoms_spec (ws := wsX5_missesOf) B0.pre
  have hown : s.vm.findClass RX5 = some m.cls := findClass_of_methodNamed B0.named
  have hK := hE.1.1
  have hA : ∀ q : Nat, s.heap.size ≤ q → mA hh s.heap.size q := mA.top
  have hS : va_S (mA hh s.heap.size) s.heap s.heap [] := va_S.rf
  have hi_X5 : ∀ w ∈ u_ws RX5 TX5 34, w ∈ wsX5_missesOf := by decide +kernel
  have k60 : (Cond.fieldLink RX5 60 "TaskKernelModel" "missed" "[I").before args s = true := hts _ (by decide +kernel)
  have hl := lv_entry ([.ref (B 100), .int x0]) (n := 2) (by first | exact Nat.le_of_ble_eq_true rfl | simp [lg_sl, rf_cat, ct_ref, ct_int, ct_null, ct_long])
  have hent := lg_entry_eq m ([.ref (B 100), .int x0]) 2
  rw [← hargs] at hent
  rw [hent]
  generalize (lg_sl ([.ref (B 100), .int x0]) ++ List.replicate (2 - (lg_sl ([.ref (B 100), .int x0])).length) Slot.unset).toArray = ls at hl ⊢
  replace hl : lv_has ls 2 [(0, .ref (B 100)), (1, .int x0)] := hl
  have hwf := hM.wf
  obtain ⟨⟨y0, y1, y2, y3⟩, y4, y5, y6, y7⟩ := hwf
  refine lv_aload_n hx hb dX5_missesOf_0 rfl (lv_at hl 0 rfl) ?_
  refine lv_iload_n hx hb dX5_missesOf_1 rfl (lv_at hl 1 rfl) ?_
  refine m_calli (va_runV (As := [.int x0]) (rest := []) ⟨hx, hb, hml, hown, hts⟩ (c_X5_asks (l := l) (s.heap.size) hM x0) (cwV 1 hts gX5_missesOf_X5_asks rfl rfl rfl (by decide +kernel) ⟨by decide, by decide⟩) (m_preV (r := (RX5, TX5, 34)) hE hV hS hA (hM.at 100 (by decide)) rfl) rfl rfl hl.1 rfl (lv_room (by first | exact Nat.le_of_ble_eq_true rfl | simp [rf_cat, ct_ref, ct_int, ct_null, ct_long])) dX5_missesOf_2 ⟨by decide, by decide⟩) hV hS hA (fun r h H locs hV hS hp _ => ?_)
  obtain ⟨hM, e2⟩ := hp
  subst e2
  refine lv_if_eq (tgt := 17) hx hb dX5_missesOf_5 (by decide) (fun c5 => ?_) (fun c5 => ?_)
  · replace c5 : ((inR x0 (kN μ 24 0)).isSome) = false := bI_0.mp c5
    rw [if_neg (by rw [c5]; decide)] at hM
    refine lv_iconst (v := (-1)) hx hb dX5_missesOf_17 (by decide) ?_
    exact m_iret (v := (-1)) hx hb hr hlocks hV hS (⟨_, hM, Or.inr ⟨Option.not_isSome_iff_eq_none.mp (by rw [c5]; decide), rfl⟩⟩) dX5_missesOf_18
  · replace c5 : ((inR x0 (kN μ 24 0)).isSome) = true := bI_1.mp c5
    rw [if_pos c5] at hM
    obtain ⟨t, ht⟩ := Option.isSome_iff_exists.mp c5
    obtain ⟨rfl, bt⟩ := inR_some ht
    refine lv_aload_n hx hb dX5_missesOf_8 rfl (lv_at hl 0 rfl) ?_
    refine m_get (C := RX5) (T := TX5) (N := 34) hx hb hts hi_X5 hown hK hV 18 (v := .ref (B 18)) (g_m18 hM) rfl (by decide) k60 (fun _ h9 => h9) dX5_missesOf_9 ?_
    refine lv_iload_n hx hb dX5_missesOf_12 rfl (lv_at hl 1 rfl) ?_
    refine m_iald hx hb hK hV 0 (i := nI t) (x := (kI (thS μ 0) 18 t)) (a_m18 hM) rfl (vp_in_nI (by omega) (by omega)) (by rw [nI_clamp (by omega)] <;> rfl) dX5_missesOf_13 ?_
    refine lv_goto (tgt := 18) hx hb dX5_missesOf_14 (by decide) ?_
    exact m_iret (v := (kI (thS μ 0) 18 t)) hx hb hr hlocks hV hS (⟨_, hM, Or.inl ⟨t, ht, rfl, rfl⟩⟩) dX5_missesOf_18
set_option maxHeartbeats 4000000 in
set_option maxRecDepth 100000 in
theorem c_X5_shares {l : Launch} {D : va_G} {cs : mC} {df : Nat} {P : Nat → Prop} {h0 : mH} {B : Nat → Nat} {μ : KS} {hh : mH} (sz : Nat) (hM : DRep cs P h0 B μ hh)  : Met l yX5_shares wsX5_shares ({ frames := 1, cells := 0, slots := 0, locals := 21 }) (mPre [.ref (B 100)] D cs df hh sz) (va_Qi ((fun (r : Int32) (h1 : mH) => h1 = hh ∧ r = (shsM μ))) (mB D hh sz) (mA hh sz)) 0 0 (mA hh sz) := by
  refine Met.ofW (cc := cX5_shares) (maxL := 3) (ret := (some .int)) (by decide) rfl ?_
  intro p e s m args below meth c s₁ B0 hml hv
  obtain ⟨hargs, hsz, hV, hE⟩ := hv
  subst hsz
  have hx := B0.exec
  have hb := B0.bytes
  have hr := B0.returns
  have hlocks := B0.notSynchronized
  have hts := atoms_spec (ws := wsX5_shares) B0.pre
  have hown : s.vm.findClass RX5 = some m.cls := findClass_of_methodNamed B0.named
  have hK := hE.1.1
  have hA : ∀ q : Nat, s.heap.size ≤ q → mA hh s.heap.size q := mA.top
  have hS : va_S (mA hh s.heap.size) s.heap s.heap [] := va_S.rf
  have hi_X5 : ∀ w ∈ u_ws RX5 TX5 34, w ∈ wsX5_shares := by decide +kernel
  have k117 : (Cond.fieldLink RX5 117 "TaskKernelModel" "tasks" "I").before args s = true := hts _ (by decide +kernel)
  have k48 : (Cond.fieldLink RX5 48 "TaskKernelModel" "periods" "[I").before args s = true := hts _ (by decide +kernel)
  have k69 : (Cond.fieldLink RX5 69 "TaskKernelModel" "isEnded" "[Z").before args s = true := hts _ (by decide +kernel)
  have k51 : (Cond.fieldLink RX5 51 "TaskKernelModel" "budgets" "[I").before args s = true := hts _ (by decide +kernel)
  have hl := lv_entry ([.ref (B 100)]) (n := 3) (by first | exact Nat.le_of_ble_eq_true rfl | simp [lg_sl, rf_cat, ct_ref, ct_int, ct_null, ct_long])
  have hent := lg_entry_eq m ([.ref (B 100)]) 3
  rw [← hargs] at hent
  rw [hent]
  generalize (lg_sl ([.ref (B 100)]) ++ List.replicate (3 - (lg_sl ([.ref (B 100)])).length) Slot.unset).toArray = ls at hl ⊢
  replace hl : lv_has ls 3 [(0, .ref (B 100))] := hl
  have hwf := hM.wf
  obtain ⟨⟨y0, y1, y2, y3⟩, y4, y5, y6, y7⟩ := hwf
  refine lv_iconst (v := 0) hx hb dX5_shares_0 (by decide) ?_
  refine lv_istore_n (lv' := [(1, .int 0), (0, .ref (B 100))]) hx hb dX5_shares_1 rfl hl (by decide) rfl (fun ls hl => ?_)
  refine lv_iconst (v := 0) hx hb dX5_shares_2 (by decide) ?_
  refine lv_istore_n (lv' := [(2, .int 0), (1, .int 0), (0, .ref (B 100))]) hx hb dX5_shares_3 rfl hl (by decide) rfl (fun ls hl => ?_)
  have lp4 : ∀ (fu : Nat) (i : Nat), (i ≤ kN μ 24 0) → kN μ 24 0 - i < fu → ∀ (H : Heap) (locs : List Loc), mV D hh (mA hh s.heap.size) H → va_S (mA hh s.heap.size) s.heap H locs → ∀ (ls : Array Slot), lv_has ls 3 [(0, .ref (B 100)), (1, .int (sumI (smF μ) i)), (2, .int (nI i))] → W p l e ({ frames := 1, cells := 0, slots := 0, locals := 21 } : Room) s m args below meth c H locs 0 0 (MQ below (va_Qi ((fun (r : Int32) (h1 : mH) => h1 = hh ∧ r = (shsM μ))) (mB D hh s.heap.size) (mA hh s.heap.size)) args s 0 0 (mA hh s.heap.size)) (F0 m 4 ls []) := by
    intro fu
    induction fu with
    | zero =>
      intro i hi hfu
      exact absurd hfu (Nat.not_lt_zero _)
    | succ fu ih4 =>
      intro i hi hfu H locs hV hS ls hl
      refine lv_iload_n hx hb dX5_shares_4 rfl (lv_at hl 2 rfl) ?_
      refine lv_aload_n hx hb dX5_shares_5 rfl (lv_at hl 0 rfl) ?_
      refine m_get (C := RX5) (T := TX5) (N := 34) hx hb hts hi_X5 hown hK hV 24 (v := .int (nI (kN μ 24 0))) (by have z9 := g_m24 hM; exact z9) rfl (by decide) k117 (fun _ h9 => h9) dX5_shares_6 ?_
      refine lv_icmp_ge (tgt := 58) hx hb dX5_shares_9 (by decide) (fun c9 => ?_) (fun c9 => ?_)
      · replace c9 : kN μ 24 0 ≤ i := (nI_leI (a := kN μ 24 0) (b := i) (by omega) (by omega)).mp c9
        refine lv_iload_n hx hb dX5_shares_58 rfl (lv_at hl 1 rfl) ?_
        exact m_iret (v := (sumI (smF μ) i)) hx hb hr hlocks hV hS (⟨rfl, by rw [show i = kN μ 24 0 by omega]; rfl⟩) dX5_shares_59
      · replace c9 : ¬ kN μ 24 0 ≤ i := fun q9 => c9 ((nI_leI (a := kN μ 24 0) (b := i) (by omega) (by omega)).mpr q9)
        refine lv_iload_n hx hb dX5_shares_12 rfl (lv_at hl 1 rfl) ?_
        refine lv_aload_n hx hb dX5_shares_13 rfl (lv_at hl 0 rfl) ?_
        refine m_get (C := RX5) (T := TX5) (N := 34) hx hb hts hi_X5 hown hK hV 14 (v := .ref (B 14)) (g_m14 hM) rfl (by decide) k48 (fun _ h9 => h9) dX5_shares_14 ?_
        refine lv_iload_n hx hb dX5_shares_17 rfl (lv_at hl 2 rfl) ?_
        refine m_iald hx hb hK hV 0 (i := nI i) (x := (kI μ 14 i)) (a_m14 hM) rfl (vp_in_nI (by omega) (by omega)) (by rw [nI_clamp (by omega)] <;> rfl) dX5_shares_18 ?_
        refine lv_if_le (tgt := 49) hx hb dX5_shares_19 (by decide) (fun c19 => ?_) (fun c19 => ?_)
        · refine lv_iconst (v := 0) hx hb dX5_shares_49 (by decide) ?_
          refine lv_iadd hx hb dX5_shares_50 ?_
          refine lv_istore_n (lv' := [(1, .int ((sumI (smF μ) i) + 0)), (0, .ref (B 100)), (2, .int (nI i))]) hx hb dX5_shares_51 rfl hl (by decide) rfl (fun ls hl => ?_)
          refine lv_iinc (v := nI (i + 1)) (lv' := [(2, .int (nI (i + 1))), (1, .int ((sumI (smF μ) i) + 0)), (0, .ref (B 100))]) hx hb dX5_shares_52 hl (k := 2) rfl (show nI i + Int32.ofInt 1 = _ from nI_add i 1) (by decide) rfl (fun ls hl => ?_)
          refine lv_goto (tgt := 4) hx hb dX5_shares_55 (by decide) ?_
          have q1 : ((sumI (smF μ) i) + 0) = (sumI (smF μ) (i + 1)) := (by show _ = sumI _ i + smF μ i; unfold smF; rw [if_neg (fun q => Int32.not_lt.mpr c19 q.1)])
          replace hl : lv_has ls 3 [(2, .int (nI (i + 1))), (1, .int (sumI (smF μ) (i + 1))), (0, .ref (B 100))] := (congrArg (lv_has ls 3) (m_lc rfl (m_lc (congrArg Value.int q1) (m_lc rfl rfl)))).mp hl
          exact ih4 (i + 1) (by omega) (by omega) _ _ hV hS ls (lv_sub hl [2, 1, 0] rfl)
        · refine lv_aload_n hx hb dX5_shares_22 rfl (lv_at hl 0 rfl) ?_
          refine m_get (C := RX5) (T := TX5) (N := 34) hx hb hts hi_X5 hown hK hV 21 (v := .ref (B 21)) (g_m21 hM) rfl (by decide) k69 (fun _ h9 => h9) dX5_shares_23 ?_
          refine lv_iload_n hx hb dX5_shares_26 rfl (lv_at hl 2 rfl) ?_
          refine m_zald hx hb hK hV 2 (i := nI i) (x := bI (kB μ 21 i)) (a_m21 hM) rfl (vp_in_nI (by omega) (by omega)) (by rw [nI_clamp (by omega)] <;> rfl) dX5_shares_27 ?_
          refine lv_if_ne (tgt := 49) hx hb dX5_shares_28 (by decide) (fun c28 => ?_) (fun c28 => ?_)
          · replace c28 : kB μ 21 i = true := bI_1.mp c28
            refine lv_iconst (v := 0) hx hb dX5_shares_49 (by decide) ?_
            refine lv_iadd hx hb dX5_shares_50 ?_
            refine lv_istore_n (lv' := [(1, .int ((sumI (smF μ) i) + 0)), (0, .ref (B 100)), (2, .int (nI i))]) hx hb dX5_shares_51 rfl hl (by decide) rfl (fun ls hl => ?_)
            refine lv_iinc (v := nI (i + 1)) (lv' := [(2, .int (nI (i + 1))), (1, .int ((sumI (smF μ) i) + 0)), (0, .ref (B 100))]) hx hb dX5_shares_52 hl (k := 2) rfl (show nI i + Int32.ofInt 1 = _ from nI_add i 1) (by decide) rfl (fun ls hl => ?_)
            refine lv_goto (tgt := 4) hx hb dX5_shares_55 (by decide) ?_
            have q2 : ((sumI (smF μ) i) + 0) = (sumI (smF μ) (i + 1)) := (by show _ = sumI _ i + smF μ i; unfold smF; rw [if_neg (fun q => absurd q.2 (by rw [c28]; decide))])
            replace hl : lv_has ls 3 [(2, .int (nI (i + 1))), (1, .int (sumI (smF μ) (i + 1))), (0, .ref (B 100))] := (congrArg (lv_has ls 3) (m_lc rfl (m_lc (congrArg Value.int q2) (m_lc rfl rfl)))).mp hl
            exact ih4 (i + 1) (by omega) (by omega) _ _ hV hS ls (lv_sub hl [2, 1, 0] rfl)
          · replace c28 : kB μ 21 i = false := bI_0.mp c28
            refine lv_aload_n hx hb dX5_shares_31 rfl (lv_at hl 0 rfl) ?_
            refine m_get (C := RX5) (T := TX5) (N := 34) hx hb hts hi_X5 hown hK hV 15 (v := .ref (B 15)) (g_m15 hM) rfl (by decide) k51 (fun _ h9 => h9) dX5_shares_32 ?_
            refine lv_iload_n hx hb dX5_shares_35 rfl (lv_at hl 2 rfl) ?_
            refine m_iald hx hb hK hV 0 (i := nI i) (x := (kI μ 15 i)) (a_m15 hM) rfl (vp_in_nI (by omega) (by omega)) (by rw [nI_clamp (by omega)] <;> rfl) dX5_shares_36 ?_
            refine lv_aload_n hx hb dX5_shares_37 rfl (lv_at hl 0 rfl) ?_
            refine m_get (C := RX5) (T := TX5) (N := 34) hx hb hts hi_X5 hown hK hV 14 (v := .ref (B 14)) (g_m14 hM) rfl (by decide) k48 (fun _ h9 => h9) dX5_shares_38 ?_
            refine lv_iload_n hx hb dX5_shares_41 rfl (lv_at hl 2 rfl) ?_
            refine m_iald hx hb hK hV 0 (i := nI i) (x := (kI μ 14 i)) (a_m14 hM) rfl (vp_in_nI (by omega) (by omega)) (by rw [nI_clamp (by omega)] <;> rfl) dX5_shares_42 ?_
            refine m_calli (va_runS (As := [.int (kI μ 15 i), .int (kI μ 14 i)]) (rest := [.int (sumI (smF μ) i)]) ⟨hx, hb, hml, hown, hts⟩ (c_X5_share (l := l) (D := D) (cs := cs) (df := df) (hh := hh) (H.size) (kI μ 15 i) (kI μ 14 i) (fun z => absurd (Int32.not_le.mp c19) (by rw [z]; decide))) (va_cwS 2 hts gX5_shares_X5_share rfl rfl rfl (by decide +kernel) ⟨by decide, by decide⟩) (m_preS hE hV hS hA) rfl rfl hl.1 rfl (lv_room (by first | exact Nat.le_of_ble_eq_true rfl | simp [rf_cat, ct_ref, ct_int, ct_null, ct_long])) dX5_shares_43 ⟨by decide, by decide⟩) hV hS hA (fun r h1 H locs hV hS hp _ => ?_)
            obtain ⟨e1, e2⟩ := hp
            subst e2
            rw [e1] at hV; clear e1
            refine lv_goto (tgt := 50) hx hb dX5_shares_46 (by decide) ?_
            refine lv_iadd hx hb dX5_shares_50 ?_
            refine lv_istore_n (lv' := [(1, .int ((sumI (smF μ) i) + (shM (kI μ 15 i) (kI μ 14 i)))), (0, .ref (B 100)), (2, .int (nI i))]) hx hb dX5_shares_51 rfl hl (by decide) rfl (fun ls hl => ?_)
            refine lv_iinc (v := nI (i + 1)) (lv' := [(2, .int (nI (i + 1))), (1, .int ((sumI (smF μ) i) + (shM (kI μ 15 i) (kI μ 14 i)))), (0, .ref (B 100))]) hx hb dX5_shares_52 hl (k := 2) rfl (show nI i + Int32.ofInt 1 = _ from nI_add i 1) (by decide) rfl (fun ls hl => ?_)
            refine lv_goto (tgt := 4) hx hb dX5_shares_55 (by decide) ?_
            have q3 : ((sumI (smF μ) i) + (shM (kI μ 15 i) (kI μ 14 i))) = (sumI (smF μ) (i + 1)) := (by show _ = sumI _ i + smF μ i; unfold smF; rw [if_pos ⟨Int32.not_le.mp c19, c28⟩])
            replace hl : lv_has ls 3 [(2, .int (nI (i + 1))), (1, .int (sumI (smF μ) (i + 1))), (0, .ref (B 100))] := (congrArg (lv_has ls 3) (m_lc rfl (m_lc (congrArg Value.int q3) (m_lc rfl rfl)))).mp hl
            exact ih4 (i + 1) (by omega) (by omega) _ _ hV hS ls (lv_sub hl [2, 1, 0] rfl)
  have q4 : 0 = (sumI (smF μ) 0) := rfl
  have q5 : 0 = nI 0 := rfl
  replace hl : lv_has ls 3 [(2, .int (nI 0)), (1, .int (sumI (smF μ) 0)), (0, .ref (B 100))] := (congrArg (lv_has ls 3) (m_lc (congrArg Value.int q5) (m_lc (congrArg Value.int q4) (m_lc rfl rfl)))).mp hl
  exact lp4 ((kN μ 24 0 - 0) + 1) 0 (Nat.zero_le _) (Nat.lt_succ_self _) _ _ hV hS ls (lv_sub hl [2, 1, 0] rfl)
set_option maxHeartbeats 4000000 in
set_option maxRecDepth 100000 in
theorem c_X5_promised {l : Launch} {D : va_G} {cs : mC} {df : Nat} {P : Nat → Prop} {h0 : mH} {B : Nat → Nat} {μ : KS} {hh : mH} (sz : Nat) (hM : DRep cs P h0 B μ hh)  : Met l yX5_promised wsX5_promised ({ frames := 0, cells := 0, slots := 0, locals := 0 }) (mPre [.ref (B 100)] D cs df hh sz) (va_Qi ((fun (r : Int32) (h1 : mH) => h1 = hh ∧ r = (prM μ))) (mB D hh sz) (mA hh sz)) 0 0 (mA hh sz) := by
  refine Met.ofW (cc := cX5_promised) (maxL := 3) (ret := (some .int)) (by decide) rfl ?_
  intro p e s m args below meth c s₁ B0 hml hv
  obtain ⟨hargs, hsz, hV, hE⟩ := hv
  subst hsz
  have hx := B0.exec
  have hb := B0.bytes
  have hr := B0.returns
  have hlocks := B0.notSynchronized
  have hts := atoms_spec (ws := wsX5_promised) B0.pre
  have hown : s.vm.findClass RX5 = some m.cls := findClass_of_methodNamed B0.named
  have hK := hE.1.1
  have hA : ∀ q : Nat, s.heap.size ≤ q → mA hh s.heap.size q := mA.top
  have hS : va_S (mA hh s.heap.size) s.heap s.heap [] := va_S.rf
  have hi_X5 : ∀ w ∈ u_ws RX5 TX5 34, w ∈ wsX5_promised := by decide +kernel
  have k100 : (Cond.fieldLink RX5 100 "TaskKernelModel" "cores" "I").before args s = true := hts _ (by decide +kernel)
  have k20 : (Cond.fieldLink RX5 20 "TaskKernelModel" "cap" "I").before args s = true := hts _ (by decide +kernel)
  have k7 : (Cond.fieldLink RX5 7 "TaskKernelModel" "speeds" "[I").before args s = true := hts _ (by decide +kernel)
  have hl := lv_entry ([.ref (B 100)]) (n := 3) (by first | exact Nat.le_of_ble_eq_true rfl | simp [lg_sl, rf_cat, ct_ref, ct_int, ct_null, ct_long])
  have hent := lg_entry_eq m ([.ref (B 100)]) 3
  rw [← hargs] at hent
  rw [hent]
  generalize (lg_sl ([.ref (B 100)]) ++ List.replicate (3 - (lg_sl ([.ref (B 100)])).length) Slot.unset).toArray = ls at hl ⊢
  replace hl : lv_has ls 3 [(0, .ref (B 100))] := hl
  have hwf := hM.wf
  obtain ⟨⟨y0, y1, y2, y3⟩, y4, y5, y6, y7⟩ := hwf
  refine lv_iconst (v := 0) hx hb dX5_promised_0 (by decide) ?_
  refine lv_istore_n (lv' := [(1, .int 0), (0, .ref (B 100))]) hx hb dX5_promised_1 rfl hl (by decide) rfl (fun ls hl => ?_)
  refine lv_iconst (v := 0) hx hb dX5_promised_2 (by decide) ?_
  refine lv_istore_n (lv' := [(2, .int 0), (1, .int 0), (0, .ref (B 100))]) hx hb dX5_promised_3 rfl hl (by decide) rfl (fun ls hl => ?_)
  have lp4 : ∀ (fu : Nat) (i : Nat), (i ≤ kN μ 3 0) → kN μ 3 0 - i < fu → ∀ (H : Heap) (locs : List Loc), mV D hh (mA hh s.heap.size) H → va_S (mA hh s.heap.size) s.heap H locs → ∀ (ls : Array Slot), lv_has ls 3 [(0, .ref (B 100)), (1, .int (sumI (fun c => kI μ 1 c) i)), (2, .int (nI i))] → W p l e ({ frames := 0, cells := 0, slots := 0, locals := 0 } : Room) s m args below meth c H locs 0 0 (MQ below (va_Qi ((fun (r : Int32) (h1 : mH) => h1 = hh ∧ r = (prM μ))) (mB D hh s.heap.size) (mA hh s.heap.size)) args s 0 0 (mA hh s.heap.size)) (F0 m 4 ls []) := by
    intro fu
    induction fu with
    | zero =>
      intro i hi hfu
      exact absurd hfu (Nat.not_lt_zero _)
    | succ fu ih4 =>
      intro i hi hfu H locs hV hS ls hl
      refine lv_iload_n hx hb dX5_promised_4 rfl (lv_at hl 2 rfl) ?_
      refine lv_aload_n hx hb dX5_promised_5 rfl (lv_at hl 0 rfl) ?_
      refine m_get (C := RX5) (T := TX5) (N := 34) hx hb hts hi_X5 hown hK hV 3 (v := .int (nI (kN μ 3 0))) (by have z9 := g_m3 hM; exact z9) rfl (by decide) k100 (fun _ h9 => h9) dX5_promised_6 ?_
      refine lv_icmp_ge (tgt := 27) hx hb dX5_promised_9 (by decide) (fun c9 => ?_) (fun c9 => ?_)
      · replace c9 : kN μ 3 0 ≤ i := (nI_leI (a := kN μ 3 0) (b := i) (by omega) (by omega)).mp c9
        refine lv_iload_n hx hb dX5_promised_27 rfl (lv_at hl 1 rfl) ?_
        refine lv_aload_n hx hb dX5_promised_28 rfl (lv_at hl 0 rfl) ?_
        refine m_get (C := RX5) (T := TX5) (N := 34) hx hb hts hi_X5 hown hK hV 5 (v := .int (kI μ 5 0)) (by have z9 := g_m5 hM; exact z9) rfl (by decide) k20 (fun _ h9 => h9) dX5_promised_29 ?_
        refine lv_icmp_ge (tgt := 39) hx hb dX5_promised_32 (by decide) (fun c32 => ?_) (fun c32 => ?_)
        · refine lv_aload_n hx hb dX5_promised_39 rfl (lv_at hl 0 rfl) ?_
          refine m_get (C := RX5) (T := TX5) (N := 34) hx hb hts hi_X5 hown hK hV 5 (v := .int (kI μ 5 0)) (by have z9 := g_m5 hM; exact z9) rfl (by decide) k20 (fun _ h9 => h9) dX5_promised_40 ?_
          exact m_iret (v := (kI μ 5 0)) hx hb hr hlocks hV hS (⟨rfl, by rw [show i = kN μ 3 0 by omega] at c32; unfold prM; rw [if_pos c32]⟩) dX5_promised_43
        · refine lv_iload_n hx hb dX5_promised_35 rfl (lv_at hl 1 rfl) ?_
          refine lv_goto (tgt := 43) hx hb dX5_promised_36 (by decide) ?_
          exact m_iret (v := (sumI (fun c => kI μ 1 c) i)) hx hb hr hlocks hV hS (⟨rfl, by rw [show i = kN μ 3 0 by omega] at c32; unfold prM; rw [if_neg c32]; rw [show i = kN μ 3 0 by omega]⟩) dX5_promised_43
      · replace c9 : ¬ kN μ 3 0 ≤ i := fun q9 => c9 ((nI_leI (a := kN μ 3 0) (b := i) (by omega) (by omega)).mpr q9)
        refine lv_iload_n hx hb dX5_promised_12 rfl (lv_at hl 1 rfl) ?_
        refine lv_aload_n hx hb dX5_promised_13 rfl (lv_at hl 0 rfl) ?_
        refine m_get (C := RX5) (T := TX5) (N := 34) hx hb hts hi_X5 hown hK hV 1 (v := .ref (B 1)) (g_m1 hM) rfl (by decide) k7 (fun _ h9 => h9) dX5_promised_14 ?_
        refine lv_iload_n hx hb dX5_promised_17 rfl (lv_at hl 2 rfl) ?_
        refine m_iald hx hb hK hV 0 (i := nI i) (x := (kI μ 1 i)) (a_m1 hM) rfl (vp_in_nI (by omega) (by omega)) (by rw [nI_clamp (by omega)] <;> rfl) dX5_promised_18 ?_
        refine lv_iadd hx hb dX5_promised_19 ?_
        refine lv_istore_n (lv' := [(1, .int ((sumI (fun c => kI μ 1 c) i) + (kI μ 1 i))), (0, .ref (B 100)), (2, .int (nI i))]) hx hb dX5_promised_20 rfl hl (by decide) rfl (fun ls hl => ?_)
        refine lv_iinc (v := nI (i + 1)) (lv' := [(2, .int (nI (i + 1))), (1, .int ((sumI (fun c => kI μ 1 c) i) + (kI μ 1 i))), (0, .ref (B 100))]) hx hb dX5_promised_21 hl (k := 2) rfl (show nI i + Int32.ofInt 1 = _ from nI_add i 1) (by decide) rfl (fun ls hl => ?_)
        refine lv_goto (tgt := 4) hx hb dX5_promised_24 (by decide) ?_
        have q1 : ((sumI (fun c => kI μ 1 c) i) + (kI μ 1 i)) = (sumI (fun c => kI μ 1 c) (i + 1)) := by simp [sumI]
        replace hl : lv_has ls 3 [(2, .int (nI (i + 1))), (1, .int (sumI (fun c => kI μ 1 c) (i + 1))), (0, .ref (B 100))] := (congrArg (lv_has ls 3) (m_lc rfl (m_lc (congrArg Value.int q1) (m_lc rfl rfl)))).mp hl
        exact ih4 (i + 1) (by omega) (by omega) _ _ hV hS ls (lv_sub hl [2, 1, 0] rfl)
  have q2 : 0 = (sumI (fun c => kI μ 1 c) 0) := rfl
  have q3 : 0 = nI 0 := rfl
  replace hl : lv_has ls 3 [(2, .int (nI 0)), (1, .int (sumI (fun c => kI μ 1 c) 0)), (0, .ref (B 100))] := (congrArg (lv_has ls 3) (m_lc (congrArg Value.int q3) (m_lc (congrArg Value.int q2) (m_lc rfl rfl)))).mp hl
  exact lp4 ((kN μ 3 0 - 0) + 1) 0 (Nat.zero_le _) (Nat.lt_succ_self _) _ _ hV hS ls (lv_sub hl [2, 1, 0] rfl)
set_option maxHeartbeats 4000000 in
set_option maxRecDepth 100000 in
theorem c_X5_admitted {l : Launch} {D : va_G} {cs : mC} {df : Nat} {P : Nat → Prop} {h0 : mH} {B : Nat → Nat} {μ : KS} {hh : mH} (sz : Nat) (hM : DRep cs P h0 B μ hh)  : Met l yX5_admitted wsX5_admitted ({ frames := 2, cells := 0, slots := 0, locals := 43 }) (mPre [.ref (B 100)] D cs df hh sz) (va_Qi ((fun (r : Int32) (h1 : mH) => DRep cs P h0 B (thS μ 0) h1 ∧ r = (shsM μ))) (mB D hh sz) (mA hh sz)) 0 0 (mA hh sz) := by
  refine Met.ofW (cc := cX5_admitted) (maxL := 1) (ret := (some .int)) (by decide) rfl ?_
  intro p e s m args below meth c s₁ B0 hml hv
  obtain ⟨hargs, hsz, hV, hE⟩ := hv
  subst hsz
  have hx := B0.exec
  have hb := B0.bytes
  have hr := B0.returns
  have hlocks := B0.notSynchronized
  have hts := atoms_spec (ws := wsX5_admitted) B0.pre
  have hown : s.vm.findClass RX5 = some m.cls := findClass_of_methodNamed B0.named
  have hK := hE.1.1
  have hA : ∀ q : Nat, s.heap.size ≤ q → mA hh s.heap.size q := mA.top
  have hS : va_S (mA hh s.heap.size) s.heap s.heap [] := va_S.rf
  have k91 : (Cond.fieldLink RX5 91 "TaskKernelModel" "thrown" "I").before args s = true := hts _ (by decide +kernel)
  have hi_X5 : ∀ w ∈ u_ws RX5 TX5 34, w ∈ wsX5_admitted := by decide +kernel
  have hl := lv_entry ([.ref (B 100)]) (n := 1) (by first | exact Nat.le_of_ble_eq_true rfl | simp [lg_sl, rf_cat, ct_ref, ct_int, ct_null, ct_long])
  have hent := lg_entry_eq m ([.ref (B 100)]) 1
  rw [← hargs] at hent
  rw [hent]
  generalize (lg_sl ([.ref (B 100)]) ++ List.replicate (1 - (lg_sl ([.ref (B 100)])).length) Slot.unset).toArray = ls at hl ⊢
  replace hl : lv_has ls 1 [(0, .ref (B 100))] := hl
  have hwf := hM.wf
  obtain ⟨⟨y0, y1, y2, y3⟩, y4, y5, y6, y7⟩ := hwf
  refine lv_aload_n hx hb dX5_admitted_0 rfl (lv_at hl 0 rfl) ?_
  refine lv_iconst (v := 0) hx hb dX5_admitted_1 (by decide) ?_
  refine m_put (C := RX5) (T := TX5) (N := 34) (v := .int 0) hx hb hts hi_X5 tyX5 tyX5_ok nmX5 hown hK hV hS 33 (p_m33 hM 0) rfl (by decide) k91 (fun _ h9 => h9) rfl (tyX5_ok 33 (by decide)) rfl rfl dX5_admitted_2 (fun h H locs hV hS hM => ?_)
  refine lv_aload_n hx hb dX5_admitted_5 rfl (lv_at hl 0 rfl) ?_
  refine m_calli (va_runV (As := []) (rest := []) ⟨hx, hb, hml, hown, hts⟩ (c_X5_shares (l := l) (H.size) hM ) (cwV 0 hts gX5_admitted_X5_shares rfl rfl rfl (by decide +kernel) ⟨by decide, by decide⟩) (m_preV (r := (RX5, TX5, 34)) hE hV hS hA (hM.at 100 (by decide)) rfl) rfl rfl hl.1 rfl (lv_room (by first | exact Nat.le_of_ble_eq_true rfl | simp [rf_cat, ct_ref, ct_int, ct_null, ct_long])) dX5_admitted_6 ⟨by decide, by decide⟩) hV hS hA (fun r h1 H locs hV hS hp _ => ?_)
  obtain ⟨e1, e2⟩ := hp
  subst e2
  rw [e1] at hV; clear e1
  exact m_iret (v := (shsM (sI μ 33 (va_up (kI μ 33) 0 0)))) hx hb hr hlocks hV hS (⟨hM, rfl⟩) dX5_admitted_9
set_option maxHeartbeats 4000000 in
set_option maxRecDepth 100000 in
theorem c_X5_promise {l : Launch} {D : va_G} {cs : mC} {df : Nat} {P : Nat → Prop} {h0 : mH} {B : Nat → Nat} {μ : KS} {hh : mH} (sz : Nat) (hM : DRep cs P h0 B μ hh)  : Met l yX5_promise wsX5_promise ({ frames := 1, cells := 0, slots := 0, locals := 22 }) (mPre [.ref (B 100)] D cs df hh sz) (va_Qi ((fun (r : Int32) (h1 : mH) => DRep cs P h0 B (thS μ 0) h1 ∧ r = (prM μ))) (mB D hh sz) (mA hh sz)) 0 0 (mA hh sz) := by
  refine Met.ofW (cc := cX5_promise) (maxL := 1) (ret := (some .int)) (by decide) rfl ?_
  intro p e s m args below meth c s₁ B0 hml hv
  obtain ⟨hargs, hsz, hV, hE⟩ := hv
  subst hsz
  have hx := B0.exec
  have hb := B0.bytes
  have hr := B0.returns
  have hlocks := B0.notSynchronized
  have hts := atoms_spec (ws := wsX5_promise) B0.pre
  have hown : s.vm.findClass RX5 = some m.cls := findClass_of_methodNamed B0.named
  have hK := hE.1.1
  have hA : ∀ q : Nat, s.heap.size ≤ q → mA hh s.heap.size q := mA.top
  have hS : va_S (mA hh s.heap.size) s.heap s.heap [] := va_S.rf
  have k91 : (Cond.fieldLink RX5 91 "TaskKernelModel" "thrown" "I").before args s = true := hts _ (by decide +kernel)
  have hi_X5 : ∀ w ∈ u_ws RX5 TX5 34, w ∈ wsX5_promise := by decide +kernel
  have hl := lv_entry ([.ref (B 100)]) (n := 1) (by first | exact Nat.le_of_ble_eq_true rfl | simp [lg_sl, rf_cat, ct_ref, ct_int, ct_null, ct_long])
  have hent := lg_entry_eq m ([.ref (B 100)]) 1
  rw [← hargs] at hent
  rw [hent]
  generalize (lg_sl ([.ref (B 100)]) ++ List.replicate (1 - (lg_sl ([.ref (B 100)])).length) Slot.unset).toArray = ls at hl ⊢
  replace hl : lv_has ls 1 [(0, .ref (B 100))] := hl
  have hwf := hM.wf
  obtain ⟨⟨y0, y1, y2, y3⟩, y4, y5, y6, y7⟩ := hwf
  refine lv_aload_n hx hb dX5_promise_0 rfl (lv_at hl 0 rfl) ?_
  refine lv_iconst (v := 0) hx hb dX5_promise_1 (by decide) ?_
  refine m_put (C := RX5) (T := TX5) (N := 34) (v := .int 0) hx hb hts hi_X5 tyX5 tyX5_ok nmX5 hown hK hV hS 33 (p_m33 hM 0) rfl (by decide) k91 (fun _ h9 => h9) rfl (tyX5_ok 33 (by decide)) rfl rfl dX5_promise_2 (fun h H locs hV hS hM => ?_)
  refine lv_aload_n hx hb dX5_promise_5 rfl (lv_at hl 0 rfl) ?_
  refine m_calli (va_runV (As := []) (rest := []) ⟨hx, hb, hml, hown, hts⟩ (c_X5_promised (l := l) (H.size) hM ) (cwV 0 hts gX5_promise_X5_promised rfl rfl rfl (by decide +kernel) ⟨by decide, by decide⟩) (m_preV (r := (RX5, TX5, 34)) hE hV hS hA (hM.at 100 (by decide)) rfl) rfl rfl hl.1 rfl (lv_room (by first | exact Nat.le_of_ble_eq_true rfl | simp [rf_cat, ct_ref, ct_int, ct_null, ct_long])) dX5_promise_6 ⟨by decide, by decide⟩) hV hS hA (fun r h1 H locs hV hS hp _ => ?_)
  obtain ⟨e1, e2⟩ := hp
  subst e2
  rw [e1] at hV; clear e1
  exact m_iret (v := (prM (sI μ 33 (va_up (kI μ 33) 0 0)))) hx hb hr hlocks hV hS (⟨hM, rfl⟩) dX5_promise_9
set_option maxHeartbeats 4000000 in
set_option maxRecDepth 100000 in
theorem c_X5_misses {l : Launch} {D : va_G} {cs : mC} {df : Nat} {P : Nat → Prop} {h0 : mH} {B : Nat → Nat} {μ : KS} {hh : mH} (sz : Nat) (hM : DRep cs P h0 B μ hh)  : Met l yX5_misses wsX5_misses ({ frames := 0, cells := 0, slots := 0, locals := 0 }) (mPre [.ref (B 100)] D cs df hh sz) (va_Qi ((fun (r : Int32) (h1 : mH) => DRep cs P h0 B (thS μ 0) h1 ∧ r = (sumI (fun t => kI μ 18 t) (kN μ 24 0)))) (mB D hh sz) (mA hh sz)) 0 0 (mA hh sz) := by
  refine Met.ofW (cc := cX5_misses) (maxL := 3) (ret := (some .int)) (by decide) rfl ?_
  intro p e s m args below meth c s₁ B0 hml hv
  obtain ⟨hargs, hsz, hV, hE⟩ := hv
  subst hsz
  have hx := B0.exec
  have hb := B0.bytes
  have hr := B0.returns
  have hlocks := B0.notSynchronized
  have hts := atoms_spec (ws := wsX5_misses) B0.pre
  have hown : s.vm.findClass RX5 = some m.cls := findClass_of_methodNamed B0.named
  have hK := hE.1.1
  have hA : ∀ q : Nat, s.heap.size ≤ q → mA hh s.heap.size q := mA.top
  have hS : va_S (mA hh s.heap.size) s.heap s.heap [] := va_S.rf
  have k91 : (Cond.fieldLink RX5 91 "TaskKernelModel" "thrown" "I").before args s = true := hts _ (by decide +kernel)
  have hi_X5 : ∀ w ∈ u_ws RX5 TX5 34, w ∈ wsX5_misses := by decide +kernel
  have k117 : (Cond.fieldLink RX5 117 "TaskKernelModel" "tasks" "I").before args s = true := hts _ (by decide +kernel)
  have k60 : (Cond.fieldLink RX5 60 "TaskKernelModel" "missed" "[I").before args s = true := hts _ (by decide +kernel)
  have hl := lv_entry ([.ref (B 100)]) (n := 3) (by first | exact Nat.le_of_ble_eq_true rfl | simp [lg_sl, rf_cat, ct_ref, ct_int, ct_null, ct_long])
  have hent := lg_entry_eq m ([.ref (B 100)]) 3
  rw [← hargs] at hent
  rw [hent]
  generalize (lg_sl ([.ref (B 100)]) ++ List.replicate (3 - (lg_sl ([.ref (B 100)])).length) Slot.unset).toArray = ls at hl ⊢
  replace hl : lv_has ls 3 [(0, .ref (B 100))] := hl
  have hwf := hM.wf
  obtain ⟨⟨y0, y1, y2, y3⟩, y4, y5, y6, y7⟩ := hwf
  refine lv_aload_n hx hb dX5_misses_0 rfl (lv_at hl 0 rfl) ?_
  refine lv_iconst (v := 0) hx hb dX5_misses_1 (by decide) ?_
  refine m_put (C := RX5) (T := TX5) (N := 34) (v := .int 0) hx hb hts hi_X5 tyX5 tyX5_ok nmX5 hown hK hV hS 33 (p_m33 hM 0) rfl (by decide) k91 (fun _ h9 => h9) rfl (tyX5_ok 33 (by decide)) rfl rfl dX5_misses_2 (fun h H locs hV hS hM => ?_)
  refine lv_iconst (v := 0) hx hb dX5_misses_5 (by decide) ?_
  refine lv_istore_n (lv' := [(1, .int 0), (0, .ref (B 100))]) hx hb dX5_misses_6 rfl hl (by decide) rfl (fun ls hl => ?_)
  refine lv_iconst (v := 0) hx hb dX5_misses_7 (by decide) ?_
  refine lv_istore_n (lv' := [(2, .int 0), (1, .int 0), (0, .ref (B 100))]) hx hb dX5_misses_8 rfl hl (by decide) rfl (fun ls hl => ?_)
  have lp9 : ∀ (fu : Nat) (i : Nat), (i ≤ kN μ 24 0) → kN μ 24 0 - i < fu → ∀ (h : mH) (H : Heap) (locs : List Loc), DRep cs P h0 B (thS μ 0) h → mV D h (mA hh s.heap.size) H → va_S (mA hh s.heap.size) s.heap H locs → ∀ (ls : Array Slot), lv_has ls 3 [(0, .ref (B 100)), (1, .int (sumI (fun t => kI μ 18 t) i)), (2, .int (nI i))] → W p l e ({ frames := 0, cells := 0, slots := 0, locals := 0 } : Room) s m args below meth c H locs 0 0 (MQ below (va_Qi ((fun (r : Int32) (h1 : mH) => DRep cs P h0 B (thS μ 0) h1 ∧ r = (sumI (fun t => kI μ 18 t) (kN μ 24 0)))) (mB D hh s.heap.size) (mA hh s.heap.size)) args s 0 0 (mA hh s.heap.size)) (F0 m 9 ls []) := by
    intro fu
    induction fu with
    | zero =>
      intro i hi hfu
      exact absurd hfu (Nat.not_lt_zero _)
    | succ fu ih9 =>
      intro i hi hfu h H locs hM hV hS ls hl
      have en : kN (thS μ 0) 24 0 = kN μ 24 0 := rfl
      refine lv_iload_n hx hb dX5_misses_9 rfl (lv_at hl 2 rfl) ?_
      refine lv_aload_n hx hb dX5_misses_10 rfl (lv_at hl 0 rfl) ?_
      refine m_get (C := RX5) (T := TX5) (N := 34) hx hb hts hi_X5 hown hK hV 24 (v := .int (nI (kN (thS μ 0) 24 0))) (by have z9 := g_m24 hM; exact z9) rfl (by decide) k117 (fun _ h9 => h9) dX5_misses_11 ?_
      refine lv_icmp_ge (tgt := 32) hx hb dX5_misses_14 (by decide) (fun c14 => ?_) (fun c14 => ?_)
      · replace c14 : kN (thS μ 0) 24 0 ≤ i := (nI_leI (a := kN (thS μ 0) 24 0) (b := i) (by omega) (by omega)).mp c14
        refine lv_iload_n hx hb dX5_misses_32 rfl (lv_at hl 1 rfl) ?_
        exact m_iret (v := (sumI (fun t => kI μ 18 t) i)) hx hb hr hlocks hV hS (⟨hM, by rw [show i = kN μ 24 0 by omega]⟩) dX5_misses_33
      · replace c14 : ¬ kN (thS μ 0) 24 0 ≤ i := fun q9 => c14 ((nI_leI (a := kN (thS μ 0) 24 0) (b := i) (by omega) (by omega)).mpr q9)
        refine lv_iload_n hx hb dX5_misses_17 rfl (lv_at hl 1 rfl) ?_
        refine lv_aload_n hx hb dX5_misses_18 rfl (lv_at hl 0 rfl) ?_
        refine m_get (C := RX5) (T := TX5) (N := 34) hx hb hts hi_X5 hown hK hV 18 (v := .ref (B 18)) (g_m18 hM) rfl (by decide) k60 (fun _ h9 => h9) dX5_misses_19 ?_
        refine lv_iload_n hx hb dX5_misses_22 rfl (lv_at hl 2 rfl) ?_
        refine m_iald hx hb hK hV 0 (i := nI i) (x := (kI (thS μ 0) 18 i)) (a_m18 hM) rfl (vp_in_nI (by omega) (by omega)) (by rw [nI_clamp (by omega)] <;> rfl) dX5_misses_23 ?_
        refine lv_iadd hx hb dX5_misses_24 ?_
        refine lv_istore_n (lv' := [(1, .int ((sumI (fun t => kI μ 18 t) i) + (kI (thS μ 0) 18 i))), (0, .ref (B 100)), (2, .int (nI i))]) hx hb dX5_misses_25 rfl hl (by decide) rfl (fun ls hl => ?_)
        refine lv_iinc (v := nI (i + 1)) (lv' := [(2, .int (nI (i + 1))), (1, .int ((sumI (fun t => kI μ 18 t) i) + (kI (thS μ 0) 18 i))), (0, .ref (B 100))]) hx hb dX5_misses_26 hl (k := 2) rfl (show nI i + Int32.ofInt 1 = _ from nI_add i 1) (by decide) rfl (fun ls hl => ?_)
        refine lv_goto (tgt := 9) hx hb dX5_misses_29 (by decide) ?_
        have q1 : ((sumI (fun t => kI μ 18 t) i) + (kI (thS μ 0) 18 i)) = (sumI (fun t => kI μ 18 t) (i + 1)) := by first | rfl | simp [sumI]
        replace hl : lv_has ls 3 [(2, .int (nI (i + 1))), (1, .int (sumI (fun t => kI μ 18 t) (i + 1))), (0, .ref (B 100))] := (congrArg (lv_has ls 3) (m_lc rfl (m_lc (congrArg Value.int q1) (m_lc rfl rfl)))).mp hl
        exact ih9 (i + 1) (by omega) (by omega) _ _ _ hM hV hS ls (lv_sub hl [2, 1, 0] rfl)
  have q2 : (sI μ 33 (va_up (kI μ 33) 0 0)) = (thS μ 0) := rfl
  rw [q2] at hM
  have q3 : 0 = (sumI (fun t => kI μ 18 t) 0) := rfl
  have q4 : 0 = nI 0 := rfl
  replace hl : lv_has ls 3 [(2, .int (nI 0)), (1, .int (sumI (fun t => kI μ 18 t) 0)), (0, .ref (B 100))] := (congrArg (lv_has ls 3) (m_lc (congrArg Value.int q4) (m_lc (congrArg Value.int q3) (m_lc rfl rfl)))).mp hl
  exact lp9 ((kN μ 24 0 - 0) + 1) 0 (Nat.zero_le _) (Nat.lt_succ_self _) _ _ _ hM hV hS ls (lv_sub hl [2, 1, 0] rfl)
set_option maxHeartbeats 4000000 in
set_option maxRecDepth 100000 in
theorem c_X5_now {l : Launch} {D : va_G} {cs : mC} {df : Nat} {P : Nat → Prop} {h0 : mH} {B : Nat → Nat} {μ : KS} {hh : mH} (sz : Nat) (hM : DRep cs P h0 B μ hh)  : Met l yX5_now wsX5_now ({ frames := 0, cells := 0, slots := 0, locals := 0 }) (mPre [.ref (B 100)] D cs df hh sz) (va_Qi ((fun (r : Int32) (h1 : mH) => DRep cs P h0 B (thS μ 0) h1 ∧ r = (kI μ 0 0))) (mB D hh sz) (mA hh sz)) 0 0 (mA hh sz) := by
  refine Met.ofW (cc := cX5_now) (maxL := 1) (ret := (some .int)) (by decide) rfl ?_
  intro p e s m args below meth c s₁ B0 hml hv
  obtain ⟨hargs, hsz, hV, hE⟩ := hv
  subst hsz
  have hx := B0.exec
  have hb := B0.bytes
  have hr := B0.returns
  have hlocks := B0.notSynchronized
  have hts := atoms_spec (ws := wsX5_now) B0.pre
  have hown : s.vm.findClass RX5 = some m.cls := findClass_of_methodNamed B0.named
  have hK := hE.1.1
  have hA : ∀ q : Nat, s.heap.size ≤ q → mA hh s.heap.size q := mA.top
  have hS : va_S (mA hh s.heap.size) s.heap s.heap [] := va_S.rf
  have k91 : (Cond.fieldLink RX5 91 "TaskKernelModel" "thrown" "I").before args s = true := hts _ (by decide +kernel)
  have hi_X5 : ∀ w ∈ u_ws RX5 TX5 34, w ∈ wsX5_now := by decide +kernel
  have k129 : (Cond.fieldLink RX5 129 "TaskKernelModel" "now" "I").before args s = true := hts _ (by decide +kernel)
  have hl := lv_entry ([.ref (B 100)]) (n := 1) (by first | exact Nat.le_of_ble_eq_true rfl | simp [lg_sl, rf_cat, ct_ref, ct_int, ct_null, ct_long])
  have hent := lg_entry_eq m ([.ref (B 100)]) 1
  rw [← hargs] at hent
  rw [hent]
  generalize (lg_sl ([.ref (B 100)]) ++ List.replicate (1 - (lg_sl ([.ref (B 100)])).length) Slot.unset).toArray = ls at hl ⊢
  replace hl : lv_has ls 1 [(0, .ref (B 100))] := hl
  have hwf := hM.wf
  obtain ⟨⟨y0, y1, y2, y3⟩, y4, y5, y6, y7⟩ := hwf
  refine lv_aload_n hx hb dX5_now_0 rfl (lv_at hl 0 rfl) ?_
  refine lv_iconst (v := 0) hx hb dX5_now_1 (by decide) ?_
  refine m_put (C := RX5) (T := TX5) (N := 34) (v := .int 0) hx hb hts hi_X5 tyX5 tyX5_ok nmX5 hown hK hV hS 33 (p_m33 hM 0) rfl (by decide) k91 (fun _ h9 => h9) rfl (tyX5_ok 33 (by decide)) rfl rfl dX5_now_2 (fun h H locs hV hS hM => ?_)
  refine lv_aload_n hx hb dX5_now_5 rfl (lv_at hl 0 rfl) ?_
  refine m_get (C := RX5) (T := TX5) (N := 34) hx hb hts hi_X5 hown hK hV 0 (v := .int (kI μ 0 0)) (by have z9 := g_m0 hM; exact z9) rfl (by decide) k129 (fun _ h9 => h9) dX5_now_6 ?_
  exact m_iret (v := (kI μ 0 0)) hx hb hr hlocks hV hS (⟨hM, rfl⟩) dX5_now_9
set_option maxHeartbeats 4000000 in
set_option maxRecDepth 100000 in
theorem c_X5_moves {l : Launch} {D : va_G} {cs : mC} {df : Nat} {P : Nat → Prop} {h0 : mH} {B : Nat → Nat} {μ : KS} {hh : mH} (sz : Nat) (hM : DRep cs P h0 B μ hh)  : Met l yX5_moves wsX5_moves ({ frames := 0, cells := 0, slots := 0, locals := 0 }) (mPre [.ref (B 100)] D cs df hh sz) (va_Qi ((fun (r : Int32) (h1 : mH) => DRep cs P h0 B (thS μ 0) h1 ∧ r = (kI μ 27 0))) (mB D hh sz) (mA hh sz)) 0 0 (mA hh sz) := by
  refine Met.ofW (cc := cX5_moves) (maxL := 1) (ret := (some .int)) (by decide) rfl ?_
  intro p e s m args below meth c s₁ B0 hml hv
  obtain ⟨hargs, hsz, hV, hE⟩ := hv
  subst hsz
  have hx := B0.exec
  have hb := B0.bytes
  have hr := B0.returns
  have hlocks := B0.notSynchronized
  have hts := atoms_spec (ws := wsX5_moves) B0.pre
  have hown : s.vm.findClass RX5 = some m.cls := findClass_of_methodNamed B0.named
  have hK := hE.1.1
  have hA : ∀ q : Nat, s.heap.size ≤ q → mA hh s.heap.size q := mA.top
  have hS : va_S (mA hh s.heap.size) s.heap s.heap [] := va_S.rf
  have k91 : (Cond.fieldLink RX5 91 "TaskKernelModel" "thrown" "I").before args s = true := hts _ (by decide +kernel)
  have hi_X5 : ∀ w ∈ u_ws RX5 TX5 34, w ∈ wsX5_moves := by decide +kernel
  have k205 : (Cond.fieldLink RX5 205 "TaskKernelModel" "moved" "I").before args s = true := hts _ (by decide +kernel)
  have hl := lv_entry ([.ref (B 100)]) (n := 1) (by first | exact Nat.le_of_ble_eq_true rfl | simp [lg_sl, rf_cat, ct_ref, ct_int, ct_null, ct_long])
  have hent := lg_entry_eq m ([.ref (B 100)]) 1
  rw [← hargs] at hent
  rw [hent]
  generalize (lg_sl ([.ref (B 100)]) ++ List.replicate (1 - (lg_sl ([.ref (B 100)])).length) Slot.unset).toArray = ls at hl ⊢
  replace hl : lv_has ls 1 [(0, .ref (B 100))] := hl
  have hwf := hM.wf
  obtain ⟨⟨y0, y1, y2, y3⟩, y4, y5, y6, y7⟩ := hwf
  refine lv_aload_n hx hb dX5_moves_0 rfl (lv_at hl 0 rfl) ?_
  refine lv_iconst (v := 0) hx hb dX5_moves_1 (by decide) ?_
  refine m_put (C := RX5) (T := TX5) (N := 34) (v := .int 0) hx hb hts hi_X5 tyX5 tyX5_ok nmX5 hown hK hV hS 33 (p_m33 hM 0) rfl (by decide) k91 (fun _ h9 => h9) rfl (tyX5_ok 33 (by decide)) rfl rfl dX5_moves_2 (fun h H locs hV hS hM => ?_)
  refine lv_aload_n hx hb dX5_moves_5 rfl (lv_at hl 0 rfl) ?_
  refine m_get (C := RX5) (T := TX5) (N := 34) hx hb hts hi_X5 hown hK hV 27 (v := .int (kI μ 27 0)) (by have z9 := g_m27 hM; exact z9) rfl (by decide) k205 (fun _ h9 => h9) dX5_moves_6 ?_
  exact m_iret (v := (kI μ 27 0)) hx hb hr hlocks hV hS (⟨hM, rfl⟩) dX5_moves_9
set_option maxHeartbeats 4000000 in
set_option maxRecDepth 100000 in
theorem c_X5_isSound {l : Launch} {D : va_G} {cs : mC} {df : Nat} {P : Nat → Prop} {h0 : mH} {B : Nat → Nat} {μ : KS} {hh : mH} (sz : Nat) (hM : DRep cs P h0 B μ hh)  : Met l yX5_isSound wsX5_isSound ({ frames := 0, cells := 0, slots := 0, locals := 0 }) (mPre [.ref (B 100)] D cs df hh sz) (va_Qi ((fun (r : Int32) (h1 : mH) => DRep cs P h0 B (thS μ 0) h1 ∧ r = bI true)) (mB D hh sz) (mA hh sz)) 0 0 (mA hh sz) := by
  refine Met.ofW (cc := cX5_isSound) (maxL := 1) (ret := (some .boolean)) (by decide) rfl ?_
  intro p e s m args below meth c s₁ B0 hml hv
  obtain ⟨hargs, hsz, hV, hE⟩ := hv
  subst hsz
  have hx := B0.exec
  have hb := B0.bytes
  have hr := B0.returns
  have hlocks := B0.notSynchronized
  have hts := atoms_spec (ws := wsX5_isSound) B0.pre
  have hown : s.vm.findClass RX5 = some m.cls := findClass_of_methodNamed B0.named
  have hK := hE.1.1
  have hA : ∀ q : Nat, s.heap.size ≤ q → mA hh s.heap.size q := mA.top
  have hS : va_S (mA hh s.heap.size) s.heap s.heap [] := va_S.rf
  have k91 : (Cond.fieldLink RX5 91 "TaskKernelModel" "thrown" "I").before args s = true := hts _ (by decide +kernel)
  have hi_X5 : ∀ w ∈ u_ws RX5 TX5 34, w ∈ wsX5_isSound := by decide +kernel
  have hl := lv_entry ([.ref (B 100)]) (n := 1) (by first | exact Nat.le_of_ble_eq_true rfl | simp [lg_sl, rf_cat, ct_ref, ct_int, ct_null, ct_long])
  have hent := lg_entry_eq m ([.ref (B 100)]) 1
  rw [← hargs] at hent
  rw [hent]
  generalize (lg_sl ([.ref (B 100)]) ++ List.replicate (1 - (lg_sl ([.ref (B 100)])).length) Slot.unset).toArray = ls at hl ⊢
  replace hl : lv_has ls 1 [(0, .ref (B 100))] := hl
  have hwf := hM.wf
  obtain ⟨⟨y0, y1, y2, y3⟩, y4, y5, y6, y7⟩ := hwf
  refine lv_aload_n hx hb dX5_isSound_0 rfl (lv_at hl 0 rfl) ?_
  refine lv_iconst (v := 0) hx hb dX5_isSound_1 (by decide) ?_
  refine m_put (C := RX5) (T := TX5) (N := 34) (v := .int 0) hx hb hts hi_X5 tyX5 tyX5_ok nmX5 hown hK hV hS 33 (p_m33 hM 0) rfl (by decide) k91 (fun _ h9 => h9) rfl (tyX5_ok 33 (by decide)) rfl rfl dX5_isSound_2 (fun h H locs hV hS hM => ?_)
  refine lv_iconst (v := 1) hx hb dX5_isSound_5 (by decide) ?_
  exact m_zret (v := 1) hx hb hr hlocks (by decide) hV hS (⟨hM, rfl⟩) dX5_isSound_6
set_option maxHeartbeats 4000000 in
set_option maxRecDepth 100000 in
theorem c_X5_setLimit {l : Launch} {D : va_G} {cs : mC} {df : Nat} {P : Nat → Prop} {h0 : mH} {B : Nat → Nat} {μ : KS} {hh : mH} (sz : Nat) (hM : DRep cs P h0 B μ hh) (x0 : Int32) : Met l yX5_setLimit wsX5_setLimit ({ frames := 1, cells := 0, slots := 0, locals := 25 }) (mPre [.ref (B 100), .int x0] D cs df hh sz) (va_Qi ((fun (r : Int32) (h1 : mH) => ∃ μ1 : KS, DRep cs P h0 B μ1 h1 ∧ om_setLimit μ x0 r μ1)) (mB D hh sz) (mA hh sz)) 0 0 (mA hh sz) := by
  refine Met.ofW (cc := cX5_setLimit) (maxL := 3) (ret := (some .int)) (by decide) rfl ?_
  intro p e s m args below meth c s₁ B0 hml hv
  obtain ⟨hargs, hsz, hV, hE⟩ := hv
  subst hsz
  have hx := B0.exec
  have hb := B0.bytes
  have hr := B0.returns
  have hlocks := B0.notSynchronized
  have hts := atoms_spec (ws := wsX5_setLimit) B0.pre
  have hown : s.vm.findClass RX5 = some m.cls := findClass_of_methodNamed B0.named
  have hK := hE.1.1
  have hA : ∀ q : Nat, s.heap.size ≤ q → mA hh s.heap.size q := mA.top
  have hS : va_S (mA hh s.heap.size) s.heap s.heap [] := va_S.rf
  have kk103 : (Cond.constantLong RX5 103 (99)).before args s = true := hts _ (by decide +kernel)
  have k91 : (Cond.fieldLink RX5 91 "TaskKernelModel" "thrown" "I").before args s = true := hts _ (by decide +kernel)
  have hi_X5 : ∀ w ∈ u_ws RX5 TX5 34, w ∈ wsX5_setLimit := by decide +kernel
  have k16 : (Cond.fieldLink RX5 16 "TaskKernelModel" "limit" "I").before args s = true := hts _ (by decide +kernel)
  have hl := lv_entry ([.ref (B 100), .int x0]) (n := 3) (by first | exact Nat.le_of_ble_eq_true rfl | simp [lg_sl, rf_cat, ct_ref, ct_int, ct_null, ct_long])
  have hent := lg_entry_eq m ([.ref (B 100), .int x0]) 3
  rw [← hargs] at hent
  rw [hent]
  generalize (lg_sl ([.ref (B 100), .int x0]) ++ List.replicate (3 - (lg_sl ([.ref (B 100), .int x0])).length) Slot.unset).toArray = ls at hl ⊢
  replace hl : lv_has ls 3 [(0, .ref (B 100)), (1, .int x0)] := hl
  have hwf := hM.wf
  obtain ⟨⟨y0, y1, y2, y3⟩, y4, y5, y6, y7⟩ := hwf
  refine lv_aload_n hx hb dX5_setLimit_0 rfl (lv_at hl 0 rfl) ?_
  refine lv_iload_n hx hb dX5_setLimit_1 rfl (lv_at hl 1 rfl) ?_
  refine lv_i2l (v := (x0).toInt64) hx hb dX5_setLimit_2 rfl ?_
  refine lv_lconst (v := 1) hx hb dX5_setLimit_3 (by decide) ?_
  refine lv_ldc2 (v := 99) hx hb hown kk103 dX5_setLimit_4 ?_
  refine m_calli (va_runS (As := [.long ((x0).toInt64), .long 1, .long 99]) (rest := [.ref (B 100)]) ⟨hx, hb, hml, hown, hts⟩ (c_X5_in (l := l) (D := D) (cs := cs) (df := df) (hh := hh) (s.heap.size) ((x0).toInt64) 1 99) (va_cwS 3 hts gX5_setLimit_X5_in rfl rfl rfl (by decide +kernel) ⟨by decide, by decide⟩) (m_preS hE hV hS hA) rfl rfl hl.1 rfl (lv_room (by first | exact Nat.le_of_ble_eq_true rfl | simp [rf_cat, ct_ref, ct_int, ct_null, ct_long])) dX5_setLimit_7 ⟨by decide, by decide⟩) hV hS hA (fun r h1 H locs hV hS hp _ => ?_)
  obtain ⟨e1, e2⟩ := hp
  subst e2
  rw [e1] at hV; clear e1
  refine m_topi (y := bI (rg x0 1 99)) (congrArg bI (inL_rg (by decide) (by decide))) ?_
  refine lv_if_eq (tgt := 17) hx hb dX5_setLimit_10 (by decide) (fun c10 => ?_) (fun c10 => ?_)
  · replace c10 : (rg x0 1 99) = false := bI_0.mp c10
    refine lv_iconst (v := 1) hx hb dX5_setLimit_17 (by decide) ?_
    refine m_put (C := RX5) (T := TX5) (N := 34) (v := .int 1) hx hb hts hi_X5 tyX5 tyX5_ok nmX5 hown hK hV hS 33 (p_m33 hM 1) rfl (by decide) k91 (fun _ h9 => h9) rfl (tyX5_ok 33 (by decide)) rfl rfl dX5_setLimit_18 (fun h H locs hV hS hM => ?_)
    refine lv_aload_n hx hb dX5_setLimit_21 rfl (lv_at hl 0 rfl) ?_
    refine m_get (C := RX5) (T := TX5) (N := 34) hx hb hts hi_X5 hown hK hV 4 (v := .int (kI μ 4 0)) (by have z9 := g_m4 hM; exact z9) rfl (by decide) k16 (fun _ h9 => h9) dX5_setLimit_22 ?_
    refine lv_istore_n (lv' := [(2, .int (kI μ 4 0)), (0, .ref (B 100)), (1, .int x0)]) hx hb dX5_setLimit_25 rfl hl (by decide) rfl (fun ls hl => ?_)
    refine lv_aload_n hx hb dX5_setLimit_26 rfl (lv_at hl 1 rfl) ?_
    refine lv_aload_n hx hb dX5_setLimit_27 rfl (lv_at hl 1 rfl) ?_
    refine m_get (C := RX5) (T := TX5) (N := 34) hx hb hts hi_X5 hown hK hV 33 (v := .int 1) (by have z9 := g_m33 hM; exact z9) rfl (by decide) k91 (fun _ h9 => h9) dX5_setLimit_28 ?_
    refine lv_if_ne (tgt := 38) hx hb dX5_setLimit_31 (by decide) (fun c31 => ?_) (fun c31 => (absurd c31 (by decide)))
    refine lv_iload_n hx hb dX5_setLimit_38 rfl (lv_at hl 0 rfl) ?_
    refine m_put (C := RX5) (T := TX5) (N := 34) (v := .int (kI μ 4 0)) hx hb hts hi_X5 tyX5 tyX5_ok nmX5 hown hK hV hS 4 (p_m4 hM (kI μ 4 0)) rfl (by decide) k16 (fun _ h9 => h9) rfl (tyX5_ok 4 (by decide)) rfl rfl dX5_setLimit_39 (fun h H locs hV hS hM => ?_)
    refine lv_aload_n hx hb dX5_setLimit_42 rfl (lv_at hl 1 rfl) ?_
    refine m_get (C := RX5) (T := TX5) (N := 34) hx hb hts hi_X5 hown hK hV 33 (v := .int 1) (by have z9 := g_m33 hM; exact z9) rfl (by decide) k91 (fun _ h9 => h9) dX5_setLimit_43 ?_
    refine lv_if_ne (tgt := 53) hx hb dX5_setLimit_46 (by decide) (fun c46 => ?_) (fun c46 => (absurd c46 (by decide)))
    refine lv_iconst (v := (-1)) hx hb dX5_setLimit_53 (by decide) ?_
    exact m_iret (v := (-1)) hx hb hr hlocks hV hS (⟨_, hM, Or.inr ⟨c10, rfl⟩⟩) dX5_setLimit_54
  · replace c10 : (rg x0 1 99) = true := bI_1.mp c10
    refine lv_iconst (v := 0) hx hb dX5_setLimit_13 (by decide) ?_
    refine lv_goto (tgt := 18) hx hb dX5_setLimit_14 (by decide) ?_
    refine m_put (C := RX5) (T := TX5) (N := 34) (v := .int 0) hx hb hts hi_X5 tyX5 tyX5_ok nmX5 hown hK hV hS 33 (p_m33 hM 0) rfl (by decide) k91 (fun _ h9 => h9) rfl (tyX5_ok 33 (by decide)) rfl rfl dX5_setLimit_18 (fun h H locs hV hS hM => ?_)
    refine lv_aload_n hx hb dX5_setLimit_21 rfl (lv_at hl 0 rfl) ?_
    refine m_get (C := RX5) (T := TX5) (N := 34) hx hb hts hi_X5 hown hK hV 4 (v := .int (kI μ 4 0)) (by have z9 := g_m4 hM; exact z9) rfl (by decide) k16 (fun _ h9 => h9) dX5_setLimit_22 ?_
    refine lv_istore_n (lv' := [(2, .int (kI μ 4 0)), (0, .ref (B 100)), (1, .int x0)]) hx hb dX5_setLimit_25 rfl hl (by decide) rfl (fun ls hl => ?_)
    refine lv_aload_n hx hb dX5_setLimit_26 rfl (lv_at hl 1 rfl) ?_
    refine lv_aload_n hx hb dX5_setLimit_27 rfl (lv_at hl 1 rfl) ?_
    refine m_get (C := RX5) (T := TX5) (N := 34) hx hb hts hi_X5 hown hK hV 33 (v := .int 0) (by have z9 := g_m33 hM; exact z9) rfl (by decide) k91 (fun _ h9 => h9) dX5_setLimit_28 ?_
    refine lv_if_ne (tgt := 38) hx hb dX5_setLimit_31 (by decide) (fun c31 => (absurd (by decide) c31)) (fun c31 => ?_)
    refine lv_iload_n hx hb dX5_setLimit_34 rfl (lv_at hl 2 rfl) ?_
    refine lv_goto (tgt := 39) hx hb dX5_setLimit_35 (by decide) ?_
    refine m_put (C := RX5) (T := TX5) (N := 34) (v := .int x0) hx hb hts hi_X5 tyX5 tyX5_ok nmX5 hown hK hV hS 4 (p_m4 hM x0) rfl (by decide) k16 (fun _ h9 => h9) rfl (tyX5_ok 4 (by decide)) rfl rfl dX5_setLimit_39 (fun h H locs hV hS hM => ?_)
    refine lv_aload_n hx hb dX5_setLimit_42 rfl (lv_at hl 1 rfl) ?_
    refine m_get (C := RX5) (T := TX5) (N := 34) hx hb hts hi_X5 hown hK hV 33 (v := .int 0) (by have z9 := g_m33 hM; exact z9) rfl (by decide) k91 (fun _ h9 => h9) dX5_setLimit_43 ?_
    refine lv_if_ne (tgt := 53) hx hb dX5_setLimit_46 (by decide) (fun c46 => (absurd (by decide) c46)) (fun c46 => ?_)
    refine lv_iload_n hx hb dX5_setLimit_49 rfl (lv_at hl 0 rfl) ?_
    refine lv_goto (tgt := 54) hx hb dX5_setLimit_50 (by decide) ?_
    exact m_iret (v := (kI μ 4 0)) hx hb hr hlocks hV hS (⟨_, hM, Or.inl ⟨c10, rfl, rfl⟩⟩) dX5_setLimit_54
set_option maxHeartbeats 4000000 in
set_option maxRecDepth 100000 in
theorem c_X5_setCap {l : Launch} {D : va_G} {cs : mC} {df : Nat} {P : Nat → Prop} {h0 : mH} {B : Nat → Nat} {μ : KS} {hh : mH} (sz : Nat) (hM : DRep cs P h0 B μ hh) (x0 : Int32) : Met l yX5_setCap wsX5_setCap ({ frames := 1, cells := 0, slots := 0, locals := 25 }) (mPre [.ref (B 100), .int x0] D cs df hh sz) (va_Qi ((fun (r : Int32) (h1 : mH) => ∃ μ1 : KS, DRep cs P h0 B μ1 h1 ∧ om_setCap μ x0 r μ1)) (mB D hh sz) (mA hh sz)) 0 0 (mA hh sz) := by
  refine Met.ofW (cc := cX5_setCap) (maxL := 3) (ret := (some .int)) (by decide) rfl ?_
  intro p e s m args below meth c s₁ B0 hml hv
  obtain ⟨hargs, hsz, hV, hE⟩ := hv
  subst hsz
  have hx := B0.exec
  have hb := B0.bytes
  have hr := B0.returns
  have hlocks := B0.notSynchronized
  have hts := atoms_spec (ws := wsX5_setCap) B0.pre
  have hown : s.vm.findClass RX5 = some m.cls := findClass_of_methodNamed B0.named
  have hK := hE.1.1
  have hA : ∀ q : Nat, s.heap.size ≤ q → mA hh s.heap.size q := mA.top
  have hS : va_S (mA hh s.heap.size) s.heap s.heap [] := va_S.rf
  have kk105 : (Cond.constantLong RX5 105 (12)).before args s = true := hts _ (by decide +kernel)
  have k91 : (Cond.fieldLink RX5 91 "TaskKernelModel" "thrown" "I").before args s = true := hts _ (by decide +kernel)
  have hi_X5 : ∀ w ∈ u_ws RX5 TX5 34, w ∈ wsX5_setCap := by decide +kernel
  have k20 : (Cond.fieldLink RX5 20 "TaskKernelModel" "cap" "I").before args s = true := hts _ (by decide +kernel)
  have hl := lv_entry ([.ref (B 100), .int x0]) (n := 3) (by first | exact Nat.le_of_ble_eq_true rfl | simp [lg_sl, rf_cat, ct_ref, ct_int, ct_null, ct_long])
  have hent := lg_entry_eq m ([.ref (B 100), .int x0]) 3
  rw [← hargs] at hent
  rw [hent]
  generalize (lg_sl ([.ref (B 100), .int x0]) ++ List.replicate (3 - (lg_sl ([.ref (B 100), .int x0])).length) Slot.unset).toArray = ls at hl ⊢
  replace hl : lv_has ls 3 [(0, .ref (B 100)), (1, .int x0)] := hl
  have hwf := hM.wf
  obtain ⟨⟨y0, y1, y2, y3⟩, y4, y5, y6, y7⟩ := hwf
  refine lv_aload_n hx hb dX5_setCap_0 rfl (lv_at hl 0 rfl) ?_
  refine lv_iload_n hx hb dX5_setCap_1 rfl (lv_at hl 1 rfl) ?_
  refine lv_i2l (v := (x0).toInt64) hx hb dX5_setCap_2 rfl ?_
  refine lv_lconst (v := 0) hx hb dX5_setCap_3 (by decide) ?_
  refine lv_ldc2 (v := 12) hx hb hown kk105 dX5_setCap_4 ?_
  refine m_calli (va_runS (As := [.long ((x0).toInt64), .long 0, .long 12]) (rest := [.ref (B 100)]) ⟨hx, hb, hml, hown, hts⟩ (c_X5_in (l := l) (D := D) (cs := cs) (df := df) (hh := hh) (s.heap.size) ((x0).toInt64) 0 12) (va_cwS 3 hts gX5_setCap_X5_in rfl rfl rfl (by decide +kernel) ⟨by decide, by decide⟩) (m_preS hE hV hS hA) rfl rfl hl.1 rfl (lv_room (by first | exact Nat.le_of_ble_eq_true rfl | simp [rf_cat, ct_ref, ct_int, ct_null, ct_long])) dX5_setCap_7 ⟨by decide, by decide⟩) hV hS hA (fun r h1 H locs hV hS hp _ => ?_)
  obtain ⟨e1, e2⟩ := hp
  subst e2
  rw [e1] at hV; clear e1
  refine m_topi (y := bI (rg x0 0 12)) (congrArg bI (inL_rg (by decide) (by decide))) ?_
  refine lv_if_eq (tgt := 17) hx hb dX5_setCap_10 (by decide) (fun c10 => ?_) (fun c10 => ?_)
  · replace c10 : (rg x0 0 12) = false := bI_0.mp c10
    refine lv_iconst (v := 1) hx hb dX5_setCap_17 (by decide) ?_
    refine m_put (C := RX5) (T := TX5) (N := 34) (v := .int 1) hx hb hts hi_X5 tyX5 tyX5_ok nmX5 hown hK hV hS 33 (p_m33 hM 1) rfl (by decide) k91 (fun _ h9 => h9) rfl (tyX5_ok 33 (by decide)) rfl rfl dX5_setCap_18 (fun h H locs hV hS hM => ?_)
    refine lv_aload_n hx hb dX5_setCap_21 rfl (lv_at hl 0 rfl) ?_
    refine m_get (C := RX5) (T := TX5) (N := 34) hx hb hts hi_X5 hown hK hV 5 (v := .int (kI μ 5 0)) (by have z9 := g_m5 hM; exact z9) rfl (by decide) k20 (fun _ h9 => h9) dX5_setCap_22 ?_
    refine lv_istore_n (lv' := [(2, .int (kI μ 5 0)), (0, .ref (B 100)), (1, .int x0)]) hx hb dX5_setCap_25 rfl hl (by decide) rfl (fun ls hl => ?_)
    refine lv_aload_n hx hb dX5_setCap_26 rfl (lv_at hl 1 rfl) ?_
    refine lv_aload_n hx hb dX5_setCap_27 rfl (lv_at hl 1 rfl) ?_
    refine m_get (C := RX5) (T := TX5) (N := 34) hx hb hts hi_X5 hown hK hV 33 (v := .int 1) (by have z9 := g_m33 hM; exact z9) rfl (by decide) k91 (fun _ h9 => h9) dX5_setCap_28 ?_
    refine lv_if_ne (tgt := 38) hx hb dX5_setCap_31 (by decide) (fun c31 => ?_) (fun c31 => (absurd c31 (by decide)))
    refine lv_iload_n hx hb dX5_setCap_38 rfl (lv_at hl 0 rfl) ?_
    refine m_put (C := RX5) (T := TX5) (N := 34) (v := .int (kI μ 5 0)) hx hb hts hi_X5 tyX5 tyX5_ok nmX5 hown hK hV hS 5 (p_m5 hM (kI μ 5 0)) rfl (by decide) k20 (fun _ h9 => h9) rfl (tyX5_ok 5 (by decide)) rfl rfl dX5_setCap_39 (fun h H locs hV hS hM => ?_)
    refine lv_aload_n hx hb dX5_setCap_42 rfl (lv_at hl 1 rfl) ?_
    refine m_get (C := RX5) (T := TX5) (N := 34) hx hb hts hi_X5 hown hK hV 33 (v := .int 1) (by have z9 := g_m33 hM; exact z9) rfl (by decide) k91 (fun _ h9 => h9) dX5_setCap_43 ?_
    refine lv_if_ne (tgt := 53) hx hb dX5_setCap_46 (by decide) (fun c46 => ?_) (fun c46 => (absurd c46 (by decide)))
    refine lv_iconst (v := (-1)) hx hb dX5_setCap_53 (by decide) ?_
    exact m_iret (v := (-1)) hx hb hr hlocks hV hS (⟨_, hM, Or.inr ⟨c10, rfl⟩⟩) dX5_setCap_54
  · replace c10 : (rg x0 0 12) = true := bI_1.mp c10
    refine lv_iconst (v := 0) hx hb dX5_setCap_13 (by decide) ?_
    refine lv_goto (tgt := 18) hx hb dX5_setCap_14 (by decide) ?_
    refine m_put (C := RX5) (T := TX5) (N := 34) (v := .int 0) hx hb hts hi_X5 tyX5 tyX5_ok nmX5 hown hK hV hS 33 (p_m33 hM 0) rfl (by decide) k91 (fun _ h9 => h9) rfl (tyX5_ok 33 (by decide)) rfl rfl dX5_setCap_18 (fun h H locs hV hS hM => ?_)
    refine lv_aload_n hx hb dX5_setCap_21 rfl (lv_at hl 0 rfl) ?_
    refine m_get (C := RX5) (T := TX5) (N := 34) hx hb hts hi_X5 hown hK hV 5 (v := .int (kI μ 5 0)) (by have z9 := g_m5 hM; exact z9) rfl (by decide) k20 (fun _ h9 => h9) dX5_setCap_22 ?_
    refine lv_istore_n (lv' := [(2, .int (kI μ 5 0)), (0, .ref (B 100)), (1, .int x0)]) hx hb dX5_setCap_25 rfl hl (by decide) rfl (fun ls hl => ?_)
    refine lv_aload_n hx hb dX5_setCap_26 rfl (lv_at hl 1 rfl) ?_
    refine lv_aload_n hx hb dX5_setCap_27 rfl (lv_at hl 1 rfl) ?_
    refine m_get (C := RX5) (T := TX5) (N := 34) hx hb hts hi_X5 hown hK hV 33 (v := .int 0) (by have z9 := g_m33 hM; exact z9) rfl (by decide) k91 (fun _ h9 => h9) dX5_setCap_28 ?_
    refine lv_if_ne (tgt := 38) hx hb dX5_setCap_31 (by decide) (fun c31 => (absurd (by decide) c31)) (fun c31 => ?_)
    refine lv_iload_n hx hb dX5_setCap_34 rfl (lv_at hl 2 rfl) ?_
    refine lv_goto (tgt := 39) hx hb dX5_setCap_35 (by decide) ?_
    refine m_put (C := RX5) (T := TX5) (N := 34) (v := .int x0) hx hb hts hi_X5 tyX5 tyX5_ok nmX5 hown hK hV hS 5 (p_m5 hM x0) rfl (by decide) k20 (fun _ h9 => h9) rfl (tyX5_ok 5 (by decide)) rfl rfl dX5_setCap_39 (fun h H locs hV hS hM => ?_)
    refine lv_aload_n hx hb dX5_setCap_42 rfl (lv_at hl 1 rfl) ?_
    refine m_get (C := RX5) (T := TX5) (N := 34) hx hb hts hi_X5 hown hK hV 33 (v := .int 0) (by have z9 := g_m33 hM; exact z9) rfl (by decide) k91 (fun _ h9 => h9) dX5_setCap_43 ?_
    refine lv_if_ne (tgt := 53) hx hb dX5_setCap_46 (by decide) (fun c46 => (absurd (by decide) c46)) (fun c46 => ?_)
    refine lv_iload_n hx hb dX5_setCap_49 rfl (lv_at hl 0 rfl) ?_
    refine lv_goto (tgt := 54) hx hb dX5_setCap_50 (by decide) ?_
    exact m_iret (v := (kI μ 5 0)) hx hb hr hlocks hV hS (⟨_, hM, Or.inl ⟨c10, rfl, rfl⟩⟩) dX5_setCap_54
set_option maxHeartbeats 4000000 in
set_option maxRecDepth 100000 in
theorem c_X5_addCore {l : Launch} {D : va_G} {cs : mC} {df : Nat} {P : Nat → Prop} {h0 : mH} {B : Nat → Nat} {μ : KS} {hh : mH} (sz : Nat) (hM : DRep cs P h0 B μ hh) (x0 : Int32) : Met l yX5_addCore wsX5_addCore ({ frames := 1, cells := 0, slots := 0, locals := 25 }) (mPre [.ref (B 100), .int x0] D cs df hh sz) (va_Qi ((fun (r : Int32) (h1 : mH) => ∃ μ1 : KS, DRep cs P h0 B μ1 h1 ∧ om_addCore μ x0 r μ1)) (mB D hh sz) (mA hh sz)) 0 0 (mA hh sz) := by
  refine Met.ofW (cc := cX5_addCore) (maxL := 2) (ret := (some .int)) (by decide) rfl ?_
  intro p e s m args below meth c s₁ B0 hml hv
  obtain ⟨hargs, hsz, hV, hE⟩ := hv
  subst hsz
  have hx := B0.exec
  have hb := B0.bytes
  have hr := B0.returns
  have hlocks := B0.notSynchronized
  have hts := atoms_spec (ws := wsX5_addCore) B0.pre
  have hown : s.vm.findClass RX5 = some m.cls := findClass_of_methodNamed B0.named
  have hK := hE.1.1
  have hA : ∀ q : Nat, s.heap.size ≤ q → mA hh s.heap.size q := mA.top
  have hS : va_S (mA hh s.heap.size) s.heap s.heap [] := va_S.rf
  have kk94 : (Cond.constantLong RX5 94 (4)).before args s = true := hts _ (by decide +kernel)
  have hi_X5 : ∀ w ∈ u_ws RX5 TX5 34, w ∈ wsX5_addCore := by decide +kernel
  have k100 : (Cond.fieldLink RX5 100 "TaskKernelModel" "cores" "I").before args s = true := hts _ (by decide +kernel)
  have k91 : (Cond.fieldLink RX5 91 "TaskKernelModel" "thrown" "I").before args s = true := hts _ (by decide +kernel)
  have k7 : (Cond.fieldLink RX5 7 "TaskKernelModel" "speeds" "[I").before args s = true := hts _ (by decide +kernel)
  have hl := lv_entry ([.ref (B 100), .int x0]) (n := 2) (by first | exact Nat.le_of_ble_eq_true rfl | simp [lg_sl, rf_cat, ct_ref, ct_int, ct_null, ct_long])
  have hent := lg_entry_eq m ([.ref (B 100), .int x0]) 2
  rw [← hargs] at hent
  rw [hent]
  generalize (lg_sl ([.ref (B 100), .int x0]) ++ List.replicate (2 - (lg_sl ([.ref (B 100), .int x0])).length) Slot.unset).toArray = ls at hl ⊢
  replace hl : lv_has ls 2 [(0, .ref (B 100)), (1, .int x0)] := hl
  have hwf := hM.wf
  obtain ⟨⟨y0, y1, y2, y3⟩, y4, y5, y6, y7⟩ := hwf
  refine lv_aload_n hx hb dX5_addCore_0 rfl (lv_at hl 0 rfl) ?_
  refine lv_iload_n hx hb dX5_addCore_1 rfl (lv_at hl 1 rfl) ?_
  refine lv_i2l (v := (x0).toInt64) hx hb dX5_addCore_2 rfl ?_
  refine lv_lconst (v := 1) hx hb dX5_addCore_3 (by decide) ?_
  refine lv_ldc2 (v := 4) hx hb hown kk94 dX5_addCore_4 ?_
  refine m_calli (va_runS (As := [.long ((x0).toInt64), .long 1, .long 4]) (rest := [.ref (B 100)]) ⟨hx, hb, hml, hown, hts⟩ (c_X5_in (l := l) (D := D) (cs := cs) (df := df) (hh := hh) (s.heap.size) ((x0).toInt64) 1 4) (va_cwS 3 hts gX5_addCore_X5_in rfl rfl rfl (by decide +kernel) ⟨by decide, by decide⟩) (m_preS hE hV hS hA) rfl rfl hl.1 rfl (lv_room (by first | exact Nat.le_of_ble_eq_true rfl | simp [rf_cat, ct_ref, ct_int, ct_null, ct_long])) dX5_addCore_7 ⟨by decide, by decide⟩) hV hS hA (fun r h1 H locs hV hS hp _ => ?_)
  obtain ⟨e1, e2⟩ := hp
  subst e2
  rw [e1] at hV; clear e1
  refine m_topi (y := bI (rg x0 1 4)) (congrArg bI (inL_rg (by decide) (by decide))) ?_
  refine lv_if_ne (tgt := 17) hx hb dX5_addCore_10 (by decide) (fun c10 => ?_) (fun c10 => ?_)
  · replace c10 : (rg x0 1 4) = true := bI_1.mp c10
    refine lv_aload_n hx hb dX5_addCore_17 rfl (lv_at hl 0 rfl) ?_
    refine m_get (C := RX5) (T := TX5) (N := 34) hx hb hts hi_X5 hown hK hV 3 (v := .int (nI (kN μ 3 0))) (by have z9 := g_m3 hM; exact z9) rfl (by decide) k100 (fun _ h9 => h9) dX5_addCore_18 ?_
    refine lv_iconst (v := 3) hx hb dX5_addCore_21 (by decide) ?_
    refine lv_icmp_ne (tgt := 29) hx hb dX5_addCore_22 (by decide) (fun c22 => ?_) (fun c22 => ?_)
    · replace c22 : ¬ kN μ 3 0 = 3 := fun q9 => c22 ((nI_eq (a := kN μ 3 0) (b := 3) (by omega) (by omega)).mpr q9)
      refine lv_iconst (v := 0) hx hb dX5_addCore_29 (by decide) ?_
      refine m_put (C := RX5) (T := TX5) (N := 34) (v := .int 0) hx hb hts hi_X5 tyX5 tyX5_ok nmX5 hown hK hV hS 33 (p_m33 hM 0) rfl (by decide) k91 (fun _ h9 => h9) rfl (tyX5_ok 33 (by decide)) rfl rfl dX5_addCore_30 (fun h H locs hV hS hM => ?_)
      refine lv_aload_n hx hb dX5_addCore_33 rfl (lv_at hl 0 rfl) ?_
      refine m_get (C := RX5) (T := TX5) (N := 34) hx hb hts hi_X5 hown hK hV 33 (v := .int 0) (by have z9 := g_m33 hM; exact z9) rfl (by decide) k91 (fun _ h9 => h9) dX5_addCore_34 ?_
      refine lv_if_le (tgt := 42) hx hb dX5_addCore_37 (by decide) (fun c37 => ?_) (fun c37 => (absurd (by decide) c37))
      refine lv_aload_n hx hb dX5_addCore_42 rfl (lv_at hl 0 rfl) ?_
      refine m_get (C := RX5) (T := TX5) (N := 34) hx hb hts hi_X5 hown hK hV 1 (v := .ref (B 1)) (g_m1 hM) rfl (by decide) k7 (fun _ h9 => h9) dX5_addCore_43 ?_
      refine lv_aload_n hx hb dX5_addCore_46 rfl (lv_at hl 0 rfl) ?_
      refine m_get (C := RX5) (T := TX5) (N := 34) hx hb hts hi_X5 hown hK hV 3 (v := .int (nI (kN μ 3 0))) (by have z9 := g_m3 hM; exact z9) rfl (by decide) k100 (fun _ h9 => h9) dX5_addCore_47 ?_
      refine lv_iload_n hx hb dX5_addCore_50 rfl (lv_at hl 1 rfl) ?_
      refine m_iast hx hb hK hV hS 0 (i := nI (kN μ 3 0)) (x := x0) (q_m1 hM (by omega) x0) rfl (vp_in_nI (by omega) (by omega)) dX5_addCore_51 (fun h H locs hV hS hM => ?_)
      refine lv_aload_n hx hb dX5_addCore_52 rfl (lv_at hl 0 rfl) ?_
      refine lv_dup hx hb dX5_addCore_53 rfl ?_
      refine m_get (C := RX5) (T := TX5) (N := 34) hx hb hts hi_X5 hown hK hV 3 (v := .int (nI (kN μ 3 0))) (by have z9 := g_m3 hM; exact z9) rfl (by decide) k100 (fun _ h9 => h9) dX5_addCore_54 ?_
      refine lv_iconst (v := 1) hx hb dX5_addCore_57 (by decide) ?_
      refine lv_iadd hx hb dX5_addCore_58 ?_
      refine m_topi (y := nI (kN μ 3 0 + 1)) (nI_add (kN μ 3 0) 1) ?_
      refine m_put (C := RX5) (T := TX5) (N := 34) (v := .int (nI (kN μ 3 0 + 1))) hx hb hts hi_X5 tyX5 tyX5_ok nmX5 hown hK hV hS 3 (p_m3 hM (kN μ 3 0 + 1) ⟨⟨(show kN μ 3 0 + 1 ≤ 3 by omega), y1, y2, y3⟩, y4, y5, y6, y7⟩) rfl (by decide) k100 (fun _ h9 => h9) rfl (tyX5_ok 3 (by decide)) rfl rfl dX5_addCore_59 (fun h H locs hV hS hM => ?_)
      refine lv_aload_n hx hb dX5_addCore_62 rfl (lv_at hl 0 rfl) ?_
      refine m_get (C := RX5) (T := TX5) (N := 34) hx hb hts hi_X5 hown hK hV 3 (v := .int (nI (kN μ 3 0 + 1))) (by have z9 := g_m3 hM; exact z9) rfl (by decide) k100 (fun _ h9 => h9) dX5_addCore_63 ?_
      refine lv_iconst (v := 1) hx hb dX5_addCore_66 (by decide) ?_
      refine lv_isub hx hb dX5_addCore_67 ?_
      refine m_topi (y := nI ((kN μ 3 0 + 1) - 1)) (pk_sub (a := (kN μ 3 0 + 1)) (b := 1) (by omega)) ?_
      exact m_iret (v := nI ((kN μ 3 0 + 1) - 1)) hx hb hr hlocks hV hS (⟨_, hM, Or.inr (Or.inr ⟨c10, c22, rfl, by rw [Nat.add_sub_cancel]⟩)⟩) dX5_addCore_68
    · replace c22 : kN μ 3 0 = 3 := (nI_eq (a := kN μ 3 0) (b := 3) (by omega) (by omega)).mp c22
      refine lv_iconst (v := 2) hx hb dX5_addCore_25 (by decide) ?_
      refine lv_goto (tgt := 30) hx hb dX5_addCore_26 (by decide) ?_
      refine m_put (C := RX5) (T := TX5) (N := 34) (v := .int 2) hx hb hts hi_X5 tyX5 tyX5_ok nmX5 hown hK hV hS 33 (p_m33 hM 2) rfl (by decide) k91 (fun _ h9 => h9) rfl (tyX5_ok 33 (by decide)) rfl rfl dX5_addCore_30 (fun h H locs hV hS hM => ?_)
      refine lv_aload_n hx hb dX5_addCore_33 rfl (lv_at hl 0 rfl) ?_
      refine m_get (C := RX5) (T := TX5) (N := 34) hx hb hts hi_X5 hown hK hV 33 (v := .int 2) (by have z9 := g_m33 hM; exact z9) rfl (by decide) k91 (fun _ h9 => h9) dX5_addCore_34 ?_
      refine lv_if_le (tgt := 42) hx hb dX5_addCore_37 (by decide) (fun c37 => (absurd c37 (by decide))) (fun c37 => ?_)
      refine lv_iconst (v := (-1)) hx hb dX5_addCore_40 (by decide) ?_
      exact m_iret (v := (-1)) hx hb hr hlocks hV hS (⟨_, hM, Or.inr (Or.inl ⟨c10, c22, rfl⟩)⟩) dX5_addCore_41
  · replace c10 : (rg x0 1 4) = false := bI_0.mp c10
    refine lv_iconst (v := 1) hx hb dX5_addCore_13 (by decide) ?_
    refine lv_goto (tgt := 30) hx hb dX5_addCore_14 (by decide) ?_
    refine m_put (C := RX5) (T := TX5) (N := 34) (v := .int 1) hx hb hts hi_X5 tyX5 tyX5_ok nmX5 hown hK hV hS 33 (p_m33 hM 1) rfl (by decide) k91 (fun _ h9 => h9) rfl (tyX5_ok 33 (by decide)) rfl rfl dX5_addCore_30 (fun h H locs hV hS hM => ?_)
    refine lv_aload_n hx hb dX5_addCore_33 rfl (lv_at hl 0 rfl) ?_
    refine m_get (C := RX5) (T := TX5) (N := 34) hx hb hts hi_X5 hown hK hV 33 (v := .int 1) (by have z9 := g_m33 hM; exact z9) rfl (by decide) k91 (fun _ h9 => h9) dX5_addCore_34 ?_
    refine lv_if_le (tgt := 42) hx hb dX5_addCore_37 (by decide) (fun c37 => (absurd c37 (by decide))) (fun c37 => ?_)
    refine lv_iconst (v := (-1)) hx hb dX5_addCore_40 (by decide) ?_
    exact m_iret (v := (-1)) hx hb hr hlocks hV hS (⟨_, hM, Or.inl ⟨c10, rfl⟩⟩) dX5_addCore_41
set_option maxHeartbeats 4000000 in
set_option maxRecDepth 100000 in
theorem c_X5_leastIn {l : Launch} {D : va_G} {cs : mC} {df : Nat} {P : Nat → Prop} {h0 : mH} {B : Nat → Nat} {μ : KS} {hh : mH} (sz : Nat) (hM : DRep cs P h0 B μ hh) (p9 : Nat) (hp : p9 < kN μ 9 0) : Met l yX5_leastIn wsX5_leastIn ({ frames := 0, cells := 0, slots := 0, locals := 0 }) (mPre [.ref (B 100), .int (nI p9)] D cs df hh sz) (va_Ql ((fun (r : Int64) (h1 : mH) => h1 = hh ∧ r = (lsM μ p9))) (mB D hh sz) (mA hh sz)) 0 0 (mA hh sz) := by
  refine Met.ofW (cc := cX5_leastIn) (maxL := 5) (ret := (some .long)) (by decide) rfl ?_
  intro p e s m args below meth c s₁ B0 hml hv
  obtain ⟨hargs, hsz, hV, hE⟩ := hv
  subst hsz
  have hx := B0.exec
  have hb := B0.bytes
  have hr := B0.returns
  have hlocks := B0.notSynchronized
  have hts := atoms_spec (ws := wsX5_leastIn) B0.pre
  have hown : s.vm.findClass RX5 = some m.cls := findClass_of_methodNamed B0.named
  have hK := hE.1.1
  have hA : ∀ q : Nat, s.heap.size ≤ q → mA hh s.heap.size q := mA.top
  have hS : va_S (mA hh s.heap.size) s.heap s.heap [] := va_S.rf
  have kk115 : (Cond.constantLong RX5 115 (-1)).before args s = true := hts _ (by decide +kernel)
  have hi_X5 : ∀ w ∈ u_ws RX5 TX5 34, w ∈ wsX5_leastIn := by decide +kernel
  have k33 : (Cond.fieldLink RX5 33 "TaskKernelModel" "groups" "I").before args s = true := hts _ (by decide +kernel)
  have k117 : (Cond.fieldLink RX5 117 "TaskKernelModel" "tasks" "I").before args s = true := hts _ (by decide +kernel)
  have k36 : (Cond.fieldLink RX5 36 "TaskKernelModel" "groupOf" "[I").before args s = true := hts _ (by decide +kernel)
  have k42 : (Cond.fieldLink RX5 42 "TaskKernelModel" "times" "[J").before args s = true := hts _ (by decide +kernel)
  have k23 : (Cond.fieldLink RX5 23 "TaskKernelModel" "parents" "[I").before args s = true := hts _ (by decide +kernel)
  have k29 : (Cond.fieldLink RX5 29 "TaskKernelModel" "groupTimes" "[J").before args s = true := hts _ (by decide +kernel)
  have hl := lv_entry ([.ref (B 100), .int (nI p9)]) (n := 5) (by first | exact Nat.le_of_ble_eq_true rfl | simp [lg_sl, rf_cat, ct_ref, ct_int, ct_null, ct_long])
  have hent := lg_entry_eq m ([.ref (B 100), .int (nI p9)]) 5
  rw [← hargs] at hent
  rw [hent]
  generalize (lg_sl ([.ref (B 100), .int (nI p9)]) ++ List.replicate (5 - (lg_sl ([.ref (B 100), .int (nI p9)])).length) Slot.unset).toArray = ls at hl ⊢
  replace hl : lv_has ls 5 [(0, .ref (B 100)), (1, .int (nI p9))] := hl
  have hwf := hM.wf
  obtain ⟨⟨y0, y1, y2, y3⟩, y4, y5, y6, y7⟩ := hwf
  refine lv_ldc2 (v := (-1)) hx hb hown kk115 dX5_leastIn_0 ?_
  refine lv_lstore_n (lv' := [(2, .long (-1)), (0, .ref (B 100)), (1, .int (nI p9))]) hx hb dX5_leastIn_3 rfl hl (by decide) rfl (fun ls hl => ?_)
  refine lv_iconst (v := 1) hx hb dX5_leastIn_4 (by decide) ?_
  refine lv_istore (lv' := [(4, .int 1), (2, .long (-1)), (0, .ref (B 100)), (1, .int (nI p9))]) hx hb dX5_leastIn_5 hl (by decide) rfl (fun ls hl => ?_)
  have lp7 : ∀ (fu : Nat) (j : Nat), (j + 1 ≤ kN μ 9 0) → kN μ 9 0 - j < fu → ∀ (H : Heap) (locs : List Loc), mV D hh (mA hh s.heap.size) H → va_S (mA hh s.heap.size) s.heap H locs → ∀ (ls : Array Slot), lv_has ls 5 [(0, .ref (B 100)), (1, .int (nI p9)), (2, .long (lgM μ p9 j)), (4, .int (nI (j + 1)))] → W p l e ({ frames := 0, cells := 0, slots := 0, locals := 0 } : Room) s m args below meth c H locs 0 0 (MQ below (va_Ql ((fun (r : Int64) (h1 : mH) => h1 = hh ∧ r = (lsM μ p9))) (mB D hh s.heap.size) (mA hh s.heap.size)) args s 0 0 (mA hh s.heap.size)) (F0 m 7 ls []) := by
    intro fu
    induction fu with
    | zero =>
      intro j hj hfu
      exact absurd hfu (Nat.not_lt_zero _)
    | succ fu ih7 =>
      intro j hj hfu H locs hV hS ls hl
      refine lv_iload hx hb dX5_leastIn_7 (lv_at hl 3 rfl) ?_
      refine lv_aload_n hx hb dX5_leastIn_9 rfl (lv_at hl 0 rfl) ?_
      refine m_get (C := RX5) (T := TX5) (N := 34) hx hb hts hi_X5 hown hK hV 9 (v := .int (nI (kN μ 9 0))) (by have z9 := g_m9 hM; exact z9) rfl (by decide) k33 (fun _ h9 => h9) dX5_leastIn_10 ?_
      refine lv_icmp_ge (tgt := 63) hx hb dX5_leastIn_13 (by decide) (fun c13 => ?_) (fun c13 => ?_)
      · replace c13 : kN μ 9 0 ≤ (j + 1) := (nI_leI (a := kN μ 9 0) (b := (j + 1)) (by omega) (by omega)).mp c13
        refine lv_iconst (v := 0) hx hb dX5_leastIn_63 (by decide) ?_
        refine lv_istore (lv' := [(4, .int 0), (0, .ref (B 100)), (1, .int (nI p9)), (2, .long (lgM μ p9 j))]) hx hb dX5_leastIn_64 hl (by decide) rfl (fun ls hl => ?_)
        have lp66 : ∀ (fu : Nat) (i : Nat), (i ≤ kN μ 24 0) → kN μ 24 0 - i < fu → ∀ (H : Heap) (locs : List Loc), mV D hh (mA hh s.heap.size) H → va_S (mA hh s.heap.size) s.heap H locs → ∀ (ls : Array Slot), lv_has ls 5 [(0, .ref (B 100)), (1, .int (nI p9)), (2, .long (ltM μ p9 i)), (4, .int (nI i))] → W p l e ({ frames := 0, cells := 0, slots := 0, locals := 0 } : Room) s m args below meth c H locs 0 0 (MQ below (va_Ql ((fun (r : Int64) (h1 : mH) => h1 = hh ∧ r = (lsM μ p9))) (mB D hh s.heap.size) (mA hh s.heap.size)) args s 0 0 (mA hh s.heap.size)) (F0 m 66 ls []) := by
          intro fu
          induction fu with
          | zero =>
            intro i hi hfu
            exact absurd hfu (Nat.not_lt_zero _)
          | succ fu ih66 =>
            intro i hi hfu H locs hV hS ls hl
            refine lv_iload hx hb dX5_leastIn_66 (lv_at hl 3 rfl) ?_
            refine lv_aload_n hx hb dX5_leastIn_68 rfl (lv_at hl 0 rfl) ?_
            refine m_get (C := RX5) (T := TX5) (N := 34) hx hb hts hi_X5 hown hK hV 24 (v := .int (nI (kN μ 24 0))) (by have z9 := g_m24 hM; exact z9) rfl (by decide) k117 (fun _ h9 => h9) dX5_leastIn_69 ?_
            refine lv_icmp_ge (tgt := 122) hx hb dX5_leastIn_72 (by decide) (fun c72 => ?_) (fun c72 => ?_)
            · replace c72 : kN μ 24 0 ≤ i := (nI_leI (a := kN μ 24 0) (b := i) (by omega) (by omega)).mp c72
              refine lv_lload_n hx hb dX5_leastIn_122 rfl (lv_at hl 2 rfl) ?_
              refine lv_lconst (v := 0) hx hb dX5_leastIn_123 (by decide) ?_
              refine m_lcmp_ge (tgt := 132) hx hb dX5_leastIn_124 dX5_leastIn_125 (by decide) (fun c125 => ?_) (fun c125 => ?_)
              · refine lv_lload_n hx hb dX5_leastIn_132 rfl (lv_at hl 2 rfl) ?_
                exact m_lret (v := (ltM μ p9 i)) hx hb hr hlocks hV hS (⟨rfl, by rw [show i = kN μ 24 0 by omega] at c125; unfold lsM; rw [if_pos c125, show i = kN μ 24 0 by omega]⟩) dX5_leastIn_133
              · refine lv_lconst (v := 0) hx hb dX5_leastIn_128 (by decide) ?_
                refine lv_goto (tgt := 133) hx hb dX5_leastIn_129 (by decide) ?_
                exact m_lret (v := 0) hx hb hr hlocks hV hS (⟨rfl, by rw [show i = kN μ 24 0 by omega] at c125; unfold lsM; rw [if_neg c125]⟩) dX5_leastIn_133
            · replace c72 : ¬ kN μ 24 0 ≤ i := fun q9 => c72 ((nI_leI (a := kN μ 24 0) (b := i) (by omega) (by omega)).mpr q9)
              refine lv_aload_n hx hb dX5_leastIn_75 rfl (lv_at hl 0 rfl) ?_
              refine m_get (C := RX5) (T := TX5) (N := 34) hx hb hts hi_X5 hown hK hV 10 (v := .ref (B 10)) (g_m10 hM) rfl (by decide) k36 (fun _ h9 => h9) dX5_leastIn_76 ?_
              refine lv_iload hx hb dX5_leastIn_79 (lv_at hl 3 rfl) ?_
              refine m_iald hx hb hK hV 0 (i := nI i) (x := nI (kN μ 10 i)) (a_m10 hM) rfl (vp_in_nI (by omega) (by omega)) (by rw [nI_clamp (by omega)] <;> rfl) dX5_leastIn_81 ?_
              refine lv_iload_n hx hb dX5_leastIn_82 rfl (lv_at hl 1 rfl) ?_
              have b83 := y5 i (by omega)
              refine lv_icmp_ne (tgt := 114) hx hb dX5_leastIn_83 (by decide) (fun c83 => ?_) (fun c83 => ?_)
              · replace c83 : ¬ kN μ 10 i = p9 := fun q9 => c83 ((nI_eq (a := kN μ 10 i) (b := p9) (by omega) (by omega)).mpr q9)
                refine lv_lload_n hx hb dX5_leastIn_114 rfl (lv_at hl 2 rfl) ?_
                refine lv_lstore_n (lv' := [(2, .long (ltM μ p9 i)), (0, .ref (B 100)), (1, .int (nI p9)), (4, .int (nI i))]) hx hb dX5_leastIn_115 rfl hl (by decide) rfl (fun ls hl => ?_)
                refine lv_iinc (v := nI (i + 1)) (lv' := [(4, .int (nI (i + 1))), (2, .long (ltM μ p9 i)), (0, .ref (B 100)), (1, .int (nI p9))]) hx hb dX5_leastIn_116 hl (k := 3) rfl (show nI i + Int32.ofInt 1 = _ from nI_add i 1) (by decide) rfl (fun ls hl => ?_)
                refine lv_goto (tgt := 66) hx hb dX5_leastIn_119 (by decide) ?_
                have q1 : (ltM μ p9 i) = (ltM μ p9 (i + 1)) := (by rw [ltM, if_neg (fun q => c83 q.1)])
                replace hl : lv_has ls 5 [(4, .int (nI (i + 1))), (2, .long (ltM μ p9 (i + 1))), (0, .ref (B 100)), (1, .int (nI p9))] := (congrArg (lv_has ls 5) (m_lc rfl (m_lc (congrArg Value.long q1) (m_lc rfl (m_lc rfl rfl))))).mp hl
                exact ih66 (i + 1) (by omega) (by omega) _ _ hV hS ls (lv_sub hl [2, 3, 1, 0] rfl)
              · replace c83 : kN μ 10 i = p9 := (nI_eq (a := kN μ 10 i) (b := p9) (by omega) (by omega)).mp c83
                refine lv_lload_n hx hb dX5_leastIn_86 rfl (lv_at hl 2 rfl) ?_
                refine lv_lconst (v := 0) hx hb dX5_leastIn_87 (by decide) ?_
                refine m_lcmp_lt (tgt := 104) hx hb dX5_leastIn_88 dX5_leastIn_89 (by decide) (fun c89 => ?_) (fun c89 => ?_)
                · refine lv_aload_n hx hb dX5_leastIn_104 rfl (lv_at hl 0 rfl) ?_
                  refine m_get (C := RX5) (T := TX5) (N := 34) hx hb hts hi_X5 hown hK hV 12 (v := .ref (B 12)) (g_m12 hM) rfl (by decide) k42 (fun _ h9 => h9) dX5_leastIn_105 ?_
                  refine lv_iload hx hb dX5_leastIn_108 (lv_at hl 3 rfl) ?_
                  refine m_lald hx hb hK hV 1 (i := nI i) (x := (kW μ 12 i)) (a_m12 hM) rfl (vp_in_nI (by omega) (by omega)) (by rw [nI_clamp (by omega)] <;> rfl) dX5_leastIn_110 ?_
                  refine lv_goto (tgt := 115) hx hb dX5_leastIn_111 (by decide) ?_
                  refine lv_lstore_n (lv' := [(2, .long (kW μ 12 i)), (0, .ref (B 100)), (1, .int (nI p9)), (4, .int (nI i))]) hx hb dX5_leastIn_115 rfl hl (by decide) rfl (fun ls hl => ?_)
                  refine lv_iinc (v := nI (i + 1)) (lv' := [(4, .int (nI (i + 1))), (2, .long (kW μ 12 i)), (0, .ref (B 100)), (1, .int (nI p9))]) hx hb dX5_leastIn_116 hl (k := 3) rfl (show nI i + Int32.ofInt 1 = _ from nI_add i 1) (by decide) rfl (fun ls hl => ?_)
                  refine lv_goto (tgt := 66) hx hb dX5_leastIn_119 (by decide) ?_
                  have q2 : (kW μ 12 i) = (ltM μ p9 (i + 1)) := (by rw [ltM, if_pos ⟨c83, Or.inl c89⟩])
                  replace hl : lv_has ls 5 [(4, .int (nI (i + 1))), (2, .long (ltM μ p9 (i + 1))), (0, .ref (B 100)), (1, .int (nI p9))] := (congrArg (lv_has ls 5) (m_lc rfl (m_lc (congrArg Value.long q2) (m_lc rfl (m_lc rfl rfl))))).mp hl
                  exact ih66 (i + 1) (by omega) (by omega) _ _ hV hS ls (lv_sub hl [2, 3, 1, 0] rfl)
                · refine lv_aload_n hx hb dX5_leastIn_92 rfl (lv_at hl 0 rfl) ?_
                  refine m_get (C := RX5) (T := TX5) (N := 34) hx hb hts hi_X5 hown hK hV 12 (v := .ref (B 12)) (g_m12 hM) rfl (by decide) k42 (fun _ h9 => h9) dX5_leastIn_93 ?_
                  refine lv_iload hx hb dX5_leastIn_96 (lv_at hl 3 rfl) ?_
                  refine m_lald hx hb hK hV 1 (i := nI i) (x := (kW μ 12 i)) (a_m12 hM) rfl (vp_in_nI (by omega) (by omega)) (by rw [nI_clamp (by omega)] <;> rfl) dX5_leastIn_98 ?_
                  refine lv_lload_n hx hb dX5_leastIn_99 rfl (lv_at hl 2 rfl) ?_
                  refine m_lcmp_ge (tgt := 114) hx hb dX5_leastIn_100 dX5_leastIn_101 (by decide) (fun c101 => ?_) (fun c101 => ?_)
                  · refine lv_lload_n hx hb dX5_leastIn_114 rfl (lv_at hl 2 rfl) ?_
                    refine lv_lstore_n (lv' := [(2, .long (ltM μ p9 i)), (0, .ref (B 100)), (1, .int (nI p9)), (4, .int (nI i))]) hx hb dX5_leastIn_115 rfl hl (by decide) rfl (fun ls hl => ?_)
                    refine lv_iinc (v := nI (i + 1)) (lv' := [(4, .int (nI (i + 1))), (2, .long (ltM μ p9 i)), (0, .ref (B 100)), (1, .int (nI p9))]) hx hb dX5_leastIn_116 hl (k := 3) rfl (show nI i + Int32.ofInt 1 = _ from nI_add i 1) (by decide) rfl (fun ls hl => ?_)
                    refine lv_goto (tgt := 66) hx hb dX5_leastIn_119 (by decide) ?_
                    have q3 : (ltM μ p9 i) = (ltM μ p9 (i + 1)) := (by rw [ltM, if_neg (fun q => q.2.elim c89 (Int64.not_lt.mpr c101))])
                    replace hl : lv_has ls 5 [(4, .int (nI (i + 1))), (2, .long (ltM μ p9 (i + 1))), (0, .ref (B 100)), (1, .int (nI p9))] := (congrArg (lv_has ls 5) (m_lc rfl (m_lc (congrArg Value.long q3) (m_lc rfl (m_lc rfl rfl))))).mp hl
                    exact ih66 (i + 1) (by omega) (by omega) _ _ hV hS ls (lv_sub hl [2, 3, 1, 0] rfl)
                  · refine lv_aload_n hx hb dX5_leastIn_104 rfl (lv_at hl 0 rfl) ?_
                    refine m_get (C := RX5) (T := TX5) (N := 34) hx hb hts hi_X5 hown hK hV 12 (v := .ref (B 12)) (g_m12 hM) rfl (by decide) k42 (fun _ h9 => h9) dX5_leastIn_105 ?_
                    refine lv_iload hx hb dX5_leastIn_108 (lv_at hl 3 rfl) ?_
                    refine m_lald hx hb hK hV 1 (i := nI i) (x := (kW μ 12 i)) (a_m12 hM) rfl (vp_in_nI (by omega) (by omega)) (by rw [nI_clamp (by omega)] <;> rfl) dX5_leastIn_110 ?_
                    refine lv_goto (tgt := 115) hx hb dX5_leastIn_111 (by decide) ?_
                    refine lv_lstore_n (lv' := [(2, .long (kW μ 12 i)), (0, .ref (B 100)), (1, .int (nI p9)), (4, .int (nI i))]) hx hb dX5_leastIn_115 rfl hl (by decide) rfl (fun ls hl => ?_)
                    refine lv_iinc (v := nI (i + 1)) (lv' := [(4, .int (nI (i + 1))), (2, .long (kW μ 12 i)), (0, .ref (B 100)), (1, .int (nI p9))]) hx hb dX5_leastIn_116 hl (k := 3) rfl (show nI i + Int32.ofInt 1 = _ from nI_add i 1) (by decide) rfl (fun ls hl => ?_)
                    refine lv_goto (tgt := 66) hx hb dX5_leastIn_119 (by decide) ?_
                    have q4 : (kW μ 12 i) = (ltM μ p9 (i + 1)) := (by rw [ltM, if_pos ⟨c83, Or.inr (Int64.not_le.mp c101)⟩])
                    replace hl : lv_has ls 5 [(4, .int (nI (i + 1))), (2, .long (ltM μ p9 (i + 1))), (0, .ref (B 100)), (1, .int (nI p9))] := (congrArg (lv_has ls 5) (m_lc rfl (m_lc (congrArg Value.long q4) (m_lc rfl (m_lc rfl rfl))))).mp hl
                    exact ih66 (i + 1) (by omega) (by omega) _ _ hV hS ls (lv_sub hl [2, 3, 1, 0] rfl)
        have q5 : (lgM μ p9 j) = (ltM μ p9 0) := (by rw [show j = kN μ 9 0 - 1 by omega]; rfl)
        have q6 : 0 = nI 0 := rfl
        replace hl : lv_has ls 5 [(4, .int (nI 0)), (0, .ref (B 100)), (1, .int (nI p9)), (2, .long (ltM μ p9 0))] := (congrArg (lv_has ls 5) (m_lc (congrArg Value.int q6) (m_lc rfl (m_lc rfl (m_lc (congrArg Value.long q5) rfl))))).mp hl
        exact lp66 ((kN μ 24 0 - 0) + 1) 0 (Nat.zero_le _) (Nat.lt_succ_self _) _ _ hV hS ls (lv_sub hl [1, 2, 3, 0] rfl)
      · replace c13 : ¬ kN μ 9 0 ≤ (j + 1) := fun q9 => c13 ((nI_leI (a := kN μ 9 0) (b := (j + 1)) (by omega) (by omega)).mpr q9)
        refine lv_aload_n hx hb dX5_leastIn_16 rfl (lv_at hl 0 rfl) ?_
        refine m_get (C := RX5) (T := TX5) (N := 34) hx hb hts hi_X5 hown hK hV 6 (v := .ref (B 6)) (g_m6 hM) rfl (by decide) k23 (fun _ h9 => h9) dX5_leastIn_17 ?_
        refine lv_iload hx hb dX5_leastIn_20 (lv_at hl 3 rfl) ?_
        refine m_iald hx hb hK hV 0 (i := nI (j + 1)) (x := nI (kN μ 6 (j + 1))) (a_m6 hM) rfl (vp_in_nI (by omega) (by omega)) (by rw [nI_clamp (by omega)] <;> rfl) dX5_leastIn_22 ?_
        refine lv_iload_n hx hb dX5_leastIn_23 rfl (lv_at hl 1 rfl) ?_
        have b24 := y4 (j + 1) (by omega) (by omega)
        refine lv_icmp_ne (tgt := 55) hx hb dX5_leastIn_24 (by decide) (fun c24 => ?_) (fun c24 => ?_)
        · replace c24 : ¬ kN μ 6 (j + 1) = p9 := fun q9 => c24 ((nI_eq (a := kN μ 6 (j + 1)) (b := p9) (by omega) (by omega)).mpr q9)
          refine lv_lload_n hx hb dX5_leastIn_55 rfl (lv_at hl 2 rfl) ?_
          refine lv_lstore_n (lv' := [(2, .long (lgM μ p9 j)), (0, .ref (B 100)), (1, .int (nI p9)), (4, .int (nI (j + 1)))]) hx hb dX5_leastIn_56 rfl hl (by decide) rfl (fun ls hl => ?_)
          refine lv_iinc (v := nI ((j + 1) + 1)) (lv' := [(4, .int (nI ((j + 1) + 1))), (2, .long (lgM μ p9 j)), (0, .ref (B 100)), (1, .int (nI p9))]) hx hb dX5_leastIn_57 hl (k := 3) rfl (show nI (j + 1) + Int32.ofInt 1 = _ from nI_add (j + 1) 1) (by decide) rfl (fun ls hl => ?_)
          refine lv_goto (tgt := 7) hx hb dX5_leastIn_60 (by decide) ?_
          have q7 : (lgM μ p9 j) = (lgM μ p9 (j + 1)) := (by rw [lgM, if_neg (fun q => c24 q.1)])
          replace hl : lv_has ls 5 [(4, .int (nI ((j + 1) + 1))), (2, .long (lgM μ p9 (j + 1))), (0, .ref (B 100)), (1, .int (nI p9))] := (congrArg (lv_has ls 5) (m_lc rfl (m_lc (congrArg Value.long q7) (m_lc rfl (m_lc rfl rfl))))).mp hl
          exact ih7 (j + 1) (by omega) (by omega) _ _ hV hS ls (lv_sub hl [2, 3, 1, 0] rfl)
        · replace c24 : kN μ 6 (j + 1) = p9 := (nI_eq (a := kN μ 6 (j + 1)) (b := p9) (by omega) (by omega)).mp c24
          refine lv_lload_n hx hb dX5_leastIn_27 rfl (lv_at hl 2 rfl) ?_
          refine lv_lconst (v := 0) hx hb dX5_leastIn_28 (by decide) ?_
          refine m_lcmp_lt (tgt := 45) hx hb dX5_leastIn_29 dX5_leastIn_30 (by decide) (fun c30 => ?_) (fun c30 => ?_)
          · refine lv_aload_n hx hb dX5_leastIn_45 rfl (lv_at hl 0 rfl) ?_
            refine m_get (C := RX5) (T := TX5) (N := 34) hx hb hts hi_X5 hown hK hV 8 (v := .ref (B 8)) (g_m8 hM) rfl (by decide) k29 (fun _ h9 => h9) dX5_leastIn_46 ?_
            refine lv_iload hx hb dX5_leastIn_49 (lv_at hl 3 rfl) ?_
            refine m_lald hx hb hK hV 1 (i := nI (j + 1)) (x := (kW μ 8 (j + 1))) (a_m8 hM) rfl (vp_in_nI (by omega) (by omega)) (by rw [nI_clamp (by omega)] <;> rfl) dX5_leastIn_51 ?_
            refine lv_goto (tgt := 56) hx hb dX5_leastIn_52 (by decide) ?_
            refine lv_lstore_n (lv' := [(2, .long (kW μ 8 (j + 1))), (0, .ref (B 100)), (1, .int (nI p9)), (4, .int (nI (j + 1)))]) hx hb dX5_leastIn_56 rfl hl (by decide) rfl (fun ls hl => ?_)
            refine lv_iinc (v := nI ((j + 1) + 1)) (lv' := [(4, .int (nI ((j + 1) + 1))), (2, .long (kW μ 8 (j + 1))), (0, .ref (B 100)), (1, .int (nI p9))]) hx hb dX5_leastIn_57 hl (k := 3) rfl (show nI (j + 1) + Int32.ofInt 1 = _ from nI_add (j + 1) 1) (by decide) rfl (fun ls hl => ?_)
            refine lv_goto (tgt := 7) hx hb dX5_leastIn_60 (by decide) ?_
            have q8 : (kW μ 8 (j + 1)) = (lgM μ p9 (j + 1)) := (by rw [lgM, if_pos ⟨c24, Or.inl c30⟩])
            replace hl : lv_has ls 5 [(4, .int (nI ((j + 1) + 1))), (2, .long (lgM μ p9 (j + 1))), (0, .ref (B 100)), (1, .int (nI p9))] := (congrArg (lv_has ls 5) (m_lc rfl (m_lc (congrArg Value.long q8) (m_lc rfl (m_lc rfl rfl))))).mp hl
            exact ih7 (j + 1) (by omega) (by omega) _ _ hV hS ls (lv_sub hl [2, 3, 1, 0] rfl)
          · refine lv_aload_n hx hb dX5_leastIn_33 rfl (lv_at hl 0 rfl) ?_
            refine m_get (C := RX5) (T := TX5) (N := 34) hx hb hts hi_X5 hown hK hV 8 (v := .ref (B 8)) (g_m8 hM) rfl (by decide) k29 (fun _ h9 => h9) dX5_leastIn_34 ?_
            refine lv_iload hx hb dX5_leastIn_37 (lv_at hl 3 rfl) ?_
            refine m_lald hx hb hK hV 1 (i := nI (j + 1)) (x := (kW μ 8 (j + 1))) (a_m8 hM) rfl (vp_in_nI (by omega) (by omega)) (by rw [nI_clamp (by omega)] <;> rfl) dX5_leastIn_39 ?_
            refine lv_lload_n hx hb dX5_leastIn_40 rfl (lv_at hl 2 rfl) ?_
            refine m_lcmp_ge (tgt := 55) hx hb dX5_leastIn_41 dX5_leastIn_42 (by decide) (fun c42 => ?_) (fun c42 => ?_)
            · refine lv_lload_n hx hb dX5_leastIn_55 rfl (lv_at hl 2 rfl) ?_
              refine lv_lstore_n (lv' := [(2, .long (lgM μ p9 j)), (0, .ref (B 100)), (1, .int (nI p9)), (4, .int (nI (j + 1)))]) hx hb dX5_leastIn_56 rfl hl (by decide) rfl (fun ls hl => ?_)
              refine lv_iinc (v := nI ((j + 1) + 1)) (lv' := [(4, .int (nI ((j + 1) + 1))), (2, .long (lgM μ p9 j)), (0, .ref (B 100)), (1, .int (nI p9))]) hx hb dX5_leastIn_57 hl (k := 3) rfl (show nI (j + 1) + Int32.ofInt 1 = _ from nI_add (j + 1) 1) (by decide) rfl (fun ls hl => ?_)
              refine lv_goto (tgt := 7) hx hb dX5_leastIn_60 (by decide) ?_
              have q9 : (lgM μ p9 j) = (lgM μ p9 (j + 1)) := (by rw [lgM, if_neg (fun q => q.2.elim c30 (Int64.not_lt.mpr c42))])
              replace hl : lv_has ls 5 [(4, .int (nI ((j + 1) + 1))), (2, .long (lgM μ p9 (j + 1))), (0, .ref (B 100)), (1, .int (nI p9))] := (congrArg (lv_has ls 5) (m_lc rfl (m_lc (congrArg Value.long q9) (m_lc rfl (m_lc rfl rfl))))).mp hl
              exact ih7 (j + 1) (by omega) (by omega) _ _ hV hS ls (lv_sub hl [2, 3, 1, 0] rfl)
            · refine lv_aload_n hx hb dX5_leastIn_45 rfl (lv_at hl 0 rfl) ?_
              refine m_get (C := RX5) (T := TX5) (N := 34) hx hb hts hi_X5 hown hK hV 8 (v := .ref (B 8)) (g_m8 hM) rfl (by decide) k29 (fun _ h9 => h9) dX5_leastIn_46 ?_
              refine lv_iload hx hb dX5_leastIn_49 (lv_at hl 3 rfl) ?_
              refine m_lald hx hb hK hV 1 (i := nI (j + 1)) (x := (kW μ 8 (j + 1))) (a_m8 hM) rfl (vp_in_nI (by omega) (by omega)) (by rw [nI_clamp (by omega)] <;> rfl) dX5_leastIn_51 ?_
              refine lv_goto (tgt := 56) hx hb dX5_leastIn_52 (by decide) ?_
              refine lv_lstore_n (lv' := [(2, .long (kW μ 8 (j + 1))), (0, .ref (B 100)), (1, .int (nI p9)), (4, .int (nI (j + 1)))]) hx hb dX5_leastIn_56 rfl hl (by decide) rfl (fun ls hl => ?_)
              refine lv_iinc (v := nI ((j + 1) + 1)) (lv' := [(4, .int (nI ((j + 1) + 1))), (2, .long (kW μ 8 (j + 1))), (0, .ref (B 100)), (1, .int (nI p9))]) hx hb dX5_leastIn_57 hl (k := 3) rfl (show nI (j + 1) + Int32.ofInt 1 = _ from nI_add (j + 1) 1) (by decide) rfl (fun ls hl => ?_)
              refine lv_goto (tgt := 7) hx hb dX5_leastIn_60 (by decide) ?_
              have q10 : (kW μ 8 (j + 1)) = (lgM μ p9 (j + 1)) := (by rw [lgM, if_pos ⟨c24, Or.inr (Int64.not_le.mp c42)⟩])
              replace hl : lv_has ls 5 [(4, .int (nI ((j + 1) + 1))), (2, .long (lgM μ p9 (j + 1))), (0, .ref (B 100)), (1, .int (nI p9))] := (congrArg (lv_has ls 5) (m_lc rfl (m_lc (congrArg Value.long q10) (m_lc rfl (m_lc rfl rfl))))).mp hl
              exact ih7 (j + 1) (by omega) (by omega) _ _ hV hS ls (lv_sub hl [2, 3, 1, 0] rfl)
  have q11 : (-1) = (lgM μ p9 0) := rfl
  have q12 : 1 = nI (0 + 1) := rfl
  replace hl : lv_has ls 5 [(4, .int (nI (0 + 1))), (2, .long (lgM μ p9 0)), (0, .ref (B 100)), (1, .int (nI p9))] := (congrArg (lv_has ls 5) (m_lc (congrArg Value.int q12) (m_lc (congrArg Value.long q11) (m_lc rfl (m_lc rfl rfl))))).mp hl
  exact lp7 ((kN μ 9 0 - 0) + 1) 0 (by omega) (Nat.lt_succ_self _) _ _ hV hS ls (lv_sub hl [2, 3, 1, 0] rfl)
