def readyS (σ : KS) (i : Nat) : Bool := decide (kB σ 36 i = false ∧ kO σ 42 i = none ∧ 0 < kI σ 34 i)
set_option maxHeartbeats 4000000 in
set_option maxRecDepth 100000 in
theorem c_X3_isReady {l : Launch} {D : va_G} {cs : mC} {df : Nat} {P : Nat → Prop} {h0 : mH} {L : KL} {σ : KS} {hh : mH} (sz : Nat) (hC : CRep cs df P h0 L σ hh) (i : Nat) (hi : i < kN σ 62 2) : Met l yX3_isReady wsX3_isReady ({ frames := 0, cells := 0, slots := 0, locals := 0 }) (mPre [.ref (L 3 i)] D cs df hh sz) (va_Qi ((fun (r : Int32) (h1 : mH) => h1 = hh ∧ r = bI (readyS σ i))) (mB D hh sz) (mA hh sz)) 0 0 (mA hh sz) := by
  refine Met.ofW (cc := cX3_isReady) (maxL := 1) (ret := (some .boolean)) (by decide) rfl ?_
  intro p e s m args below meth c s₁ B0 hml hv
  obtain ⟨hargs, hsz, hV, hE⟩ := hv
  subst hsz
  have hx := B0.exec
  have hb := B0.bytes
  have hr := B0.returns
  have hlocks := B0.notSynchronized
  have hts := atoms_spec (ws := wsX3_isReady) B0.pre
  have hown : s.vm.findClass RX3 = some m.cls := findClass_of_methodNamed B0.named
  have hK := hE.1.1
  have hA : ∀ q : Nat, s.heap.size ≤ q → mA hh s.heap.size q := mA.top
  have hS : va_S (mA hh s.heap.size) s.heap s.heap [] := va_S.rf
  have hi_X3 : ∀ w ∈ u_ws RX3 TX3 16, w ∈ wsX3_isReady := by decide +kernel
  have k32 : (Cond.fieldLink RX3 32 "TaskKernel$Task" "ended" "Z").before args s = true := hts _ (by decide +kernel)
  have k36 : (Cond.fieldLink RX3 36 "TaskKernel$Task" "awaited" "LTaskKernel$Lock;").before args s = true := hts _ (by decide +kernel)
  have k26 : (Cond.fieldLink RX3 26 "TaskKernel$Task" "left" "I").before args s = true := hts _ (by decide +kernel)
  have hl := lv_entry ([.ref (L 3 i)]) (n := 1) (by first | exact Nat.le_of_ble_eq_true rfl | simp [lg_sl, rf_cat, ct_ref, ct_int, ct_null, ct_long])
  have hent := lg_entry_eq m ([.ref (L 3 i)]) 1
  rw [← hargs] at hent
  rw [hent]
  generalize (lg_sl ([.ref (L 3 i)]) ++ List.replicate (1 - (lg_sl ([.ref (L 3 i)])).length) Slot.unset).toArray = ls at hl ⊢
  replace hl : lv_has ls 1 [(0, .ref (L 3 i))] := hl
  refine lv_aload_n hx hb dX3_isReady_0 rfl (lv_at hl 0 rfl) ?_
  refine m_get (C := RX3) (T := TX3) (N := 16) hx hb hts hi_X3 hown hK hV 6 (v := .int (bI (kB σ 36 i))) (g_task6 hC (by first | assumption | (show i < kN σ 62 2; omega))) rfl (by decide) k32 (fun _ h9 => h9) dX3_isReady_1 ?_
  refine lv_if_ne (tgt := 25) hx hb dX3_isReady_4 (by decide) (fun c4 => ?_) (fun c4 => ?_)
  · replace c4 : kB σ 36 i = true := bI_1.mp c4
    refine lv_iconst (v := 0) hx hb dX3_isReady_25 (by decide) ?_
    exact m_zret (v := 0) hx hb hr hlocks (by decide) hV hS (⟨rfl, by simp [readyS, bI, c4]⟩) dX3_isReady_26
  · replace c4 : kB σ 36 i = false := bI_0.mp c4
    refine lv_aload_n hx hb dX3_isReady_7 rfl (lv_at hl 0 rfl) ?_
    refine m_get (C := RX3) (T := TX3) (N := 16) hx hb hts hi_X3 hown hK hV 12 (v := va_rf ((kO σ 42 i).map (L 4))) (g_task12 hC (by first | assumption | (show i < kN σ 62 2; omega))) rfl (by decide) k36 (fun _ h9 => h9) dX3_isReady_8 ?_
    refine m_ifnonnull_q (o := (kO σ 42 i)) (f := L 4) (tgt := 25) hx hb dX3_isReady_11 (by decide) (fun k11 c11 => ?_) (fun c11 => ?_)
    · have bk11 : k11 < 4 := hC.wf.2.2.2.2.2.2.1 i (by first | assumption | (show i < kN σ 62 2; omega)) _ c11
      refine lv_iconst (v := 0) hx hb dX3_isReady_25 (by decide) ?_
      exact m_zret (v := 0) hx hb hr hlocks (by decide) hV hS (⟨rfl, by simp [readyS, bI, c4, c11]⟩) dX3_isReady_26
    · refine lv_aload_n hx hb dX3_isReady_14 rfl (lv_at hl 0 rfl) ?_
      refine m_get (C := RX3) (T := TX3) (N := 16) hx hb hts hi_X3 hown hK hV 4 (v := .int (kI σ 34 i)) (g_task4 hC (by first | assumption | (show i < kN σ 62 2; omega))) rfl (by decide) k26 (fun _ h9 => h9) dX3_isReady_15 ?_
      refine lv_if_le (tgt := 25) hx hb dX3_isReady_18 (by decide) (fun c18 => ?_) (fun c18 => ?_)
      · refine lv_iconst (v := 0) hx hb dX3_isReady_25 (by decide) ?_
        exact m_zret (v := 0) hx hb hr hlocks (by decide) hV hS (⟨rfl, by simp [readyS, bI, c4, c11, c18]⟩) dX3_isReady_26
      · refine lv_iconst (v := 1) hx hb dX3_isReady_21 (by decide) ?_
        refine lv_goto (tgt := 26) hx hb dX3_isReady_22 (by decide) ?_
        exact m_zret (v := 1) hx hb hr hlocks (by decide) hV hS (⟨rfl, by simp [readyS, bI, c4, c11, c18]⟩) dX3_isReady_26
def ownS (σ : KS) (i : Nat) : Int32 := if 0 < kI σ 37 i ∧ 0 < kI σ 34 i then kI σ 40 i else 2147483647
set_option maxHeartbeats 4000000 in
set_option maxRecDepth 100000 in
theorem c_X3_ownUrgency {l : Launch} {D : va_G} {cs : mC} {df : Nat} {P : Nat → Prop} {h0 : mH} {L : KL} {σ : KS} {hh : mH} (sz : Nat) (hC : CRep cs df P h0 L σ hh) (i : Nat) (hi : i < kN σ 62 2) : Met l yX3_ownUrgency wsX3_ownUrgency ({ frames := 1, cells := 0, slots := 0, locals := 20 }) (mPre [.ref (L 3 i)] D cs df hh sz) (va_Qi ((fun (r : Int32) (h1 : mH) => h1 = hh ∧ r = (ownS σ i))) (mB D hh sz) (mA hh sz)) 0 0 (mA hh sz) := by
  refine Met.ofW (cc := cX3_ownUrgency) (maxL := 1) (ret := (some .int)) (by decide) rfl ?_
  intro p e s m args below meth c s₁ B0 hml hv
  obtain ⟨hargs, hsz, hV, hE⟩ := hv
  subst hsz
  have hx := B0.exec
  have hb := B0.bytes
  have hr := B0.returns
  have hlocks := B0.notSynchronized
  have hts := atoms_spec (ws := wsX3_ownUrgency) B0.pre
  have hown : s.vm.findClass RX3 = some m.cls := findClass_of_methodNamed B0.named
  have hK := hE.1.1
  have hA : ∀ q : Nat, s.heap.size ≤ q → mA hh s.heap.size q := mA.top
  have hS : va_S (mA hh s.heap.size) s.heap s.heap [] := va_S.rf
  have kk47 : (Cond.constant RX3 47 (2147483647)).before args s = true := hts _ (by decide +kernel)
  have hi_X3 : ∀ w ∈ u_ws RX3 TX3 16, w ∈ wsX3_ownUrgency := by decide +kernel
  have k26 : (Cond.fieldLink RX3 26 "TaskKernel$Task" "left" "I").before args s = true := hts _ (by decide +kernel)
  have k44 : (Cond.fieldLink RX3 44 "TaskKernel$Task" "deadline" "I").before args s = true := hts _ (by decide +kernel)
  have hl := lv_entry ([.ref (L 3 i)]) (n := 1) (by first | exact Nat.le_of_ble_eq_true rfl | simp [lg_sl, rf_cat, ct_ref, ct_int, ct_null, ct_long])
  have hent := lg_entry_eq m ([.ref (L 3 i)]) 1
  rw [← hargs] at hent
  rw [hent]
  generalize (lg_sl ([.ref (L 3 i)]) ++ List.replicate (1 - (lg_sl ([.ref (L 3 i)])).length) Slot.unset).toArray = ls at hl ⊢
  replace hl : lv_has ls 1 [(0, .ref (L 3 i))] := hl
  refine lv_aload_n hx hb dX3_ownUrgency_0 rfl (lv_at hl 0 rfl) ?_
  refine m_calli (va_runV (As := []) (rest := []) ⟨hx, hb, hml, hown, hts⟩ (c_X3_isTimed (l := l) (s.heap.size) hC i (by first | assumption | omega)) (cwV 0 hts gX3_ownUrgency_X3_isTimed rfl rfl rfl (by decide +kernel) ⟨by decide, by decide⟩) (m_preV (r := (RX3, TX3, 16)) hE hV hS hA (hC.at (k := 3) (i := i) (by first | assumption | (show i < kN σ 62 2; omega))) rfl) rfl rfl hl.1 rfl (lv_room (by first | exact Nat.le_of_ble_eq_true rfl | simp [rf_cat, ct_ref, ct_int, ct_null, ct_long])) dX3_ownUrgency_1 ⟨by decide, by decide⟩) hV hS hA (fun r h1 H locs hV hS hp _ => ?_)
  obtain ⟨e1, e2⟩ := hp
  subst e2
  rw [e1] at hV; clear e1
  refine lv_if_eq (tgt := 21) hx hb dX3_ownUrgency_4 (by decide) (fun c4 => ?_) (fun c4 => ?_)
  · replace c4 : (decide (0 < kI σ 37 i)) = false := bI_0.mp c4
    refine lv_ldc (v := 2147483647) hx hb hown kk47 dX3_ownUrgency_21 ?_
    exact m_iret (v := 2147483647) hx hb hr hlocks hV hS (⟨rfl, by unfold ownS; rw [if_neg (fun q => of_decide_eq_false c4 q.1)]⟩) dX3_ownUrgency_23
  · replace c4 : (decide (0 < kI σ 37 i)) = true := bI_1.mp c4
    refine lv_aload_n hx hb dX3_ownUrgency_7 rfl (lv_at hl 0 rfl) ?_
    refine m_get (C := RX3) (T := TX3) (N := 16) hx hb hts hi_X3 hown hK hV 4 (v := .int (kI σ 34 i)) (g_task4 hC (by first | assumption | (show i < kN σ 62 2; omega))) rfl (by decide) k26 (fun _ h9 => h9) dX3_ownUrgency_8 ?_
    refine lv_if_le (tgt := 21) hx hb dX3_ownUrgency_11 (by decide) (fun c11 => ?_) (fun c11 => ?_)
    · refine lv_ldc (v := 2147483647) hx hb hown kk47 dX3_ownUrgency_21 ?_
      exact m_iret (v := 2147483647) hx hb hr hlocks hV hS (⟨rfl, by unfold ownS; rw [if_neg (fun q => Int32.not_lt.mpr c11 q.2)]⟩) dX3_ownUrgency_23
    · refine lv_aload_n hx hb dX3_ownUrgency_14 rfl (lv_at hl 0 rfl) ?_
      refine m_get (C := RX3) (T := TX3) (N := 16) hx hb hts hi_X3 hown hK hV 10 (v := .int (kI σ 40 i)) (g_task10 hC (by first | assumption | (show i < kN σ 62 2; omega))) rfl (by decide) k44 (fun _ h9 => h9) dX3_ownUrgency_15 ?_
      refine lv_goto (tgt := 23) hx hb dX3_ownUrgency_18 (by decide) ?_
      exact m_iret (v := (kI σ 40 i)) hx hb hr hlocks hV hS (⟨rfl, by unfold ownS; rw [if_pos ⟨of_decide_eq_true c4, Int32.not_le.mp c11⟩]⟩) dX3_ownUrgency_23
def hbS (σ : KS) (i : Nat) : Option Nat := match kO σ 42 i with
  | none => none
  | some l => kO σ 50 l
set_option maxHeartbeats 4000000 in
set_option maxRecDepth 100000 in
theorem c_X4_holderBefore {l : Launch} {D : va_G} {cs : mC} {df : Nat} {P : Nat → Prop} {h0 : mH} {L : KL} {σ : KS} {hh : mH} (sz : Nat) (hC : CRep cs df P h0 L σ hh) (i : Nat) (hi : i < kN σ 62 2) : Met l yX4_holderBefore wsX4_holderBefore ({ frames := 0, cells := 0, slots := 0, locals := 0 }) (mPre [.ref (L 3 i)] D cs df hh sz) (va_Qq ((fun (r : Option Nat) (h1 : mH) => h1 = hh ∧ r = (((hbS σ i)).map (L 3)))) (mB D hh sz) (mA hh sz)) 0 0 (mA hh sz) := by
  refine Met.ofW (cc := cX4_holderBefore) (maxL := 1) (ret := (some (.object "TaskKernel$Task"))) (by decide) rfl ?_
  intro p e s m args below meth c s₁ B0 hml hv
  obtain ⟨hargs, hsz, hV, hE⟩ := hv
  subst hsz
  have hx := B0.exec
  have hb := B0.bytes
  have hr := B0.returns
  have hlocks := B0.notSynchronized
  have hts := atoms_spec (ws := wsX4_holderBefore) B0.pre
  have hown : s.vm.findClass RX4 = some m.cls := findClass_of_methodNamed B0.named
  have hK := hE.1.1
  have hA : ∀ q : Nat, s.heap.size ≤ q → mA hh s.heap.size q := mA.top
  have hS : va_S (mA hh s.heap.size) s.heap s.heap [] := va_S.rf
  have hi_X3 : ∀ w ∈ u_ws RX3 TX3 16, w ∈ wsX4_holderBefore := by decide +kernel
  have kn183 : va_Nw (.fieldLinkNest RX4 183 "TaskKernel$Task" "awaited" "LTaskKernel$Lock;" "TaskKernel") s := hE.1.2.1 _ (List.mem_of_getElem? (i := 23) rfl)
  have hi_X2 : ∀ w ∈ u_ws RX2 TX2 2, w ∈ wsX4_holderBefore := by decide +kernel
  have kn175 : va_Nw (.fieldLinkNest RX4 175 "TaskKernel$Lock" "holder" "LTaskKernel$Task;" "TaskKernel") s := hE.1.2.1 _ (List.mem_of_getElem? (i := 6) rfl)
  have hl := lv_entry ([.ref (L 3 i)]) (n := 1) (by first | exact Nat.le_of_ble_eq_true rfl | simp [lg_sl, rf_cat, ct_ref, ct_int, ct_null, ct_long])
  have hent := lg_entry_eq m ([.ref (L 3 i)]) 1
  rw [← hargs] at hent
  rw [hent]
  generalize (lg_sl ([.ref (L 3 i)]) ++ List.replicate (1 - (lg_sl ([.ref (L 3 i)])).length) Slot.unset).toArray = ls at hl ⊢
  replace hl : lv_has ls 1 [(0, .ref (L 3 i))] := hl
  refine lv_aload_n hx hb dX4_holderBefore_0 rfl (lv_at hl 0 rfl) ?_
  refine m_getN (C := RX3) (T := TX3) (N := 16) (host := "TaskKernel") hx hb hts hi_X3 hown hK hV 12 (v := va_rf ((kO σ 42 i).map (L 4))) (g_task12 hC (by first | assumption | (show i < kN σ 62 2; omega))) rfl (by decide) kn183 (fun _ h9 => h9) dX4_holderBefore_1 ?_
  refine m_ifnonnull_q (o := (kO σ 42 i)) (f := L 4) (tgt := 11) hx hb dX4_holderBefore_4 (by decide) (fun k4 c4 => ?_) (fun c4 => ?_)
  · have bk4 : k4 < 4 := hC.wf.2.2.2.2.2.2.1 i (by first | assumption | (show i < kN σ 62 2; omega)) _ c4
    refine lv_aload_n hx hb dX4_holderBefore_11 rfl (lv_at hl 0 rfl) ?_
    refine m_getN (C := RX3) (T := TX3) (N := 16) (host := "TaskKernel") hx hb hts hi_X3 hown hK hV 12 (v := .ref (L 4 k4)) ((by have g9 := g_task12 hC (by first | assumption | (show i < kN σ 62 2; omega)); rw [c4] at g9; exact g9)) rfl (by decide) kn183 (fun _ h9 => h9) dX4_holderBefore_12 ?_
    refine m_getN (C := RX2) (T := TX2) (N := 2) (host := "TaskKernel") hx hb hts hi_X2 hown hK hV 0 (v := va_rf ((kO σ 50 k4).map (L 3))) (g_lock0 hC (show k4 < 4 by omega)) rfl (by decide) kn175 (fun _ h9 => h9) dX4_holderBefore_15 ?_
    exact m_aret (v := ((kO σ 50 k4).map (L 3))) hx hb hr hlocks (Or.inl ⟨_, rfl⟩) hV hS (⟨rfl, by simp [hbS, c4]⟩) dX4_holderBefore_18
  · refine lv_null hx hb dX4_holderBefore_7 ?_
    refine lv_goto (tgt := 18) hx hb dX4_holderBefore_8 (by decide) ?_
    exact m_aret (v := none) hx hb hr hlocks (Or.inl ⟨_, rfl⟩) hV hS (⟨rfl, by simp [hbS, c4]⟩) dX4_holderBefore_18
set_option maxHeartbeats 4000000 in
set_option maxRecDepth 100000 in
theorem c_X4_holderOf {l : Launch} (hfl : l.stackTraces = false) {D : va_G} {cs : mC} {df : Nat} {P : Nat → Prop} {h0 : mH} {L : KL} {σ : KS} {hh : mH} (sz : Nat) (hC : CRep cs df P h0 L σ hh) (x0 : Int32) : vx_Met l yX4_holderOf wsX4_holderOf ({ frames := 6, cells := 1, slots := 6, locals := 90 }) (mPre [.ref (L 0 0), .int x0] D cs df hh sz) (va_Qi ((fun (r : Int32) (h1 : mH) => ∃ t, inR x0 (kN σ 62 3) = some t ∧ h1 = hh ∧ r = oI (kO σ 50 t))) (mB D hh sz) (mA hh sz)) (mX D hh sz (fun E h1 => E = "java/lang/IndexOutOfBoundsException" ∧ h1 = hh ∧ inR x0 (kN σ 62 3) = none)) 1 6 (mA hh sz) := by
  refine vx_ofW (cc := cX4_holderOf) (maxL := 3) (ret := (some .int)) (by decide) rfl ?_
  intro p e s m args below meth c s₁ B0 hml hnx hv
  obtain ⟨hargs, hsz, hV, hE⟩ := hv
  subst hsz
  have hx := B0.exec
  have hb := B0.bytes
  have hr := B0.returns
  have hlocks := B0.notSynchronized
  have hts := atoms_spec (ws := wsX4_holderOf) B0.pre
  have hown : s.vm.findClass RX4 = some m.cls := findClass_of_methodNamed B0.named
  have hK := hE.1.1
  have hA : ∀ q : Nat, s.heap.size ≤ q → mA hh s.heap.size q := mA.top
  have hS : va_S (mA hh s.heap.size) s.heap s.heap [] := va_S.rf
  have hi_X2 : ∀ w ∈ u_ws RX2 TX2 2, w ∈ wsX4_holderOf := by decide +kernel
  have kn175 : va_Nw (.fieldLinkNest RX4 175 "TaskKernel$Lock" "holder" "LTaskKernel$Task;" "TaskKernel") s := hE.1.2.1 _ (List.mem_of_getElem? (i := 6) rfl)
  have kc91 : (Cond.classLink RX4 91 "java/lang/IndexOutOfBoundsException").before args s = true := hts _ (by decide +kernel)
  have hl := lv_entry ([.ref (L 0 0), .int x0]) (n := 3) (by first | exact Nat.le_of_ble_eq_true rfl | simp [lg_sl, rf_cat, ct_ref, ct_int, ct_null, ct_long])
  have hent := lg_entry_eq m ([.ref (L 0 0), .int x0]) 3
  rw [← hargs] at hent
  rw [hent]
  generalize (lg_sl ([.ref (L 0 0), .int x0]) ++ List.replicate (3 - (lg_sl ([.ref (L 0 0), .int x0])).length) Slot.unset).toArray = ls at hl ⊢
  replace hl : lv_has ls 3 [(0, .ref (L 0 0)), (1, .int x0)] := hl
  have hwf := hC.wf
  obtain ⟨⟨z0, z1, z2, z3, z4⟩, z5, z6, z7, z8, z9, z10, z11, z12⟩ := hwf
  refine lv_aload_n hx hb dX4_holderOf_0 rfl (lv_at hl 0 rfl) ?_
  refine lv_iload_n hx hb dX4_holderOf_1 rfl (lv_at hl 1 rfl) ?_
  refine m_callq (va_runV (As := [.int x0]) (rest := []) ⟨hx, hb, hml, hown, hts⟩ (c_X4_lockAt (l := l) (s.heap.size) hC x0) (cwV 1 hts gX4_holderOf_X4_lockAt rfl rfl rfl (by decide +kernel) ⟨by decide, by decide⟩) (m_preV (r := (RX4, TX4, 11)) hE hV hS hA (hC.at (k := 0) (i := 0) rfl) rfl) rfl rfl hl.1 rfl (lv_room (by first | exact Nat.le_of_ble_eq_true rfl | simp [rf_cat, ct_ref, ct_int, ct_null, ct_long])) dX4_holderOf_2 ⟨by decide, by decide⟩) hV hS hA (fun r h1 H locs hV hS hp _ => ?_)
  obtain ⟨e1, e2⟩ := hp
  subst e2
  rw [e1] at hV; clear e1
  refine m_astore_nq (lv' := [(2, va_rf (((inR x0 (kN σ 62 3))).map (L 4))), (0, .ref (L 0 0)), (1, .int x0)]) hx hb dX4_holderOf_5 rfl hl (by decide) (by first | rfl | simp [rf_cat]) (fun ls hl => ?_)
  refine m_aload_nq hx hb dX4_holderOf_6 rfl (lv_at hl 0 rfl) ?_
  refine m_ifnonnull_q (o := (inR x0 (kN σ 62 3))) (f := L 4) (tgt := 20) hx hb dX4_holderOf_7 (by decide) (fun k7 c7 => ?_) (fun c7 => ?_)
  · have bk7 := (inR_some c7).2
    replace hl : lv_has ls 3 [(2, .ref (L 4 k7)), (0, .ref (L 0 0)), (1, .int x0)] := by have h9 := hl; rw [c7] at h9; exact h9
    refine lv_aload_n hx hb dX4_holderOf_20 rfl (lv_at hl 0 rfl) ?_
    refine m_getN (C := RX2) (T := TX2) (N := 2) (host := "TaskKernel") hx hb hts hi_X2 hown hK hV 0 (v := va_rf ((kO σ 50 k7).map (L 3))) (g_lock0 hC (show k7 < 4 by omega)) rfl (by decide) kn175 (fun _ h9 => h9) dX4_holderOf_21 ?_
    refine m_calli (va_runS (As := [va_rf ((kO σ 50 k7).map (L 3))]) (rest := []) ⟨hx, hb, hml, hown, hts⟩ (c_X4_numberOf (l := l) (H.size) hC (kO σ 50 k7) (hC.wf.2.2.2.2.2.2.2.2 k7 (by omega))) (va_cwS 1 hts gX4_holderOf_X4_numberOf rfl rfl rfl (by decide +kernel) ⟨by decide, by decide⟩) (m_preS hE hV hS hA) rfl rfl hl.1 rfl (lv_room (by first | exact Nat.le_of_ble_eq_true rfl | simp [rf_cat, ct_ref, ct_int, ct_null, ct_long])) dX4_holderOf_24 ⟨by decide, by decide⟩) hV hS hA (fun r h1 H locs hV hS hp _ => ?_)
    obtain ⟨e1, e2⟩ := hp
    subst e2
    rw [e1] at hV; clear e1
    refine W.widen (k := 1) (n := 6) (by decide) (by first | decide | omega) ?_
    exact vx_ret (m_iret (v := oI (kO σ 50 k7)) hx hb hr hlocks hV hS (⟨k7, c7, rfl, rfl⟩) dX4_holderOf_27)
  · replace hl : lv_has ls 3 [(2, .null), (0, .ref (L 0 0)), (1, .int x0)] := by have h9 := hl; rw [c7] at h9; exact h9
    exact m_throw hx hb hfl (own := RX4) (cls := "java/lang/IndexOutOfBoundsException") (text := "there is no such lock") (names := ["java/lang/RuntimeException", "java/lang/Exception"]) (ik := 91) (is := 232) (ic := 95) hown (by decide) (by decide) kc91 (hts _ (by decide +kernel)) (hE.1.2.2.2.1 _ (List.mem_of_getElem? (i := 16) rfl)) (m_hat hE (by decide +kernel) hts) (by decide +kernel) hE hV hS (by rw [hml]; exact hl.1) dX4_holderOf_10 dX4_holderOf_13 dX4_holderOf_14 dX4_holderOf_16 dX4_holderOf_19 hnx (by decide) (by decide) (by decide) (by decide) hlocks (⟨rfl, rfl, c7⟩) (by decide) (by decide)
def sumI (f : Nat → Int32) : Nat → Int32
  | 0 => 0
  | n + 1 => sumI f n + f n
set_option maxHeartbeats 4000000 in
set_option maxRecDepth 100000 in
theorem c_X4_admitted {l : Launch} {D : va_G} {cs : mC} {df : Nat} {P : Nat → Prop} {h0 : mH} {L : KL} {σ : KS} {hh : mH} (sz : Nat) (hC : CRep cs df P h0 L σ hh)  : Met l yX4_admitted wsX4_admitted ({ frames := 3, cells := 0, slots := 0, locals := 64 }) (mPre [.ref (L 0 0)] D cs df hh sz) (va_Qi ((fun (r : Int32) (h1 : mH) => h1 = hh ∧ r = (sumI (fun t => if kB σ 36 t = true then 0 else kI σ 39 t) (kN σ 62 2)))) (mB D hh sz) (mA hh sz)) 0 0 (mA hh sz) := by
  refine Met.ofW (cc := cX4_admitted) (maxL := 4) (ret := (some .int)) (by decide) rfl ?_
  intro p e s m args below meth c s₁ B0 hml hv
  obtain ⟨hargs, hsz, hV, hE⟩ := hv
  subst hsz
  have hx := B0.exec
  have hb := B0.bytes
  have hr := B0.returns
  have hlocks := B0.notSynchronized
  have hts := atoms_spec (ws := wsX4_admitted) B0.pre
  have hown : s.vm.findClass RX4 = some m.cls := findClass_of_methodNamed B0.named
  have hK := hE.1.1
  have hA : ∀ q : Nat, s.heap.size ≤ q → mA hh s.heap.size q := mA.top
  have hS : va_S (mA hh s.heap.size) s.heap s.heap [] := va_S.rf
  have hi_X4 : ∀ w ∈ u_ws RX4 TX4 11, w ∈ wsX4_admitted := by decide +kernel
  have k21 : (Cond.fieldLink RX4 21 "TaskKernel" "tasks" "Ljava/util/ArrayList;").before args s = true := hts _ (by decide +kernel)
  have kc121 : (Cond.classLink RX4 121 "TaskKernel$Task").before args s = true := hts _ (by decide +kernel)
  have hi_X3 : ∀ w ∈ u_ws RX3 TX3 16, w ∈ wsX4_admitted := by decide +kernel
  have kn158 : va_Nw (.fieldLinkNest RX4 158 "TaskKernel$Task" "ended" "Z" "TaskKernel") s := hE.1.2.1 _ (List.mem_of_getElem? (i := 17) rfl)
  have kn143 : va_Nw (.fieldLinkNest RX4 143 "TaskKernel$Task" "share" "I" "TaskKernel") s := hE.1.2.1 _ (List.mem_of_getElem? (i := 20) rfl)
  have hl := lv_entry ([.ref (L 0 0)]) (n := 4) (by first | exact Nat.le_of_ble_eq_true rfl | simp [lg_sl, rf_cat, ct_ref, ct_int, ct_null, ct_long])
  have hent := lg_entry_eq m ([.ref (L 0 0)]) 4
  rw [← hargs] at hent
  rw [hent]
  generalize (lg_sl ([.ref (L 0 0)]) ++ List.replicate (4 - (lg_sl ([.ref (L 0 0)])).length) Slot.unset).toArray = ls at hl ⊢
  replace hl : lv_has ls 4 [(0, .ref (L 0 0))] := hl
  have hwf := hC.wf
  obtain ⟨⟨z0, z1, z2, z3, z4⟩, z5, z6, z7, z8, z9, z10, z11, z12⟩ := hwf
  refine lv_iconst (v := 0) hx hb dX4_admitted_0 (by decide) ?_
  refine lv_istore_n (lv' := [(1, .int 0), (0, .ref (L 0 0))]) hx hb dX4_admitted_1 rfl hl (by decide) rfl (fun ls hl => ?_)
  refine lv_iconst (v := 0) hx hb dX4_admitted_2 (by decide) ?_
  refine lv_istore_n (lv' := [(2, .int 0), (1, .int 0), (0, .ref (L 0 0))]) hx hb dX4_admitted_3 rfl hl (by decide) rfl (fun ls hl => ?_)
  have lp4 : ∀ (fu : Nat) (i : Nat), (i ≤ kN σ 62 2) → kN σ 62 2 - i < fu → ∀ (H : Heap) (locs : List Loc), mV D hh (mA hh s.heap.size) H → va_S (mA hh s.heap.size) s.heap H locs → ∀ (ls : Array Slot), lv_has ls 4 [(0, .ref (L 0 0)), (1, .int (sumI (fun t => if kB σ 36 t = true then 0 else kI σ 39 t) i)), (2, .int (nI i))] → W p l e ({ frames := 3, cells := 0, slots := 0, locals := 64 } : Room) s m args below meth c H locs 0 0 (MQ below (va_Qi ((fun (r : Int32) (h1 : mH) => h1 = hh ∧ r = (sumI (fun t => if kB σ 36 t = true then 0 else kI σ 39 t) (kN σ 62 2)))) (mB D hh s.heap.size) (mA hh s.heap.size)) args s 0 0 (mA hh s.heap.size)) (F0 m 4 ls []) := by
    intro fu
    induction fu with
    | zero =>
      intro i hi hfu
      exact absurd hfu (Nat.not_lt_zero _)
    | succ fu ih4 =>
      intro i hi hfu H locs hV hS ls hl
      refine lv_iload_n hx hb dX4_admitted_4 rfl (lv_at hl 2 rfl) ?_
      refine lv_aload_n hx hb dX4_admitted_5 rfl (lv_at hl 0 rfl) ?_
      refine m_get (C := RX4) (T := TX4) (N := 11) hx hb hts hi_X4 hown hK hV 2 (v := .ref (L 5 2)) (g_kern2 hC rfl) rfl (by decide) k21 (fun _ h9 => h9) dX4_admitted_6 ?_
      refine m_calli (va_runV (As := []) (rest := [.int (nI i)]) ⟨hx, hb, hml, hown, hts⟩ (l_size (H.size) hC 2 (by decide)) (cwV 0 hts gX4_admitted_Jx4a65c_size_8abf5 rfl rfl rfl (by decide +kernel) ⟨by decide, by decide⟩) (m_preV (r := (RJx4a65c, TJx4a65c, 3)) hE hV hS hA (CRep.atL hC (j := 2) (by decide)) rfl) rfl rfl hl.1 rfl (lv_room (by first | exact Nat.le_of_ble_eq_true rfl | simp [rf_cat, ct_ref, ct_int, ct_null, ct_long])) dX4_admitted_9 ⟨by decide, by decide⟩) hV hS hA (fun r h1 H locs hV hS hp _ => ?_)
      obtain ⟨e1, e2⟩ := hp
      subst e2
      rw [e1] at hV; clear e1
      refine lv_icmp_ge (tgt := 47) hx hb dX4_admitted_12 (by decide) (fun c12 => ?_) (fun c12 => ?_)
      · replace c12 : kN σ 62 2 ≤ i := (nI_leI (a := kN σ 62 2) (b := i) (by omega) (by omega)).mp c12
        refine lv_iload_n hx hb dX4_admitted_47 rfl (lv_at hl 1 rfl) ?_
        exact m_iret (v := (sumI (fun t => if kB σ 36 t = true then 0 else kI σ 39 t) i)) hx hb hr hlocks hV hS (⟨rfl, by rw [show i = kN σ 62 2 by omega]⟩) dX4_admitted_48
      · replace c12 : ¬ kN σ 62 2 ≤ i := fun q9 => c12 ((nI_leI (a := kN σ 62 2) (b := i) (by omega) (by omega)).mpr q9)
        refine lv_aload_n hx hb dX4_admitted_15 rfl (lv_at hl 0 rfl) ?_
        refine m_get (C := RX4) (T := TX4) (N := 11) hx hb hts hi_X4 hown hK hV 2 (v := .ref (L 5 2)) (g_kern2 hC rfl) rfl (by decide) k21 (fun _ h9 => h9) dX4_admitted_16 ?_
        refine lv_iload_n hx hb dX4_admitted_19 rfl (lv_at hl 2 rfl) ?_
        refine m_callq (va_runV (As := [.int (nI i)]) (rest := []) ⟨hx, hb, hml, hown, hts⟩ (l_get2 (H.size) hC i (by first | assumption | omega)) (cwV 1 hts gX4_admitted_Jx4a65c_get_915e3 rfl rfl rfl (by decide +kernel) ⟨by decide, by decide⟩) (m_preV (r := (RJx4a65c, TJx4a65c, 3)) hE hV hS hA (CRep.atL hC (j := 2) (by decide)) rfl) rfl rfl hl.1 rfl (lv_room (by first | exact Nat.le_of_ble_eq_true rfl | simp [rf_cat, ct_ref, ct_int, ct_null, ct_long])) dX4_admitted_20 ⟨by decide, by decide⟩) hV hS hA (fun r h1 H locs hV hS hp _ => ?_)
        obtain ⟨e1, e2⟩ := hp
        subst e2
        rw [e1] at hV; clear e1
        refine m_cast (r := (RX3, TX3, 16)) hx hb hE hV (hC.at (k := 3) (i := i) (by first | assumption | (show i < kN σ 62 2; omega))) rfl hown kc121 dX4_admitted_23 ?_
        refine lv_astore_n (lv' := [(3, .ref (L 3 i)), (0, .ref (L 0 0)), (1, .int (sumI (fun t => if kB σ 36 t = true then 0 else kI σ 39 t) i)), (2, .int (nI i))]) hx hb dX4_admitted_26 rfl hl (by decide) rfl (fun ls hl => ?_)
        refine lv_aload_n hx hb dX4_admitted_27 rfl (lv_at hl 0 rfl) ?_
        refine m_getN (C := RX3) (T := TX3) (N := 16) (host := "TaskKernel") hx hb hts hi_X3 hown hK hV 6 (v := .int (bI (kB σ 36 i))) (g_task6 hC (by first | assumption | (show i < kN σ 62 2; omega))) rfl (by decide) kn158 (fun _ h9 => h9) dX4_admitted_28 ?_
        refine lv_if_ne (tgt := 41) hx hb dX4_admitted_31 (by decide) (fun c31 => ?_) (fun c31 => ?_)
        · replace c31 : kB σ 36 i = true := bI_1.mp c31
          refine lv_iinc (v := nI (i + 1)) (lv' := [(2, .int (nI (i + 1))), (3, .ref (L 3 i)), (0, .ref (L 0 0)), (1, .int (sumI (fun t => if kB σ 36 t = true then 0 else kI σ 39 t) i))]) hx hb dX4_admitted_41 hl (k := 3) rfl (show nI i + Int32.ofInt 1 = _ from nI_add i 1) (by decide) rfl (fun ls hl => ?_)
          refine lv_goto (tgt := 4) hx hb dX4_admitted_44 (by decide) ?_
          have q1 : (sumI (fun t => if kB σ 36 t = true then 0 else kI σ 39 t) i) = (sumI (fun t => if kB σ 36 t = true then 0 else kI σ 39 t) (i + 1)) := by simp [sumI, c31]
          replace hl : lv_has ls 4 [(2, .int (nI (i + 1))), (3, .ref (L 3 i)), (0, .ref (L 0 0)), (1, .int (sumI (fun t => if kB σ 36 t = true then 0 else kI σ 39 t) (i + 1)))] := (congrArg (lv_has ls 4) (m_lc rfl (m_lc rfl (m_lc rfl (m_lc (congrArg Value.int q1) rfl))))).mp hl
          exact ih4 (i + 1) (by omega) (by omega) _ _ hV hS ls (lv_sub hl [2, 3, 0] rfl)
        · replace c31 : kB σ 36 i = false := bI_0.mp c31
          refine lv_iload_n hx hb dX4_admitted_34 rfl (lv_at hl 2 rfl) ?_
          refine lv_aload_n hx hb dX4_admitted_35 rfl (lv_at hl 0 rfl) ?_
          refine m_getN (C := RX3) (T := TX3) (N := 16) (host := "TaskKernel") hx hb hts hi_X3 hown hK hV 9 (v := .int (kI σ 39 i)) (g_task9 hC (by first | assumption | (show i < kN σ 62 2; omega))) rfl (by decide) kn143 (fun _ h9 => h9) dX4_admitted_36 ?_
          refine lv_iadd hx hb dX4_admitted_39 ?_
          refine lv_istore_n (lv' := [(1, .int ((sumI (fun t => if kB σ 36 t = true then 0 else kI σ 39 t) i) + (kI σ 39 i))), (3, .ref (L 3 i)), (0, .ref (L 0 0)), (2, .int (nI i))]) hx hb dX4_admitted_40 rfl hl (by decide) rfl (fun ls hl => ?_)
          refine lv_iinc (v := nI (i + 1)) (lv' := [(2, .int (nI (i + 1))), (1, .int ((sumI (fun t => if kB σ 36 t = true then 0 else kI σ 39 t) i) + (kI σ 39 i))), (3, .ref (L 3 i)), (0, .ref (L 0 0))]) hx hb dX4_admitted_41 hl (k := 3) rfl (show nI i + Int32.ofInt 1 = _ from nI_add i 1) (by decide) rfl (fun ls hl => ?_)
          refine lv_goto (tgt := 4) hx hb dX4_admitted_44 (by decide) ?_
          have q2 : ((sumI (fun t => if kB σ 36 t = true then 0 else kI σ 39 t) i) + (kI σ 39 i)) = (sumI (fun t => if kB σ 36 t = true then 0 else kI σ 39 t) (i + 1)) := by simp [sumI, c31]
          replace hl : lv_has ls 4 [(2, .int (nI (i + 1))), (1, .int (sumI (fun t => if kB σ 36 t = true then 0 else kI σ 39 t) (i + 1))), (3, .ref (L 3 i)), (0, .ref (L 0 0))] := (congrArg (lv_has ls 4) (m_lc rfl (m_lc (congrArg Value.int q2) (m_lc rfl (m_lc rfl rfl))))).mp hl
          exact ih4 (i + 1) (by omega) (by omega) _ _ hV hS ls (lv_sub hl [3, 1, 0] rfl)
  have q3 : 0 = (sumI (fun t => if kB σ 36 t = true then 0 else kI σ 39 t) 0) := rfl
  have q4 : 0 = nI 0 := rfl
  replace hl : lv_has ls 4 [(2, .int (nI 0)), (1, .int (sumI (fun t => if kB σ 36 t = true then 0 else kI σ 39 t) 0)), (0, .ref (L 0 0))] := (congrArg (lv_has ls 4) (m_lc (congrArg Value.int q4) (m_lc (congrArg Value.int q3) (m_lc rfl rfl)))).mp hl
  exact lp4 ((kN σ 62 2 - 0) + 1) 0 (Nat.zero_le _) (Nat.lt_succ_self _) _ _ hV hS ls (lv_sub hl [2, 1, 0] rfl)
set_option maxHeartbeats 4000000 in
set_option maxRecDepth 100000 in
theorem c_X4_promise {l : Launch} {D : va_G} {cs : mC} {df : Nat} {P : Nat → Prop} {h0 : mH} {L : KL} {σ : KS} {hh : mH} (sz : Nat) (hC : CRep cs df P h0 L σ hh)  : Met l yX4_promise wsX4_promise ({ frames := 3, cells := 0, slots := 0, locals := 64 }) (mPre [.ref (L 0 0)] D cs df hh sz) (va_Qi ((fun (r : Int32) (h1 : mH) => h1 = hh ∧ r = (if kI σ 1 0 < sumI (fun t => kI σ 10 t) (kN σ 62 0) then kI σ 1 0 else sumI (fun t => kI σ 10 t) (kN σ 62 0)))) (mB D hh sz) (mA hh sz)) 0 0 (mA hh sz) := by
  refine Met.ofW (cc := cX4_promise) (maxL := 3) (ret := (some .int)) (by decide) rfl ?_
  intro p e s m args below meth c s₁ B0 hml hv
  obtain ⟨hargs, hsz, hV, hE⟩ := hv
  subst hsz
  have hx := B0.exec
  have hb := B0.bytes
  have hr := B0.returns
  have hlocks := B0.notSynchronized
  have hts := atoms_spec (ws := wsX4_promise) B0.pre
  have hown : s.vm.findClass RX4 = some m.cls := findClass_of_methodNamed B0.named
  have hK := hE.1.1
  have hA : ∀ q : Nat, s.heap.size ≤ q → mA hh s.heap.size q := mA.top
  have hS : va_S (mA hh s.heap.size) s.heap s.heap [] := va_S.rf
  have hi_X4 : ∀ w ∈ u_ws RX4 TX4 11, w ∈ wsX4_promise := by decide +kernel
  have k12 : (Cond.fieldLink RX4 12 "TaskKernel" "cores" "Ljava/util/ArrayList;").before args s = true := hts _ (by decide +kernel)
  have k40 : (Cond.fieldLink RX4 40 "TaskKernel" "powerCap" "I").before args s = true := hts _ (by decide +kernel)
  have kc78 : (Cond.classLink RX4 78 "TaskKernel$Core").before args s = true := hts _ (by decide +kernel)
  have hi_X0 : ∀ w ∈ u_ws RX0 TX0 3, w ∈ wsX4_promise := by decide +kernel
  have kn202 : va_Nw (.fieldLinkNest RX4 202 "TaskKernel$Core" "speed" "I" "TaskKernel") s := hE.1.2.1 _ (List.mem_of_getElem? (i := 8) rfl)
  have hl := lv_entry ([.ref (L 0 0)]) (n := 3) (by first | exact Nat.le_of_ble_eq_true rfl | simp [lg_sl, rf_cat, ct_ref, ct_int, ct_null, ct_long])
  have hent := lg_entry_eq m ([.ref (L 0 0)]) 3
  rw [← hargs] at hent
  rw [hent]
  generalize (lg_sl ([.ref (L 0 0)]) ++ List.replicate (3 - (lg_sl ([.ref (L 0 0)])).length) Slot.unset).toArray = ls at hl ⊢
  replace hl : lv_has ls 3 [(0, .ref (L 0 0))] := hl
  have hwf := hC.wf
  obtain ⟨⟨z0, z1, z2, z3, z4⟩, z5, z6, z7, z8, z9, z10, z11, z12⟩ := hwf
  refine lv_iconst (v := 0) hx hb dX4_promise_0 (by decide) ?_
  refine lv_istore_n (lv' := [(1, .int 0), (0, .ref (L 0 0))]) hx hb dX4_promise_1 rfl hl (by decide) rfl (fun ls hl => ?_)
  refine lv_iconst (v := 0) hx hb dX4_promise_2 (by decide) ?_
  refine lv_istore_n (lv' := [(2, .int 0), (1, .int 0), (0, .ref (L 0 0))]) hx hb dX4_promise_3 rfl hl (by decide) rfl (fun ls hl => ?_)
  have lp4 : ∀ (fu : Nat) (i : Nat), (i ≤ kN σ 62 0) → kN σ 62 0 - i < fu → ∀ (H : Heap) (locs : List Loc), mV D hh (mA hh s.heap.size) H → va_S (mA hh s.heap.size) s.heap H locs → ∀ (ls : Array Slot), lv_has ls 3 [(0, .ref (L 0 0)), (1, .int (sumI (fun t => kI σ 10 t) i)), (2, .int (nI i))] → W p l e ({ frames := 3, cells := 0, slots := 0, locals := 64 } : Room) s m args below meth c H locs 0 0 (MQ below (va_Qi ((fun (r : Int32) (h1 : mH) => h1 = hh ∧ r = (if kI σ 1 0 < sumI (fun t => kI σ 10 t) (kN σ 62 0) then kI σ 1 0 else sumI (fun t => kI σ 10 t) (kN σ 62 0)))) (mB D hh s.heap.size) (mA hh s.heap.size)) args s 0 0 (mA hh s.heap.size)) (F0 m 4 ls []) := by
    intro fu
    induction fu with
    | zero =>
      intro i hi hfu
      exact absurd hfu (Nat.not_lt_zero _)
    | succ fu ih4 =>
      intro i hi hfu H locs hV hS ls hl
      refine lv_iload_n hx hb dX4_promise_4 rfl (lv_at hl 2 rfl) ?_
      refine lv_aload_n hx hb dX4_promise_5 rfl (lv_at hl 0 rfl) ?_
      refine m_get (C := RX4) (T := TX4) (N := 11) hx hb hts hi_X4 hown hK hV 0 (v := .ref (L 5 0)) (g_kern0 hC rfl) rfl (by decide) k12 (fun _ h9 => h9) dX4_promise_6 ?_
      refine m_calli (va_runV (As := []) (rest := [.int (nI i)]) ⟨hx, hb, hml, hown, hts⟩ (l_size (H.size) hC 0 (by decide)) (cwV 0 hts gX4_promise_Jx4a65c_size_8abf5 rfl rfl rfl (by decide +kernel) ⟨by decide, by decide⟩) (m_preV (r := (RJx4a65c, TJx4a65c, 3)) hE hV hS hA (CRep.atL hC (j := 0) (by decide)) rfl) rfl rfl hl.1 rfl (lv_room (by first | exact Nat.le_of_ble_eq_true rfl | simp [rf_cat, ct_ref, ct_int, ct_null, ct_long])) dX4_promise_9 ⟨by decide, by decide⟩) hV hS hA (fun r h1 H locs hV hS hp _ => ?_)
      obtain ⟨e1, e2⟩ := hp
      subst e2
      rw [e1] at hV; clear e1
      refine lv_icmp_ge (tgt := 38) hx hb dX4_promise_12 (by decide) (fun c12 => ?_) (fun c12 => ?_)
      · replace c12 : kN σ 62 0 ≤ i := (nI_leI (a := kN σ 62 0) (b := i) (by omega) (by omega)).mp c12
        refine lv_iload_n hx hb dX4_promise_38 rfl (lv_at hl 1 rfl) ?_
        refine lv_aload_n hx hb dX4_promise_39 rfl (lv_at hl 0 rfl) ?_
        refine m_get (C := RX4) (T := TX4) (N := 11) hx hb hts hi_X4 hown hK hV 6 (v := .int (kI σ 1 0)) (g_kern6 hC rfl) rfl (by decide) k40 (fun _ h9 => h9) dX4_promise_40 ?_
        refine va_mmin hx hb (by rw [hml]; exact hl.1.symm) hown (hts (.methodLink RX4 205 Lib.Math.min.name) (by decide +kernel)) (hts (.static Lib.Math.min.name) (by decide +kernel)) (hts (.initialized "java/lang/Math") (by decide +kernel)) (hts (.code Lib.Math.min.name Lib.Math.min.code 2 (some .int)) (by decide +kernel)) (by decide) (by first | exact Nat.le_of_ble_eq_true rfl | decide | (simp [rf_cat, ct_ref, ct_int, ct_null, ct_long]; done)) (by decide) (by decide) dX4_promise_43 ?_
        exact m_iret (v := (if (kI σ 1 0) < (sumI (fun t => kI σ 10 t) i) then (kI σ 1 0) else (sumI (fun t => kI σ 10 t) i))) hx hb hr hlocks hV hS (⟨rfl, by rw [show i = kN σ 62 0 by omega]⟩) dX4_promise_46
      · replace c12 : ¬ kN σ 62 0 ≤ i := fun q9 => c12 ((nI_leI (a := kN σ 62 0) (b := i) (by omega) (by omega)).mpr q9)
        refine lv_iload_n hx hb dX4_promise_15 rfl (lv_at hl 1 rfl) ?_
        refine lv_aload_n hx hb dX4_promise_16 rfl (lv_at hl 0 rfl) ?_
        refine m_get (C := RX4) (T := TX4) (N := 11) hx hb hts hi_X4 hown hK hV 0 (v := .ref (L 5 0)) (g_kern0 hC rfl) rfl (by decide) k12 (fun _ h9 => h9) dX4_promise_17 ?_
        refine lv_iload_n hx hb dX4_promise_20 rfl (lv_at hl 2 rfl) ?_
        refine m_callq (va_runV (As := [.int (nI i)]) (rest := [.int (sumI (fun t => kI σ 10 t) i)]) ⟨hx, hb, hml, hown, hts⟩ (l_get0 (H.size) hC i (by first | assumption | omega)) (cwV 1 hts gX4_promise_Jx4a65c_get_915e3 rfl rfl rfl (by decide +kernel) ⟨by decide, by decide⟩) (m_preV (r := (RJx4a65c, TJx4a65c, 3)) hE hV hS hA (CRep.atL hC (j := 0) (by decide)) rfl) rfl rfl hl.1 rfl (lv_room (by first | exact Nat.le_of_ble_eq_true rfl | simp [rf_cat, ct_ref, ct_int, ct_null, ct_long])) dX4_promise_21 ⟨by decide, by decide⟩) hV hS hA (fun r h1 H locs hV hS hp _ => ?_)
        obtain ⟨e1, e2⟩ := hp
        subst e2
        rw [e1] at hV; clear e1
        refine m_cast (r := (RX0, TX0, 3)) hx hb hE hV (hC.at (k := 1) (i := i) (by first | assumption | (show i < kN σ 62 0; omega))) rfl hown kc78 dX4_promise_24 ?_
        refine m_getN (C := RX0) (T := TX0) (N := 3) (host := "TaskKernel") hx hb hts hi_X0 hown hK hV 0 (v := .int (kI σ 10 i)) (g_core0 hC (by first | assumption | (show i < kN σ 62 0; omega))) rfl (by decide) kn202 (fun _ h9 => h9) dX4_promise_27 ?_
        refine lv_iadd hx hb dX4_promise_30 ?_
        refine lv_istore_n (lv' := [(1, .int ((sumI (fun t => kI σ 10 t) i) + (kI σ 10 i))), (0, .ref (L 0 0)), (2, .int (nI i))]) hx hb dX4_promise_31 rfl hl (by decide) rfl (fun ls hl => ?_)
        refine lv_iinc (v := nI (i + 1)) (lv' := [(2, .int (nI (i + 1))), (1, .int ((sumI (fun t => kI σ 10 t) i) + (kI σ 10 i))), (0, .ref (L 0 0))]) hx hb dX4_promise_32 hl (k := 2) rfl (show nI i + Int32.ofInt 1 = _ from nI_add i 1) (by decide) rfl (fun ls hl => ?_)
        refine lv_goto (tgt := 4) hx hb dX4_promise_35 (by decide) ?_
        have q1 : ((sumI (fun t => kI σ 10 t) i) + (kI σ 10 i)) = (sumI (fun t => kI σ 10 t) (i + 1)) := by simp [sumI]
        replace hl : lv_has ls 3 [(2, .int (nI (i + 1))), (1, .int (sumI (fun t => kI σ 10 t) (i + 1))), (0, .ref (L 0 0))] := (congrArg (lv_has ls 3) (m_lc rfl (m_lc (congrArg Value.int q1) (m_lc rfl rfl)))).mp hl
        exact ih4 (i + 1) (by omega) (by omega) _ _ hV hS ls (lv_sub hl [2, 1, 0] rfl)
  have q2 : 0 = (sumI (fun t => kI σ 10 t) 0) := rfl
  have q3 : 0 = nI 0 := rfl
  replace hl : lv_has ls 3 [(2, .int (nI 0)), (1, .int (sumI (fun t => kI σ 10 t) 0)), (0, .ref (L 0 0))] := (congrArg (lv_has ls 3) (m_lc (congrArg Value.int q3) (m_lc (congrArg Value.int q2) (m_lc rfl rfl)))).mp hl
  exact lp4 ((kN σ 62 0 - 0) + 1) 0 (Nat.zero_le _) (Nat.lt_succ_self _) _ _ hV hS ls (lv_sub hl [2, 1, 0] rfl)
set_option maxHeartbeats 4000000 in
set_option maxRecDepth 100000 in
theorem c_X4_misses {l : Launch} {D : va_G} {cs : mC} {df : Nat} {P : Nat → Prop} {h0 : mH} {L : KL} {σ : KS} {hh : mH} (sz : Nat) (hC : CRep cs df P h0 L σ hh)  : Met l yX4_misses wsX4_misses ({ frames := 3, cells := 0, slots := 0, locals := 64 }) (mPre [.ref (L 0 0)] D cs df hh sz) (va_Qi ((fun (r : Int32) (h1 : mH) => h1 = hh ∧ r = (sumI (fun t => kI σ 41 t) (kN σ 62 2)))) (mB D hh sz) (mA hh sz)) 0 0 (mA hh sz) := by
  refine Met.ofW (cc := cX4_misses) (maxL := 3) (ret := (some .int)) (by decide) rfl ?_
  intro p e s m args below meth c s₁ B0 hml hv
  obtain ⟨hargs, hsz, hV, hE⟩ := hv
  subst hsz
  have hx := B0.exec
  have hb := B0.bytes
  have hr := B0.returns
  have hlocks := B0.notSynchronized
  have hts := atoms_spec (ws := wsX4_misses) B0.pre
  have hown : s.vm.findClass RX4 = some m.cls := findClass_of_methodNamed B0.named
  have hK := hE.1.1
  have hA : ∀ q : Nat, s.heap.size ≤ q → mA hh s.heap.size q := mA.top
  have hS : va_S (mA hh s.heap.size) s.heap s.heap [] := va_S.rf
  have hi_X4 : ∀ w ∈ u_ws RX4 TX4 11, w ∈ wsX4_misses := by decide +kernel
  have k21 : (Cond.fieldLink RX4 21 "TaskKernel" "tasks" "Ljava/util/ArrayList;").before args s = true := hts _ (by decide +kernel)
  have kc121 : (Cond.classLink RX4 121 "TaskKernel$Task").before args s = true := hts _ (by decide +kernel)
  have hi_X3 : ∀ w ∈ u_ws RX3 TX3 16, w ∈ wsX4_misses := by decide +kernel
  have kn225 : va_Nw (.fieldLinkNest RX4 225 "TaskKernel$Task" "missed" "I" "TaskKernel") s := hE.1.2.1 _ (List.mem_of_getElem? (i := 22) rfl)
  have hl := lv_entry ([.ref (L 0 0)]) (n := 3) (by first | exact Nat.le_of_ble_eq_true rfl | simp [lg_sl, rf_cat, ct_ref, ct_int, ct_null, ct_long])
  have hent := lg_entry_eq m ([.ref (L 0 0)]) 3
  rw [← hargs] at hent
  rw [hent]
  generalize (lg_sl ([.ref (L 0 0)]) ++ List.replicate (3 - (lg_sl ([.ref (L 0 0)])).length) Slot.unset).toArray = ls at hl ⊢
  replace hl : lv_has ls 3 [(0, .ref (L 0 0))] := hl
  have hwf := hC.wf
  obtain ⟨⟨z0, z1, z2, z3, z4⟩, z5, z6, z7, z8, z9, z10, z11, z12⟩ := hwf
  refine lv_iconst (v := 0) hx hb dX4_misses_0 (by decide) ?_
  refine lv_istore_n (lv' := [(1, .int 0), (0, .ref (L 0 0))]) hx hb dX4_misses_1 rfl hl (by decide) rfl (fun ls hl => ?_)
  refine lv_iconst (v := 0) hx hb dX4_misses_2 (by decide) ?_
  refine lv_istore_n (lv' := [(2, .int 0), (1, .int 0), (0, .ref (L 0 0))]) hx hb dX4_misses_3 rfl hl (by decide) rfl (fun ls hl => ?_)
  have lp4 : ∀ (fu : Nat) (i : Nat), (i ≤ kN σ 62 2) → kN σ 62 2 - i < fu → ∀ (H : Heap) (locs : List Loc), mV D hh (mA hh s.heap.size) H → va_S (mA hh s.heap.size) s.heap H locs → ∀ (ls : Array Slot), lv_has ls 3 [(0, .ref (L 0 0)), (1, .int (sumI (fun t => kI σ 41 t) i)), (2, .int (nI i))] → W p l e ({ frames := 3, cells := 0, slots := 0, locals := 64 } : Room) s m args below meth c H locs 0 0 (MQ below (va_Qi ((fun (r : Int32) (h1 : mH) => h1 = hh ∧ r = (sumI (fun t => kI σ 41 t) (kN σ 62 2)))) (mB D hh s.heap.size) (mA hh s.heap.size)) args s 0 0 (mA hh s.heap.size)) (F0 m 4 ls []) := by
    intro fu
    induction fu with
    | zero =>
      intro i hi hfu
      exact absurd hfu (Nat.not_lt_zero _)
    | succ fu ih4 =>
      intro i hi hfu H locs hV hS ls hl
      refine lv_iload_n hx hb dX4_misses_4 rfl (lv_at hl 2 rfl) ?_
      refine lv_aload_n hx hb dX4_misses_5 rfl (lv_at hl 0 rfl) ?_
      refine m_get (C := RX4) (T := TX4) (N := 11) hx hb hts hi_X4 hown hK hV 2 (v := .ref (L 5 2)) (g_kern2 hC rfl) rfl (by decide) k21 (fun _ h9 => h9) dX4_misses_6 ?_
      refine m_calli (va_runV (As := []) (rest := [.int (nI i)]) ⟨hx, hb, hml, hown, hts⟩ (l_size (H.size) hC 2 (by decide)) (cwV 0 hts gX4_misses_Jx4a65c_size_8abf5 rfl rfl rfl (by decide +kernel) ⟨by decide, by decide⟩) (m_preV (r := (RJx4a65c, TJx4a65c, 3)) hE hV hS hA (CRep.atL hC (j := 2) (by decide)) rfl) rfl rfl hl.1 rfl (lv_room (by first | exact Nat.le_of_ble_eq_true rfl | simp [rf_cat, ct_ref, ct_int, ct_null, ct_long])) dX4_misses_9 ⟨by decide, by decide⟩) hV hS hA (fun r h1 H locs hV hS hp _ => ?_)
      obtain ⟨e1, e2⟩ := hp
      subst e2
      rw [e1] at hV; clear e1
      refine lv_icmp_ge (tgt := 38) hx hb dX4_misses_12 (by decide) (fun c12 => ?_) (fun c12 => ?_)
      · replace c12 : kN σ 62 2 ≤ i := (nI_leI (a := kN σ 62 2) (b := i) (by omega) (by omega)).mp c12
        refine lv_iload_n hx hb dX4_misses_38 rfl (lv_at hl 1 rfl) ?_
        exact m_iret (v := (sumI (fun t => kI σ 41 t) i)) hx hb hr hlocks hV hS (⟨rfl, by rw [show i = kN σ 62 2 by omega]⟩) dX4_misses_39
      · replace c12 : ¬ kN σ 62 2 ≤ i := fun q9 => c12 ((nI_leI (a := kN σ 62 2) (b := i) (by omega) (by omega)).mpr q9)
        refine lv_iload_n hx hb dX4_misses_15 rfl (lv_at hl 1 rfl) ?_
        refine lv_aload_n hx hb dX4_misses_16 rfl (lv_at hl 0 rfl) ?_
        refine m_get (C := RX4) (T := TX4) (N := 11) hx hb hts hi_X4 hown hK hV 2 (v := .ref (L 5 2)) (g_kern2 hC rfl) rfl (by decide) k21 (fun _ h9 => h9) dX4_misses_17 ?_
        refine lv_iload_n hx hb dX4_misses_20 rfl (lv_at hl 2 rfl) ?_
        refine m_callq (va_runV (As := [.int (nI i)]) (rest := [.int (sumI (fun t => kI σ 41 t) i)]) ⟨hx, hb, hml, hown, hts⟩ (l_get2 (H.size) hC i (by first | assumption | omega)) (cwV 1 hts gX4_misses_Jx4a65c_get_915e3 rfl rfl rfl (by decide +kernel) ⟨by decide, by decide⟩) (m_preV (r := (RJx4a65c, TJx4a65c, 3)) hE hV hS hA (CRep.atL hC (j := 2) (by decide)) rfl) rfl rfl hl.1 rfl (lv_room (by first | exact Nat.le_of_ble_eq_true rfl | simp [rf_cat, ct_ref, ct_int, ct_null, ct_long])) dX4_misses_21 ⟨by decide, by decide⟩) hV hS hA (fun r h1 H locs hV hS hp _ => ?_)
        obtain ⟨e1, e2⟩ := hp
        subst e2
        rw [e1] at hV; clear e1
        refine m_cast (r := (RX3, TX3, 16)) hx hb hE hV (hC.at (k := 3) (i := i) (by first | assumption | (show i < kN σ 62 2; omega))) rfl hown kc121 dX4_misses_24 ?_
        refine m_getN (C := RX3) (T := TX3) (N := 16) (host := "TaskKernel") hx hb hts hi_X3 hown hK hV 11 (v := .int (kI σ 41 i)) (g_task11 hC (by first | assumption | (show i < kN σ 62 2; omega))) rfl (by decide) kn225 (fun _ h9 => h9) dX4_misses_27 ?_
        refine lv_iadd hx hb dX4_misses_30 ?_
        refine lv_istore_n (lv' := [(1, .int ((sumI (fun t => kI σ 41 t) i) + (kI σ 41 i))), (0, .ref (L 0 0)), (2, .int (nI i))]) hx hb dX4_misses_31 rfl hl (by decide) rfl (fun ls hl => ?_)
        refine lv_iinc (v := nI (i + 1)) (lv' := [(2, .int (nI (i + 1))), (1, .int ((sumI (fun t => kI σ 41 t) i) + (kI σ 41 i))), (0, .ref (L 0 0))]) hx hb dX4_misses_32 hl (k := 2) rfl (show nI i + Int32.ofInt 1 = _ from nI_add i 1) (by decide) rfl (fun ls hl => ?_)
        refine lv_goto (tgt := 4) hx hb dX4_misses_35 (by decide) ?_
        have q1 : ((sumI (fun t => kI σ 41 t) i) + (kI σ 41 i)) = (sumI (fun t => kI σ 41 t) (i + 1)) := by simp [sumI]
        replace hl : lv_has ls 3 [(2, .int (nI (i + 1))), (1, .int (sumI (fun t => kI σ 41 t) (i + 1))), (0, .ref (L 0 0))] := (congrArg (lv_has ls 3) (m_lc rfl (m_lc (congrArg Value.int q1) (m_lc rfl rfl)))).mp hl
        exact ih4 (i + 1) (by omega) (by omega) _ _ hV hS ls (lv_sub hl [2, 1, 0] rfl)
  have q2 : 0 = (sumI (fun t => kI σ 41 t) 0) := rfl
  have q3 : 0 = nI 0 := rfl
  replace hl : lv_has ls 3 [(2, .int (nI 0)), (1, .int (sumI (fun t => kI σ 41 t) 0)), (0, .ref (L 0 0))] := (congrArg (lv_has ls 3) (m_lc (congrArg Value.int q3) (m_lc (congrArg Value.int q2) (m_lc rfl rfl)))).mp hl
  exact lp4 ((kN σ 62 2 - 0) + 1) 0 (Nat.zero_le _) (Nat.lt_succ_self _) _ _ hV hS ls (lv_sub hl [2, 1, 0] rfl)
