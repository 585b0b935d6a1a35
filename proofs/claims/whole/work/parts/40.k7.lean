set_option maxHeartbeats 4000000 in
set_option maxRecDepth 100000 in
theorem c_X4_changeHeat {l : Launch} {D : va_G} {cs : mC} {df : Nat} {P : Nat → Prop} {h0 : mH} {L : KL} {σ : KS} {hh : mH} (sz : Nat) (hC : CRep cs df P h0 L σ hh) (i : Nat) (hi : i < kN σ 62 0) : Met l yX4_changeHeat wsX4_changeHeat ({ frames := 1, cells := 0, slots := 0, locals := 30 }) (mPre [.ref (L 0 0), .ref (L 1 i)] D cs df hh sz) (va_Qv ((fun (h1 : mH) => CRep cs df P h0 L (heatS σ i) h1)) (mB D hh sz) (mA hh sz)) 0 0 (mA hh sz) := by
  refine Met.ofW (cc := cX4_changeHeat) (maxL := 2) (ret := none) (by decide) rfl ?_
  intro p e s m args below meth c s₁ B0 hml hv
  obtain ⟨hargs, hsz, hV, hE⟩ := hv
  subst hsz
  have hx := B0.exec
  have hb := B0.bytes
  have hr := B0.returns
  have hlocks := B0.notSynchronized
  have hts := atoms_spec (ws := wsX4_changeHeat) B0.pre
  have hown : s.vm.findClass RX4 = some m.cls := findClass_of_methodNamed B0.named
  have hK := hE.1.1
  have hA : ∀ q : Nat, s.heap.size ≤ q → mA hh s.heap.size q := mA.top
  have hS : va_S (mA hh s.heap.size) s.heap s.heap [] := va_S.rf
  have hi_X0 : ∀ w ∈ u_ws RX0 TX0 3, w ∈ wsX4_changeHeat := by decide +kernel
  have kn257 : va_Nw (.fieldLinkNest RX4 257 "TaskKernel$Core" "pick" "LTaskKernel$Task;" "TaskKernel") s := hE.1.2.1 _ (List.mem_of_getElem? (i := 10) rfl)
  have kn96 : va_Nw (.fieldLinkNest RX4 96 "TaskKernel$Core" "heat" "I" "TaskKernel") s := hE.1.2.1 _ (List.mem_of_getElem? (i := 9) rfl)
  have hi_X4 : ∀ w ∈ u_ws RX4 TX4 11, w ∈ wsX4_changeHeat := by decide +kernel
  have k36 : (Cond.fieldLink RX4 36 "TaskKernel" "heatLimit" "I").before args s = true := hts _ (by decide +kernel)
  have kq99 : va_Nw (.methodLinkNest RX4 99 yX0_paceUnder "TaskKernel") s := hE.1.2.2.1 _ (List.mem_of_getElem? (i := 7) rfl)
  have hl := lv_entry ([.ref (L 0 0), .ref (L 1 i)]) (n := 2) (by first | exact Nat.le_of_ble_eq_true rfl | simp [lg_sl, rf_cat, ct_ref, ct_int, ct_null, ct_long])
  have hent := lg_entry_eq m ([.ref (L 0 0), .ref (L 1 i)]) 2
  rw [← hargs] at hent
  rw [hent]
  generalize (lg_sl ([.ref (L 0 0), .ref (L 1 i)]) ++ List.replicate (2 - (lg_sl ([.ref (L 0 0), .ref (L 1 i)])).length) Slot.unset).toArray = ls at hl ⊢
  replace hl : lv_has ls 2 [(0, .ref (L 0 0)), (1, .ref (L 1 i))] := hl
  have hwf := hC.wf
  obtain ⟨⟨z0, z1, z2, z3, z4⟩, z5, z6, z7, z8, z9, z10, z11, z12⟩ := hwf
  refine lv_aload_n hx hb dX4_changeHeat_0 rfl (lv_at hl 1 rfl) ?_
  refine m_getN (C := RX0) (T := TX0) (N := 3) (host := "TaskKernel") hx hb hts hi_X0 hown hK hV 2 (v := va_rf ((kO σ 12 i).map (L 3))) (g_core2 hC (by first | assumption | (show i < kN σ 62 0; omega))) rfl (by decide) kn257 (fun _ h9 => h9) dX4_changeHeat_1 ?_
  refine m_ifnull_q (o := (kO σ 12 i)) (f := L 3) (tgt := 27) hx hb dX4_changeHeat_4 (by decide) (fun c4 => ?_) (fun k4 c4 => ?_)
  · refine lv_aload_n hx hb dX4_changeHeat_27 rfl (lv_at hl 1 rfl) ?_
    refine lv_aload_n hx hb dX4_changeHeat_28 rfl (lv_at hl 1 rfl) ?_
    refine m_getN (C := RX0) (T := TX0) (N := 3) (host := "TaskKernel") hx hb hts hi_X0 hown hK hV 1 (v := .int (kI σ 11 i)) (g_core1 hC (by first | assumption | (show i < kN σ 62 0; omega))) rfl (by decide) kn96 (fun _ h9 => h9) dX4_changeHeat_29 ?_
    refine lv_iconst (v := 3) hx hb dX4_changeHeat_32 (by decide) ?_
    refine lv_isub hx hb dX4_changeHeat_33 ?_
    refine lv_iconst (v := 0) hx hb dX4_changeHeat_34 (by decide) ?_
    refine va_mmax hx hb (by rw [hml]; exact hl.1.symm) hown (hts (.methodLink RX4 369 Lib.Math.max.name) (by decide +kernel)) (hts (.static Lib.Math.max.name) (by decide +kernel)) (hts (.initialized "java/lang/Math") (by decide +kernel)) (hts (.code Lib.Math.max.name Lib.Math.max.code 2 (some .int)) (by decide +kernel)) (by decide) (by first | exact Nat.le_of_ble_eq_true rfl | decide | (simp [rf_cat, ct_ref, ct_int, ct_null, ct_long]; done)) (by decide) (by decide) dX4_changeHeat_35 ?_
    refine m_putN (host := "TaskKernel") (C := RX0) (T := TX0) (N := 3) (v := .int (if ((kI σ 11 i) - 3) < 0 then 0 else ((kI σ 11 i) - 3))) hx hb hts hi_X0 tyX0 tyX0_ok nmX0 hown hK hV hS 1 (p_core1 hC (by first | assumption | (show i < kN σ 62 0; omega)) (if ((kI σ 11 i) - 3) < 0 then 0 else ((kI σ 11 i) - 3))) rfl (by decide) kn96 (fun _ h9 => h9) rfl (tyX0_ok 1 (by decide)) rfl rfl dX4_changeHeat_38 (fun h H locs hV hS hC => ?_)
    exact m_vret hx hb hr hlocks hV hS ((by unfold heatS; rw [c4]; exact hC)) dX4_changeHeat_41
  · have bk4 : k4 < kN σ 62 2 := hC.wf.2.2.2.1 i (by first | assumption | (show i < kN σ 62 0; omega)) _ c4
    refine lv_aload_n hx hb dX4_changeHeat_7 rfl (lv_at hl 1 rfl) ?_
    refine lv_dup hx hb dX4_changeHeat_8 rfl ?_
    refine m_getN (C := RX0) (T := TX0) (N := 3) (host := "TaskKernel") hx hb hts hi_X0 hown hK hV 1 (v := .int (kI σ 11 i)) (g_core1 hC (by first | assumption | (show i < kN σ 62 0; omega))) rfl (by decide) kn96 (fun _ h9 => h9) dX4_changeHeat_9 ?_
    refine lv_aload_n hx hb dX4_changeHeat_12 rfl (lv_at hl 1 rfl) ?_
    refine lv_aload_n hx hb dX4_changeHeat_13 rfl (lv_at hl 0 rfl) ?_
    refine m_get (C := RX4) (T := TX4) (N := 11) hx hb hts hi_X4 hown hK hV 5 (v := .int (kI σ 0 0)) (g_kern5 hC rfl) rfl (by decide) k36 (fun _ h9 => h9) dX4_changeHeat_14 ?_
    refine m_calli (va_runVN (As := [.int (kI σ 0 0)]) (rest := [.int (kI σ 11 i), .ref (L 1 i)]) ⟨hx, hb, hml, hown, hts⟩ (c_X0_paceUnder (l := l) (s.heap.size) hC i (kI σ 0 0) (by first | assumption | omega)) ⟨va_cnB 1 hts gX4_changeHeat_X0_paceUnder_n99 rfl rfl rfl kq99 (hts (.initialized RX0) (by decide +kernel)) (by decide +kernel) ⟨by decide, by decide⟩, hts (.instanceMethod yX0_paceUnder) (by decide +kernel), hts (.selects RX0 yX0_paceUnder yX0_paceUnder) (by decide +kernel)⟩ (m_preV (r := (RX0, TX0, 3)) hE hV hS hA (hC.at (k := 1) (i := i) (by first | assumption | (show i < kN σ 62 0; omega))) rfl) rfl rfl hl.1 rfl (lv_room (by first | exact Nat.le_of_ble_eq_true rfl | simp [rf_cat, ct_ref, ct_int, ct_null, ct_long])) dX4_changeHeat_17 ⟨by decide, by decide⟩) hV hS hA (fun r h1 H locs hV hS hp _ => ?_)
    obtain ⟨e1, e2⟩ := hp
    subst e2
    rw [e1] at hV; clear e1
    refine lv_iadd hx hb dX4_changeHeat_20 ?_
    refine m_putN (host := "TaskKernel") (C := RX0) (T := TX0) (N := 3) (v := .int ((kI σ 11 i) + (paceS (kI σ 10 i) (kI σ 11 i) (kI σ 0 0)))) hx hb hts hi_X0 tyX0 tyX0_ok nmX0 hown hK hV hS 1 (p_core1 hC (by first | assumption | (show i < kN σ 62 0; omega)) ((kI σ 11 i) + (paceS (kI σ 10 i) (kI σ 11 i) (kI σ 0 0)))) rfl (by decide) kn96 (fun _ h9 => h9) rfl (tyX0_ok 1 (by decide)) rfl rfl dX4_changeHeat_21 (fun h H locs hV hS hC => ?_)
    refine lv_goto (tgt := 41) hx hb dX4_changeHeat_24 (by decide) ?_
    exact m_vret hx hb hr hlocks hV hS ((by unfold heatS; rw [c4]; exact hC)) dX4_changeHeat_41
set_option maxHeartbeats 4000000 in
set_option maxRecDepth 100000 in
theorem c_X4_doneAddsUp {l : Launch} {D : va_G} {cs : mC} {df : Nat} {P : Nat → Prop} {h0 : mH} {L : KL} {σ : KS} {hh : mH} (sz : Nat) (hC : CRep cs df P h0 L σ hh)  : Met l yX4_doneAddsUp wsX4_doneAddsUp ({ frames := 3, cells := 0, slots := 0, locals := 64 }) (mPre [.ref (L 0 0)] D cs df hh sz) (va_Qi ((fun (r : Int32) (h1 : mH) => h1 = hh ∧ r = bI (decide (sumI (fun t => kI σ 35 t) (kN σ 62 2) = kI σ 24 0)))) (mB D hh sz) (mA hh sz)) 0 0 (mA hh sz) := by
  refine Met.ofW (cc := cX4_doneAddsUp) (maxL := 3) (ret := (some .boolean)) (by decide) rfl ?_
  intro p e s m args below meth c s₁ B0 hml hv
  obtain ⟨hargs, hsz, hV, hE⟩ := hv
  subst hsz
  have hx := B0.exec
  have hb := B0.bytes
  have hr := B0.returns
  have hlocks := B0.notSynchronized
  have hts := atoms_spec (ws := wsX4_doneAddsUp) B0.pre
  have hown : s.vm.findClass RX4 = some m.cls := findClass_of_methodNamed B0.named
  have hK := hE.1.1
  have hA : ∀ q : Nat, s.heap.size ≤ q → mA hh s.heap.size q := mA.top
  have hS : va_S (mA hh s.heap.size) s.heap s.heap [] := va_S.rf
  have hi_X4 : ∀ w ∈ u_ws RX4 TX4 11, w ∈ wsX4_doneAddsUp := by decide +kernel
  have k21 : (Cond.fieldLink RX4 21 "TaskKernel" "tasks" "Ljava/util/ArrayList;").before args s = true := hts _ (by decide +kernel)
  have k32 : (Cond.fieldLink RX4 32 "TaskKernel" "root" "LTaskKernel$Group;").before args s = true := hts _ (by decide +kernel)
  have hi_X1 : ∀ w ∈ u_ws RX1 TX1 6, w ∈ wsX4_doneAddsUp := by decide +kernel
  have kn201 : va_Nw (.fieldLinkNest RX4 201 "TaskKernel$Group" "done" "I" "TaskKernel") s := hE.1.2.1 _ (List.mem_of_getElem? (i := 4) rfl)
  have kc121 : (Cond.classLink RX4 121 "TaskKernel$Task").before args s = true := hts _ (by decide +kernel)
  have hi_X3 : ∀ w ∈ u_ws RX3 TX3 16, w ∈ wsX4_doneAddsUp := by decide +kernel
  have kn198 : va_Nw (.fieldLinkNest RX4 198 "TaskKernel$Task" "done" "I" "TaskKernel") s := hE.1.2.1 _ (List.mem_of_getElem? (i := 16) rfl)
  have hl := lv_entry ([.ref (L 0 0)]) (n := 3) (by first | exact Nat.le_of_ble_eq_true rfl | simp [lg_sl, rf_cat, ct_ref, ct_int, ct_null, ct_long])
  have hent := lg_entry_eq m ([.ref (L 0 0)]) 3
  rw [← hargs] at hent
  rw [hent]
  generalize (lg_sl ([.ref (L 0 0)]) ++ List.replicate (3 - (lg_sl ([.ref (L 0 0)])).length) Slot.unset).toArray = ls at hl ⊢
  replace hl : lv_has ls 3 [(0, .ref (L 0 0))] := hl
  have hwf := hC.wf
  obtain ⟨⟨z0, z1, z2, z3, z4⟩, z5, z6, z7, z8, z9, z10, z11, z12⟩ := hwf
  refine lv_iconst (v := 0) hx hb dX4_doneAddsUp_0 (by decide) ?_
  refine lv_istore_n (lv' := [(1, .int 0), (0, .ref (L 0 0))]) hx hb dX4_doneAddsUp_1 rfl hl (by decide) rfl (fun ls hl => ?_)
  refine lv_iconst (v := 0) hx hb dX4_doneAddsUp_2 (by decide) ?_
  refine lv_istore_n (lv' := [(2, .int 0), (1, .int 0), (0, .ref (L 0 0))]) hx hb dX4_doneAddsUp_3 rfl hl (by decide) rfl (fun ls hl => ?_)
  have lp4 : ∀ (fu : Nat) (i : Nat), (i ≤ kN σ 62 2) → kN σ 62 2 - i < fu → ∀ (H : Heap) (locs : List Loc), mV D hh (mA hh s.heap.size) H → va_S (mA hh s.heap.size) s.heap H locs → ∀ (ls : Array Slot), lv_has ls 3 [(0, .ref (L 0 0)), (1, .int (sumI (fun t => kI σ 35 t) i)), (2, .int (nI i))] → W p l e ({ frames := 3, cells := 0, slots := 0, locals := 64 } : Room) s m args below meth c H locs 0 0 (MQ below (va_Qi ((fun (r : Int32) (h1 : mH) => h1 = hh ∧ r = bI (decide (sumI (fun t => kI σ 35 t) (kN σ 62 2) = kI σ 24 0)))) (mB D hh s.heap.size) (mA hh s.heap.size)) args s 0 0 (mA hh s.heap.size)) (F0 m 4 ls []) := by
    intro fu
    induction fu with
    | zero =>
      intro i hi hfu
      exact absurd hfu (Nat.not_lt_zero _)
    | succ fu ih4 =>
      intro i hi hfu H locs hV hS ls hl
      refine lv_iload_n hx hb dX4_doneAddsUp_4 rfl (lv_at hl 2 rfl) ?_
      refine lv_aload_n hx hb dX4_doneAddsUp_5 rfl (lv_at hl 0 rfl) ?_
      refine m_get (C := RX4) (T := TX4) (N := 11) hx hb hts hi_X4 hown hK hV 2 (v := .ref (L 5 2)) (g_kern2 hC rfl) rfl (by decide) k21 (fun _ h9 => h9) dX4_doneAddsUp_6 ?_
      refine m_calli (va_runV (As := []) (rest := [.int (nI i)]) ⟨hx, hb, hml, hown, hts⟩ (l_size (H.size) hC 2 (by decide)) (cwV 0 hts gX4_doneAddsUp_Jx4a65c_size_8abf5 rfl rfl rfl (by decide +kernel) ⟨by decide, by decide⟩) (m_preV (r := (RJx4a65c, TJx4a65c, 3)) hE hV hS hA (CRep.atL hC (j := 2) (by decide)) rfl) rfl rfl hl.1 rfl (lv_room (by first | exact Nat.le_of_ble_eq_true rfl | simp [rf_cat, ct_ref, ct_int, ct_null, ct_long])) dX4_doneAddsUp_9 ⟨by decide, by decide⟩) hV hS hA (fun r h1 H locs hV hS hp _ => ?_)
      obtain ⟨e1, e2⟩ := hp
      subst e2
      rw [e1] at hV; clear e1
      refine lv_icmp_ge (tgt := 38) hx hb dX4_doneAddsUp_12 (by decide) (fun c12 => ?_) (fun c12 => ?_)
      · replace c12 : kN σ 62 2 ≤ i := (nI_leI (a := kN σ 62 2) (b := i) (by omega) (by omega)).mp c12
        refine lv_iload_n hx hb dX4_doneAddsUp_38 rfl (lv_at hl 1 rfl) ?_
        refine lv_aload_n hx hb dX4_doneAddsUp_39 rfl (lv_at hl 0 rfl) ?_
        refine m_get (C := RX4) (T := TX4) (N := 11) hx hb hts hi_X4 hown hK hV 4 (v := .ref (L 2 0)) (g_kern4 hC rfl) rfl (by decide) k32 (fun _ h9 => h9) dX4_doneAddsUp_40 ?_
        refine m_getN (C := RX1) (T := TX1) (N := 6) (host := "TaskKernel") hx hb hts hi_X1 hown hK hV 4 (v := .int (kI σ 24 0)) (g_grp4 hC (hC.wf.1.2.1)) rfl (by decide) kn201 (fun _ h9 => h9) dX4_doneAddsUp_43 ?_
        refine lv_icmp_ne (tgt := 53) hx hb dX4_doneAddsUp_46 (by decide) (fun c46 => ?_) (fun c46 => ?_)
        · refine lv_iconst (v := 0) hx hb dX4_doneAddsUp_53 (by decide) ?_
          exact m_zret (v := 0) hx hb hr hlocks (by decide) hV hS (⟨rfl, by rw [show i = kN σ 62 2 by omega] at c46; rw [decide_eq_false c46]; rfl⟩) dX4_doneAddsUp_54
        · refine lv_iconst (v := 1) hx hb dX4_doneAddsUp_49 (by decide) ?_
          refine lv_goto (tgt := 54) hx hb dX4_doneAddsUp_50 (by decide) ?_
          exact m_zret (v := 1) hx hb hr hlocks (by decide) hV hS (⟨rfl, by rw [show i = kN σ 62 2 by omega] at c46; rw [decide_eq_true c46]; rfl⟩) dX4_doneAddsUp_54
      · replace c12 : ¬ kN σ 62 2 ≤ i := fun q9 => c12 ((nI_leI (a := kN σ 62 2) (b := i) (by omega) (by omega)).mpr q9)
        refine lv_iload_n hx hb dX4_doneAddsUp_15 rfl (lv_at hl 1 rfl) ?_
        refine lv_aload_n hx hb dX4_doneAddsUp_16 rfl (lv_at hl 0 rfl) ?_
        refine m_get (C := RX4) (T := TX4) (N := 11) hx hb hts hi_X4 hown hK hV 2 (v := .ref (L 5 2)) (g_kern2 hC rfl) rfl (by decide) k21 (fun _ h9 => h9) dX4_doneAddsUp_17 ?_
        refine lv_iload_n hx hb dX4_doneAddsUp_20 rfl (lv_at hl 2 rfl) ?_
        refine m_callq (va_runV (As := [.int (nI i)]) (rest := [.int (sumI (fun t => kI σ 35 t) i)]) ⟨hx, hb, hml, hown, hts⟩ (l_get2 (H.size) hC i (by first | assumption | omega)) (cwV 1 hts gX4_doneAddsUp_Jx4a65c_get_915e3 rfl rfl rfl (by decide +kernel) ⟨by decide, by decide⟩) (m_preV (r := (RJx4a65c, TJx4a65c, 3)) hE hV hS hA (CRep.atL hC (j := 2) (by decide)) rfl) rfl rfl hl.1 rfl (lv_room (by first | exact Nat.le_of_ble_eq_true rfl | simp [rf_cat, ct_ref, ct_int, ct_null, ct_long])) dX4_doneAddsUp_21 ⟨by decide, by decide⟩) hV hS hA (fun r h1 H locs hV hS hp _ => ?_)
        obtain ⟨e1, e2⟩ := hp
        subst e2
        rw [e1] at hV; clear e1
        refine m_cast (r := (RX3, TX3, 16)) hx hb hE hV (hC.at (k := 3) (i := i) (by first | assumption | (show i < kN σ 62 2; omega))) rfl hown kc121 dX4_doneAddsUp_24 ?_
        refine m_getN (C := RX3) (T := TX3) (N := 16) (host := "TaskKernel") hx hb hts hi_X3 hown hK hV 5 (v := .int (kI σ 35 i)) (g_task5 hC (by first | assumption | (show i < kN σ 62 2; omega))) rfl (by decide) kn198 (fun _ h9 => h9) dX4_doneAddsUp_27 ?_
        refine lv_iadd hx hb dX4_doneAddsUp_30 ?_
        refine lv_istore_n (lv' := [(1, .int ((sumI (fun t => kI σ 35 t) i) + (kI σ 35 i))), (0, .ref (L 0 0)), (2, .int (nI i))]) hx hb dX4_doneAddsUp_31 rfl hl (by decide) rfl (fun ls hl => ?_)
        refine lv_iinc (v := nI (i + 1)) (lv' := [(2, .int (nI (i + 1))), (1, .int ((sumI (fun t => kI σ 35 t) i) + (kI σ 35 i))), (0, .ref (L 0 0))]) hx hb dX4_doneAddsUp_32 hl (k := 2) rfl (show nI i + Int32.ofInt 1 = _ from nI_add i 1) (by decide) rfl (fun ls hl => ?_)
        refine lv_goto (tgt := 4) hx hb dX4_doneAddsUp_35 (by decide) ?_
        have q1 : ((sumI (fun t => kI σ 35 t) i) + (kI σ 35 i)) = (sumI (fun t => kI σ 35 t) (i + 1)) := by simp [sumI]
        replace hl : lv_has ls 3 [(2, .int (nI (i + 1))), (1, .int (sumI (fun t => kI σ 35 t) (i + 1))), (0, .ref (L 0 0))] := (congrArg (lv_has ls 3) (m_lc rfl (m_lc (congrArg Value.int q1) (m_lc rfl rfl)))).mp hl
        exact ih4 (i + 1) (by omega) (by omega) _ _ hV hS ls (lv_sub hl [2, 1, 0] rfl)
  have q2 : 0 = (sumI (fun t => kI σ 35 t) 0) := rfl
  have q3 : 0 = nI 0 := rfl
  replace hl : lv_has ls 3 [(2, .int (nI 0)), (1, .int (sumI (fun t => kI σ 35 t) 0)), (0, .ref (L 0 0))] := (congrArg (lv_has ls 3) (m_lc (congrArg Value.int q3) (m_lc (congrArg Value.int q2) (m_lc rfl rfl)))).mp hl
  exact lp4 ((kN σ 62 2 - 0) + 1) 0 (Nat.zero_le _) (Nat.lt_succ_self _) _ _ hV hS ls (lv_sub hl [2, 1, 0] rfl)
set_option maxHeartbeats 4000000 in
set_option maxRecDepth 100000 in
theorem c_X4_noneWaitsForItself {l : Launch} {D : va_G} {cs : mC} {df : Nat} {P : Nat → Prop} {h0 : mH} {L : KL} {σ : KS} {hh : mH} (sz : Nat) (hC : CRep cs df P h0 L σ hh)  : Met l yX4_noneWaitsForItself wsX4_noneWaitsForItself ({ frames := 3, cells := 0, slots := 0, locals := 64 }) (mPre [.ref (L 0 0)] D cs df hh sz) (va_Qi ((fun (r : Int32) (h1 : mH) => h1 = hh ∧ r = bI (decide (∀ t, t < kN σ 62 2 → hbS σ t ≠ some t)))) (mB D hh sz) (mA hh sz)) 0 0 (mA hh sz) := by
  refine Met.ofW (cc := cX4_noneWaitsForItself) (maxL := 3) (ret := (some .boolean)) (by decide) rfl ?_
  intro p e s m args below meth c s₁ B0 hml hv
  obtain ⟨hargs, hsz, hV, hE⟩ := hv
  subst hsz
  have hx := B0.exec
  have hb := B0.bytes
  have hr := B0.returns
  have hlocks := B0.notSynchronized
  have hts := atoms_spec (ws := wsX4_noneWaitsForItself) B0.pre
  have hown : s.vm.findClass RX4 = some m.cls := findClass_of_methodNamed B0.named
  have hK := hE.1.1
  have hA : ∀ q : Nat, s.heap.size ≤ q → mA hh s.heap.size q := mA.top
  have hS : va_S (mA hh s.heap.size) s.heap s.heap [] := va_S.rf
  have hi_X4 : ∀ w ∈ u_ws RX4 TX4 11, w ∈ wsX4_noneWaitsForItself := by decide +kernel
  have k21 : (Cond.fieldLink RX4 21 "TaskKernel" "tasks" "Ljava/util/ArrayList;").before args s = true := hts _ (by decide +kernel)
  have kc121 : (Cond.classLink RX4 121 "TaskKernel$Task").before args s = true := hts _ (by decide +kernel)
  have hi_X3 : ∀ w ∈ u_ws RX3 TX3 16, w ∈ wsX4_noneWaitsForItself := by decide +kernel
  have kn183 : va_Nw (.fieldLinkNest RX4 183 "TaskKernel$Task" "awaited" "LTaskKernel$Lock;" "TaskKernel") s := hE.1.2.1 _ (List.mem_of_getElem? (i := 23) rfl)
  have hi_X2 : ∀ w ∈ u_ws RX2 TX2 2, w ∈ wsX4_noneWaitsForItself := by decide +kernel
  have kn175 : va_Nw (.fieldLinkNest RX4 175 "TaskKernel$Lock" "holder" "LTaskKernel$Task;" "TaskKernel") s := hE.1.2.1 _ (List.mem_of_getElem? (i := 6) rfl)
  have hl := lv_entry ([.ref (L 0 0)]) (n := 3) (by first | exact Nat.le_of_ble_eq_true rfl | simp [lg_sl, rf_cat, ct_ref, ct_int, ct_null, ct_long])
  have hent := lg_entry_eq m ([.ref (L 0 0)]) 3
  rw [← hargs] at hent
  rw [hent]
  generalize (lg_sl ([.ref (L 0 0)]) ++ List.replicate (3 - (lg_sl ([.ref (L 0 0)])).length) Slot.unset).toArray = ls at hl ⊢
  replace hl : lv_has ls 3 [(0, .ref (L 0 0))] := hl
  have hwf := hC.wf
  obtain ⟨⟨z0, z1, z2, z3, z4⟩, z5, z6, z7, z8, z9, z10, z11, z12⟩ := hwf
  refine lv_iconst (v := 0) hx hb dX4_noneWaitsForItself_0 (by decide) ?_
  refine lv_istore_n (lv' := [(1, .int 0), (0, .ref (L 0 0))]) hx hb dX4_noneWaitsForItself_1 rfl hl (by decide) rfl (fun ls hl => ?_)
  have lp2 : ∀ (fu : Nat) (i : Nat), (i ≤ kN σ 62 2) → (∀ t, t < i → hbS σ t ≠ some t) → kN σ 62 2 - i < fu → ∀ (H : Heap) (locs : List Loc), mV D hh (mA hh s.heap.size) H → va_S (mA hh s.heap.size) s.heap H locs → ∀ (ls : Array Slot), lv_has ls 3 [(0, .ref (L 0 0)), (1, .int (nI i))] → W p l e ({ frames := 3, cells := 0, slots := 0, locals := 64 } : Room) s m args below meth c H locs 0 0 (MQ below (va_Qi ((fun (r : Int32) (h1 : mH) => h1 = hh ∧ r = bI (decide (∀ t, t < kN σ 62 2 → hbS σ t ≠ some t)))) (mB D hh s.heap.size) (mA hh s.heap.size)) args s 0 0 (mA hh s.heap.size)) (F0 m 2 ls []) := by
    intro fu
    induction fu with
    | zero =>
      intro i hi hf hfu
      exact absurd hfu (Nat.not_lt_zero _)
    | succ fu ih2 =>
      intro i hi hf hfu H locs hV hS ls hl
      refine lv_iload_n hx hb dX4_noneWaitsForItself_2 rfl (lv_at hl 1 rfl) ?_
      refine lv_aload_n hx hb dX4_noneWaitsForItself_3 rfl (lv_at hl 0 rfl) ?_
      refine m_get (C := RX4) (T := TX4) (N := 11) hx hb hts hi_X4 hown hK hV 2 (v := .ref (L 5 2)) (g_kern2 hC rfl) rfl (by decide) k21 (fun _ h9 => h9) dX4_noneWaitsForItself_4 ?_
      refine m_calli (va_runV (As := []) (rest := [.int (nI i)]) ⟨hx, hb, hml, hown, hts⟩ (l_size (H.size) hC 2 (by decide)) (cwV 0 hts gX4_noneWaitsForItself_Jx4a65c_size_8abf5 rfl rfl rfl (by decide +kernel) ⟨by decide, by decide⟩) (m_preV (r := (RJx4a65c, TJx4a65c, 3)) hE hV hS hA (CRep.atL hC (j := 2) (by decide)) rfl) rfl rfl hl.1 rfl (lv_room (by first | exact Nat.le_of_ble_eq_true rfl | simp [rf_cat, ct_ref, ct_int, ct_null, ct_long])) dX4_noneWaitsForItself_7 ⟨by decide, by decide⟩) hV hS hA (fun r h1 H locs hV hS hp _ => ?_)
      obtain ⟨e1, e2⟩ := hp
      subst e2
      rw [e1] at hV; clear e1
      refine lv_icmp_ge (tgt := 51) hx hb dX4_noneWaitsForItself_10 (by decide) (fun c10 => ?_) (fun c10 => ?_)
      · replace c10 : kN σ 62 2 ≤ i := (nI_leI (a := kN σ 62 2) (b := i) (by omega) (by omega)).mp c10
        refine lv_iconst (v := 1) hx hb dX4_noneWaitsForItself_51 (by decide) ?_
        exact m_zret (v := 1) hx hb hr hlocks (by decide) hV hS (⟨rfl, by rw [decide_eq_true (fun t ht => hf t (by omega))]; rfl⟩) dX4_noneWaitsForItself_52
      · replace c10 : ¬ kN σ 62 2 ≤ i := fun q9 => c10 ((nI_leI (a := kN σ 62 2) (b := i) (by omega) (by omega)).mpr q9)
        refine lv_aload_n hx hb dX4_noneWaitsForItself_13 rfl (lv_at hl 0 rfl) ?_
        refine m_get (C := RX4) (T := TX4) (N := 11) hx hb hts hi_X4 hown hK hV 2 (v := .ref (L 5 2)) (g_kern2 hC rfl) rfl (by decide) k21 (fun _ h9 => h9) dX4_noneWaitsForItself_14 ?_
        refine lv_iload_n hx hb dX4_noneWaitsForItself_17 rfl (lv_at hl 1 rfl) ?_
        refine m_callq (va_runV (As := [.int (nI i)]) (rest := []) ⟨hx, hb, hml, hown, hts⟩ (l_get2 (H.size) hC i (by first | assumption | omega)) (cwV 1 hts gX4_noneWaitsForItself_Jx4a65c_get_915e3 rfl rfl rfl (by decide +kernel) ⟨by decide, by decide⟩) (m_preV (r := (RJx4a65c, TJx4a65c, 3)) hE hV hS hA (CRep.atL hC (j := 2) (by decide)) rfl) rfl rfl hl.1 rfl (lv_room (by first | exact Nat.le_of_ble_eq_true rfl | simp [rf_cat, ct_ref, ct_int, ct_null, ct_long])) dX4_noneWaitsForItself_18 ⟨by decide, by decide⟩) hV hS hA (fun r h1 H locs hV hS hp _ => ?_)
        obtain ⟨e1, e2⟩ := hp
        subst e2
        rw [e1] at hV; clear e1
        refine m_cast (r := (RX3, TX3, 16)) hx hb hE hV (hC.at (k := 3) (i := i) (by first | assumption | (show i < kN σ 62 2; omega))) rfl hown kc121 dX4_noneWaitsForItself_21 ?_
        refine lv_astore_n (lv' := [(2, .ref (L 3 i)), (0, .ref (L 0 0)), (1, .int (nI i))]) hx hb dX4_noneWaitsForItself_24 rfl hl (by decide) rfl (fun ls hl => ?_)
        refine lv_aload_n hx hb dX4_noneWaitsForItself_25 rfl (lv_at hl 0 rfl) ?_
        refine m_getN (C := RX3) (T := TX3) (N := 16) (host := "TaskKernel") hx hb hts hi_X3 hown hK hV 12 (v := va_rf ((kO σ 42 i).map (L 4))) (g_task12 hC (by first | assumption | (show i < kN σ 62 2; omega))) rfl (by decide) kn183 (fun _ h9 => h9) dX4_noneWaitsForItself_26 ?_
        refine m_ifnull_q (o := (kO σ 42 i)) (f := L 4) (tgt := 45) hx hb dX4_noneWaitsForItself_29 (by decide) (fun c29 => ?_) (fun k29 c29 => ?_)
        · refine lv_iinc (v := nI (i + 1)) (lv' := [(1, .int (nI (i + 1))), (2, .ref (L 3 i)), (0, .ref (L 0 0))]) hx hb dX4_noneWaitsForItself_45 hl (k := 2) rfl (show nI i + Int32.ofInt 1 = _ from nI_add i 1) (by decide) rfl (fun ls hl => ?_)
          refine lv_goto (tgt := 2) hx hb dX4_noneWaitsForItself_48 (by decide) ?_
          exact ih2 (i + 1) (by omega) (fun t ht => by
                                        rcases Nat.lt_succ_iff_lt_or_eq.mp ht with h9 | h9
                                        · exact hf t h9
                                        · subst h9; unfold hbS; rw [c29]; exact (fun z => nomatch z)) (by omega) _ _ hV hS ls (lv_sub hl [2, 0] rfl)
        · have bk29 : k29 < 4 := hC.wf.2.2.2.2.2.2.1 i (by first | assumption | (show i < kN σ 62 2; omega)) _ c29
          refine lv_aload_n hx hb dX4_noneWaitsForItself_32 rfl (lv_at hl 0 rfl) ?_
          refine m_getN (C := RX3) (T := TX3) (N := 16) (host := "TaskKernel") hx hb hts hi_X3 hown hK hV 12 (v := .ref (L 4 k29)) ((by have g9 := g_task12 hC (by first | assumption | (show i < kN σ 62 2; omega)); rw [c29] at g9; exact g9)) rfl (by decide) kn183 (fun _ h9 => h9) dX4_noneWaitsForItself_33 ?_
          refine m_getN (C := RX2) (T := TX2) (N := 2) (host := "TaskKernel") hx hb hts hi_X2 hown hK hV 0 (v := va_rf ((kO σ 50 k29).map (L 3))) (g_lock0 hC (show k29 < 4 by omega)) rfl (by decide) kn175 (fun _ h9 => h9) dX4_noneWaitsForItself_36 ?_
          refine lv_aload_n hx hb dX4_noneWaitsForItself_39 rfl (lv_at hl 0 rfl) ?_
          refine lv_acmp_ne (rx := ((kO σ 50 k29).map (L 3))) (ry := (some (L 3 i))) (tgt := 45) hx hb dX4_noneWaitsForItself_40 (by decide) (fun c40 => ?_) (fun c40 => ?_)
          · replace c40 : ¬ kO σ 50 k29 = some i := fun q9 => c40 (((map_inj (f := L 3) (t := i) (fun k9 h9 e9 => (hC.inj (k := 3) (k2 := 3) ((hC.wf.2.2.2.2.2.2.2.2 k29 (show k29 < 4 by omega)) k9 h9) (by first | assumption | (show i < kN σ 62 2; omega)) e9).2)).mpr q9))
            refine lv_iinc (v := nI (i + 1)) (lv' := [(1, .int (nI (i + 1))), (2, .ref (L 3 i)), (0, .ref (L 0 0))]) hx hb dX4_noneWaitsForItself_45 hl (k := 2) rfl (show nI i + Int32.ofInt 1 = _ from nI_add i 1) (by decide) rfl (fun ls hl => ?_)
            refine lv_goto (tgt := 2) hx hb dX4_noneWaitsForItself_48 (by decide) ?_
            exact ih2 (i + 1) (by omega) (fun t ht => by
                                        rcases Nat.lt_succ_iff_lt_or_eq.mp ht with h9 | h9
                                        · exact hf t h9
                                        · subst h9; unfold hbS; rw [c29]; exact c40) (by omega) _ _ hV hS ls (lv_sub hl [2, 0] rfl)
          · replace c40 : kO σ 50 k29 = some i := (map_inj (f := L 3) (t := i) (fun k9 h9 e9 => (hC.inj (k := 3) (k2 := 3) ((hC.wf.2.2.2.2.2.2.2.2 k29 (show k29 < 4 by omega)) k9 h9) (by first | assumption | (show i < kN σ 62 2; omega)) e9).2)).mp c40
            refine lv_iconst (v := 0) hx hb dX4_noneWaitsForItself_43 (by decide) ?_
            exact m_zret (v := 0) hx hb hr hlocks (by decide) hV hS (⟨rfl, by rw [decide_eq_false (fun q => q i (by omega) (by unfold hbS; rw [c29]; exact c40))]; rfl⟩) dX4_noneWaitsForItself_44
  have q1 : 0 = nI 0 := rfl
  replace hl : lv_has ls 3 [(1, .int (nI 0)), (0, .ref (L 0 0))] := (congrArg (lv_has ls 3) (m_lc (congrArg Value.int q1) (m_lc rfl rfl))).mp hl
  exact lp2 ((kN σ 62 2 - 0) + 1) 0 (Nat.zero_le _) (fun t ht => absurd ht (Nat.not_lt_zero _)) (Nat.lt_succ_self _) _ _ hV hS ls (lv_sub hl [1, 0] rfl)
