set_option maxHeartbeats 4000000 in
set_option maxRecDepth 100000 in
theorem c_X4_lendAlong {l : Launch} {D : va_G} {cs : mC} {df : Nat} {P : Nat → Prop} {h0 : mH} {L : KL} {σ : KS} {hh : mH} (sz : Nat) (hC : CRep cs df P h0 L σ hh) (t : Nat) (x0 : Int32) (ht : t < kN σ 62 2) : Met l yX4_lendAlong wsX4_lendAlong ({ frames := 1, cells := 0, slots := 0, locals := 30 }) (mPre [.ref (L 3 t), .int x0] D cs df hh sz) (va_Qv ((fun (h1 : mH) => CRep cs df P h0 L (lendS x0 12 (hbS σ t) σ) h1)) (mB D hh sz) (mA hh sz)) 0 0 (mA hh sz) := by
  refine Met.ofW (cc := cX4_lendAlong) (maxL := 4) (ret := none) (by decide) rfl ?_
  intro p e s m args below meth c s₁ B0 hml hv
  obtain ⟨hargs, hsz, hV, hE⟩ := hv
  subst hsz
  have hx := B0.exec
  have hb := B0.bytes
  have hr := B0.returns
  have hlocks := B0.notSynchronized
  have hts := atoms_spec (ws := wsX4_lendAlong) B0.pre
  have hown : s.vm.findClass RX4 = some m.cls := findClass_of_methodNamed B0.named
  have hK := hE.1.1
  have hA : ∀ q : Nat, s.heap.size ≤ q → mA hh s.heap.size q := mA.top
  have hS : va_S (mA hh s.heap.size) s.heap s.heap [] := va_S.rf
  have hi_X3 : ∀ w ∈ u_ws RX3 TX3 16, w ∈ wsX4_lendAlong := by decide +kernel
  have kn219 : va_Nw (.fieldLinkNest RX4 219 "TaskKernel$Task" "urgency" "I" "TaskKernel") s := hE.1.2.1 _ (List.mem_of_getElem? (i := 25) rfl)
  have hl := lv_entry ([.ref (L 3 t), .int x0]) (n := 4) (by first | exact Nat.le_of_ble_eq_true rfl | simp [lg_sl, rf_cat, ct_ref, ct_int, ct_null, ct_long])
  have hent := lg_entry_eq m ([.ref (L 3 t), .int x0]) 4
  rw [← hargs] at hent
  rw [hent]
  generalize (lg_sl ([.ref (L 3 t), .int x0]) ++ List.replicate (4 - (lg_sl ([.ref (L 3 t), .int x0])).length) Slot.unset).toArray = ls at hl ⊢
  replace hl : lv_has ls 4 [(0, .ref (L 3 t)), (1, .int x0)] := hl
  refine lv_aload_n hx hb dX4_lendAlong_0 rfl (lv_at hl 0 rfl) ?_
  refine m_callq (va_runS (As := [.ref (L 3 t)]) (rest := []) ⟨hx, hb, hml, hown, hts⟩ (c_X4_holderBefore (l := l) (s.heap.size) hC t (by first | assumption | omega)) (va_cwS 1 hts gX4_lendAlong_X4_holderBefore rfl rfl rfl (by decide +kernel) ⟨by decide, by decide⟩) (m_preS hE hV hS hA) rfl rfl hl.1 rfl (lv_room (by first | exact Nat.le_of_ble_eq_true rfl | simp [rf_cat, ct_ref, ct_int, ct_null, ct_long])) dX4_lendAlong_1 ⟨by decide, by decide⟩) hV hS hA (fun r h1 H locs hV hS hp _ => ?_)
  obtain ⟨e1, e2⟩ := hp
  subst e2
  rw [e1] at hV; clear e1
  refine m_astore_nq (i := 2) (lv' := [(2, va_rf (((hbS σ t)).map (L 3))), (0, .ref (L 3 t)), (1, .int x0)]) hx hb dX4_lendAlong_4 rfl hl (by decide) (by first | rfl | simp [rf_cat, ct_ref, ct_int, ct_long]) (fun ls hl => ?_)
  refine lv_iconst (v := 0) hx hb dX4_lendAlong_5 (by decide) ?_
  refine lv_istore_n (i := 3) (lv' := [(3, .int 0), (2, va_rf (((hbS σ t)).map (L 3))), (0, .ref (L 3 t)), (1, .int x0)]) hx hb dX4_lendAlong_6 rfl hl (by decide) (by first | rfl | simp [rf_cat, ct_ref, ct_int, ct_long]) (fun ls hl => ?_)
  have lp7 : ∀ (fu : Nat) (i : Nat) (o : Option Nat) (τ : KS), (i ≤ 12) → (∀ k, o = some k → k < kN τ 62 2) → (lendS x0 (12 - i) o τ = lendS x0 12 (hbS σ t) σ) → 12 - i < fu → ∀ (h : mH) (H : Heap) (locs : List Loc), CRep cs df P h0 L τ h → mV D h (mA hh s.heap.size) H → va_S (mA hh s.heap.size) s.heap H locs → ∀ (ls : Array Slot), lv_has ls 4 [(1, .int x0), (2, va_rf ((o).map (L 3))), (3, .int (nI i))] → W p l e ({ frames := 1, cells := 0, slots := 0, locals := 30 } : Room) s m args below meth c H locs 0 0 (MQ below (va_Qv ((fun (h1 : mH) => CRep cs df P h0 L (lendS x0 12 (hbS σ t) σ) h1)) (mB D hh s.heap.size) (mA hh s.heap.size)) args s 0 0 (mA hh s.heap.size)) (F0 m 7 ls []) := by
    intro fu
    induction fu with
    | zero =>
      intro i o τ hi ho hf hfu
      exact absurd hfu (Nat.not_lt_zero _)
    | succ fu ih7 =>
      intro i o τ hi ho hf hfu h H locs hC hV hS ls hl
      refine lv_iload_n hx hb dX4_lendAlong_7 rfl (lv_at hl 2 rfl) ?_
      refine lv_bipush (v := 12) hx hb dX4_lendAlong_8 (by decide) ?_
      refine lv_icmp_ge (tgt := 40) hx hb dX4_lendAlong_10 (by decide) (fun c10 => ?_) (fun c10 => ?_)
      · replace c10 : 12 ≤ i := (nI_leI (a := 12) (b := i) (by omega) (by omega)).mp c10
        exact m_vret hx hb hr hlocks hV hS ((by rw [← hf, show 12 - i = 0 by omega, lendS]; exact hC)) dX4_lendAlong_40
      · replace c10 : ¬ 12 ≤ i := fun q9 => c10 ((nI_leI (a := 12) (b := i) (by omega) (by omega)).mpr q9)
        refine m_aload_nq hx hb dX4_lendAlong_13 rfl (lv_at hl 1 rfl) ?_
        refine m_ifnull_q (o := o) (f := L 3) (tgt := 40) hx hb dX4_lendAlong_14 (by decide) (fun c14 => ?_) (fun k14 c14 => ?_)
        · replace hl : lv_has ls 4 [(1, .int x0), (2, .null), (3, .int (nI i))] := by have h9 := hl; rw [c14] at h9; exact h9
          exact m_vret hx hb hr hlocks hV hS ((by rw [← hf, c14, lendS_none]; exact hC)) dX4_lendAlong_40
        · have bk14 := ho k14 c14
          replace hl : lv_has ls 4 [(1, .int x0), (2, .ref (L 3 k14)), (3, .int (nI i))] := by have h9 := hl; rw [c14] at h9; exact h9
          refine lv_aload_n hx hb dX4_lendAlong_17 rfl (lv_at hl 1 rfl) ?_
          refine lv_aload_n hx hb dX4_lendAlong_18 rfl (lv_at hl 1 rfl) ?_
          refine m_getN (C := RX3) (T := TX3) (N := 16) (host := "TaskKernel") hx hb hts hi_X3 hown hK hV 14 (v := .int (kI τ 44 k14)) (g_task14 hC (by first | assumption | (show k14 < kN τ 62 2; omega))) rfl (by decide) kn219 (fun _ h9 => h9) dX4_lendAlong_19 ?_
          refine lv_iload_n hx hb dX4_lendAlong_22 rfl (lv_at hl 0 rfl) ?_
          refine va_mmin hx hb (by rw [hml]; exact hl.1.symm) hown (hts (.methodLink RX4 205 Lib.Math.min.name) (by decide +kernel)) (hts (.static Lib.Math.min.name) (by decide +kernel)) (hts (.initialized "java/lang/Math") (by decide +kernel)) (hts (.code Lib.Math.min.name Lib.Math.min.code 2 (some .int)) (by decide +kernel)) (by decide) (by first | exact Nat.le_of_ble_eq_true rfl | decide | (simp [rf_cat, ct_ref, ct_int, ct_null, ct_long]; done)) (by decide) (by decide) dX4_lendAlong_23 ?_
          refine m_putN (host := "TaskKernel") (C := RX3) (T := TX3) (N := 16) (v := .int (if x0 < (kI τ 44 k14) then x0 else (kI τ 44 k14))) hx hb hts hi_X3 tyX3 tyX3_ok nmX3 hown hK hV hS 14 (p_task14 hC (by first | assumption | (show k14 < kN τ 62 2; omega)) (if x0 < (kI τ 44 k14) then x0 else (kI τ 44 k14))) rfl (by decide) kn219 (fun _ h9 => h9) rfl (tyX3_ok 14 (by decide)) rfl rfl dX4_lendAlong_26 (fun h H locs hV hS hC => ?_)
          refine lv_aload_n hx hb dX4_lendAlong_29 rfl (lv_at hl 1 rfl) ?_
          refine m_callq (va_runS (As := [.ref (L 3 k14)]) (rest := []) ⟨hx, hb, hml, hown, hts⟩ (c_X4_holderBefore (l := l) (H.size) hC k14 (by first | assumption | omega)) (va_cwS 1 hts gX4_lendAlong_X4_holderBefore rfl rfl rfl (by decide +kernel) ⟨by decide, by decide⟩) (m_preS hE hV hS hA) rfl rfl hl.1 rfl (lv_room (by first | exact Nat.le_of_ble_eq_true rfl | simp [rf_cat, ct_ref, ct_int, ct_null, ct_long])) dX4_lendAlong_30 ⟨by decide, by decide⟩) hV hS hA (fun r h1 H locs hV hS hp _ => ?_)
          obtain ⟨e1, e2⟩ := hp
          subst e2
          rw [e1] at hV; clear e1
          refine m_astore_nq (i := 2) (lv' := [(2, va_rf (((hbS (sI τ 44 (va_up (kI τ 44) k14 (if x0 < (kI τ 44 k14) then x0 else (kI τ 44 k14)))) k14)).map (L 3))), (1, .int x0), (3, .int (nI i))]) hx hb dX4_lendAlong_33 rfl hl (by decide) (by first | rfl | simp [rf_cat, ct_ref, ct_int, ct_long]) (fun ls hl => ?_)
          refine lv_iinc (v := nI (i + 1)) (lv' := [(3, .int (nI (i + 1))), (2, va_rf (((hbS (sI τ 44 (va_up (kI τ 44) k14 (if x0 < (kI τ 44 k14) then x0 else (kI τ 44 k14)))) k14)).map (L 3))), (1, .int x0)]) hx hb dX4_lendAlong_34 hl (k := 2) rfl (show nI i + Int32.ofInt 1 = _ from nI_add i 1) (by decide) (by first | rfl | simp [rf_cat, ct_ref, ct_int, ct_long]) (fun ls hl => ?_)
          refine lv_goto (tgt := 7) hx hb dX4_lendAlong_37 (by decide) ?_
          exact ih7 (i + 1) (hbS (sI τ 44 (va_up (kI τ 44) k14 (if x0 < (kI τ 44 k14) then x0 else (kI τ 44 k14)))) k14) (sI τ 44 (va_up (kI τ 44) k14 (if x0 < (kI τ 44 k14) then x0 else (kI τ 44 k14)))) (by omega) (fun k9 h9 => hbS_lt hC.wf bk14 h9) (hf.symm ▸ (by rw [show 12 - i = (12 - (i + 1)) + 1 by omega, c14]; rfl)) (by omega) _ _ _ hC hV hS ls (lv_sub hl [2, 1, 0] rfl)
  have q1 : 0 = nI 0 := rfl
  replace hl : lv_has ls 4 [(3, .int (nI 0)), (2, va_rf (((hbS σ t)).map (L 3))), (0, .ref (L 3 t)), (1, .int x0)] := (congrArg (lv_has ls 4) (m_lc (congrArg Value.int q1) (m_lc rfl (m_lc rfl (m_lc rfl rfl))))).mp hl
  exact lp7 ((12 - 0) + 1) 0 (hbS σ t) σ (Nat.zero_le _) (fun k9 h9 => hbS_lt hC.wf ht h9) rfl (Nat.lt_succ_self _) _ _ _ hC hV hS ls (lv_sub hl [3, 1, 0] rfl)
set_option maxHeartbeats 4000000 in
set_option maxRecDepth 100000 in
theorem c_X4_waitsInTheEndFor {l : Launch} {D : va_G} {cs : mC} {df : Nat} {P : Nat → Prop} {h0 : mH} {L : KL} {σ : KS} {hh : mH} (sz : Nat) (hC : CRep cs df P h0 L σ hh) (t : Nat) (u : Nat) (ht : t < kN σ 62 2) (hu : u < kN σ 62 2) : Met l yX4_waitsInTheEndFor wsX4_waitsInTheEndFor ({ frames := 1, cells := 0, slots := 0, locals := 20 }) (mPre [.ref (L 3 t), .ref (L 3 u)] D cs df hh sz) (va_Qi ((fun (r : Int32) (h1 : mH) => h1 = hh ∧ r = bI (weS u σ 12 (hbS σ t)))) (mB D hh sz) (mA hh sz)) 0 0 (mA hh sz) := by
  refine Met.ofW (cc := cX4_waitsInTheEndFor) (maxL := 4) (ret := (some .boolean)) (by decide) rfl ?_
  intro p e s m args below meth c s₁ B0 hml hv
  obtain ⟨hargs, hsz, hV, hE⟩ := hv
  subst hsz
  have hx := B0.exec
  have hb := B0.bytes
  have hr := B0.returns
  have hlocks := B0.notSynchronized
  have hts := atoms_spec (ws := wsX4_waitsInTheEndFor) B0.pre
  have hown : s.vm.findClass RX4 = some m.cls := findClass_of_methodNamed B0.named
  have hK := hE.1.1
  have hA : ∀ q : Nat, s.heap.size ≤ q → mA hh s.heap.size q := mA.top
  have hS : va_S (mA hh s.heap.size) s.heap s.heap [] := va_S.rf
  have hl := lv_entry ([.ref (L 3 t), .ref (L 3 u)]) (n := 4) (by first | exact Nat.le_of_ble_eq_true rfl | simp [lg_sl, rf_cat, ct_ref, ct_int, ct_null, ct_long])
  have hent := lg_entry_eq m ([.ref (L 3 t), .ref (L 3 u)]) 4
  rw [← hargs] at hent
  rw [hent]
  generalize (lg_sl ([.ref (L 3 t), .ref (L 3 u)]) ++ List.replicate (4 - (lg_sl ([.ref (L 3 t), .ref (L 3 u)])).length) Slot.unset).toArray = ls at hl ⊢
  replace hl : lv_has ls 4 [(0, .ref (L 3 t)), (1, .ref (L 3 u))] := hl
  refine lv_aload_n hx hb dX4_waitsInTheEndFor_0 rfl (lv_at hl 0 rfl) ?_
  refine m_callq (va_runS (As := [.ref (L 3 t)]) (rest := []) ⟨hx, hb, hml, hown, hts⟩ (c_X4_holderBefore (l := l) (s.heap.size) hC t (by first | assumption | omega)) (va_cwS 1 hts gX4_waitsInTheEndFor_X4_holderBefore rfl rfl rfl (by decide +kernel) ⟨by decide, by decide⟩) (m_preS hE hV hS hA) rfl rfl hl.1 rfl (lv_room (by first | exact Nat.le_of_ble_eq_true rfl | simp [rf_cat, ct_ref, ct_int, ct_null, ct_long])) dX4_waitsInTheEndFor_1 ⟨by decide, by decide⟩) hV hS hA (fun r h1 H locs hV hS hp _ => ?_)
  obtain ⟨e1, e2⟩ := hp
  subst e2
  rw [e1] at hV; clear e1
  refine m_astore_nq (i := 2) (lv' := [(2, va_rf (((hbS σ t)).map (L 3))), (0, .ref (L 3 t)), (1, .ref (L 3 u))]) hx hb dX4_waitsInTheEndFor_4 rfl hl (by decide) (by first | rfl | simp [rf_cat, ct_ref, ct_int, ct_long]) (fun ls hl => ?_)
  refine lv_iconst (v := 0) hx hb dX4_waitsInTheEndFor_5 (by decide) ?_
  refine lv_istore_n (i := 3) (lv' := [(3, .int 0), (2, va_rf (((hbS σ t)).map (L 3))), (0, .ref (L 3 t)), (1, .ref (L 3 u))]) hx hb dX4_waitsInTheEndFor_6 rfl hl (by decide) (by first | rfl | simp [rf_cat, ct_ref, ct_int, ct_long]) (fun ls hl => ?_)
  have lp7 : ∀ (fu : Nat) (i : Nat) (o : Option Nat), (i ≤ 12) → (∀ k, o = some k → k < kN σ 62 2) → (weS u σ (12 - i) o = weS u σ 12 (hbS σ t)) → 12 - i < fu → ∀ (H : Heap) (locs : List Loc), mV D hh (mA hh s.heap.size) H → va_S (mA hh s.heap.size) s.heap H locs → ∀ (ls : Array Slot), lv_has ls 4 [(1, .ref (L 3 u)), (2, va_rf ((o).map (L 3))), (3, .int (nI i))] → W p l e ({ frames := 1, cells := 0, slots := 0, locals := 20 } : Room) s m args below meth c H locs 0 0 (MQ below (va_Qi ((fun (r : Int32) (h1 : mH) => h1 = hh ∧ r = bI (weS u σ 12 (hbS σ t)))) (mB D hh s.heap.size) (mA hh s.heap.size)) args s 0 0 (mA hh s.heap.size)) (F0 m 7 ls []) := by
    intro fu
    induction fu with
    | zero =>
      intro i o hi ho hf hfu
      exact absurd hfu (Nat.not_lt_zero _)
    | succ fu ih7 =>
      intro i o hi ho hf hfu H locs hV hS ls hl
      refine lv_iload_n hx hb dX4_waitsInTheEndFor_7 rfl (lv_at hl 2 rfl) ?_
      refine lv_bipush (v := 12) hx hb dX4_waitsInTheEndFor_8 (by decide) ?_
      refine lv_icmp_ge (tgt := 35) hx hb dX4_waitsInTheEndFor_10 (by decide) (fun c10 => ?_) (fun c10 => ?_)
      · replace c10 : 12 ≤ i := (nI_leI (a := 12) (b := i) (by omega) (by omega)).mp c10
        refine lv_iconst (v := 0) hx hb dX4_waitsInTheEndFor_35 (by decide) ?_
        exact m_zret (v := 0) hx hb hr hlocks (by decide) hV hS (⟨rfl, by rw [← hf, show 12 - i = 0 by omega, weS]; rfl⟩) dX4_waitsInTheEndFor_36
      · replace c10 : ¬ 12 ≤ i := fun q9 => c10 ((nI_leI (a := 12) (b := i) (by omega) (by omega)).mpr q9)
        refine m_aload_nq hx hb dX4_waitsInTheEndFor_13 rfl (lv_at hl 1 rfl) ?_
        refine m_ifnull_q (o := o) (f := L 3) (tgt := 35) hx hb dX4_waitsInTheEndFor_14 (by decide) (fun c14 => ?_) (fun k14 c14 => ?_)
        · replace hl : lv_has ls 4 [(1, .ref (L 3 u)), (2, .null), (3, .int (nI i))] := by have h9 := hl; rw [c14] at h9; exact h9
          refine lv_iconst (v := 0) hx hb dX4_waitsInTheEndFor_35 (by decide) ?_
          exact m_zret (v := 0) hx hb hr hlocks (by decide) hV hS (⟨rfl, by rw [← hf, c14, weS_none]; rfl⟩) dX4_waitsInTheEndFor_36
        · have bk14 := ho k14 c14
          replace hl : lv_has ls 4 [(1, .ref (L 3 u)), (2, .ref (L 3 k14)), (3, .int (nI i))] := by have h9 := hl; rw [c14] at h9; exact h9
          refine lv_aload_n hx hb dX4_waitsInTheEndFor_17 rfl (lv_at hl 1 rfl) ?_
          refine lv_aload_n hx hb dX4_waitsInTheEndFor_18 rfl (lv_at hl 0 rfl) ?_
          refine lv_acmp_ne (rx := (some (L 3 k14))) (ry := (some (L 3 u))) (tgt := 24) hx hb dX4_waitsInTheEndFor_19 (by decide) (fun c19 => ?_) (fun c19 => ?_)
          · replace c19 : ¬ k14 = u := fun q9 => c19 (by rw [q9])
            refine lv_aload_n hx hb dX4_waitsInTheEndFor_24 rfl (lv_at hl 1 rfl) ?_
            refine m_callq (va_runS (As := [.ref (L 3 k14)]) (rest := []) ⟨hx, hb, hml, hown, hts⟩ (c_X4_holderBefore (l := l) (H.size) hC k14 (by first | assumption | omega)) (va_cwS 1 hts gX4_waitsInTheEndFor_X4_holderBefore rfl rfl rfl (by decide +kernel) ⟨by decide, by decide⟩) (m_preS hE hV hS hA) rfl rfl hl.1 rfl (lv_room (by first | exact Nat.le_of_ble_eq_true rfl | simp [rf_cat, ct_ref, ct_int, ct_null, ct_long])) dX4_waitsInTheEndFor_25 ⟨by decide, by decide⟩) hV hS hA (fun r h1 H locs hV hS hp _ => ?_)
            obtain ⟨e1, e2⟩ := hp
            subst e2
            rw [e1] at hV; clear e1
            refine m_astore_nq (i := 2) (lv' := [(2, va_rf (((hbS σ k14)).map (L 3))), (1, .ref (L 3 u)), (3, .int (nI i))]) hx hb dX4_waitsInTheEndFor_28 rfl hl (by decide) (by first | rfl | simp [rf_cat, ct_ref, ct_int, ct_long]) (fun ls hl => ?_)
            refine lv_iinc (v := nI (i + 1)) (lv' := [(3, .int (nI (i + 1))), (2, va_rf (((hbS σ k14)).map (L 3))), (1, .ref (L 3 u))]) hx hb dX4_waitsInTheEndFor_29 hl (k := 2) rfl (show nI i + Int32.ofInt 1 = _ from nI_add i 1) (by decide) (by first | rfl | simp [rf_cat, ct_ref, ct_int, ct_long]) (fun ls hl => ?_)
            refine lv_goto (tgt := 7) hx hb dX4_waitsInTheEndFor_32 (by decide) ?_
            exact ih7 (i + 1) (hbS σ k14) (by omega) (fun k9 h9 => hbS_lt hC.wf bk14 h9) (hf.symm ▸ (by rw [show 12 - i = (12 - (i + 1)) + 1 by omega, c14, weS, if_neg c19])) (by omega) _ _ hV hS ls (lv_sub hl [2, 1, 0] rfl)
          · replace c19 : k14 = u := (hC.inj (k := 3) (k2 := 3) (by first | assumption | (show k14 < kN σ 62 2; omega)) (by first | assumption | (show u < kN σ 62 2; omega)) (Option.some.inj c19)).2
            refine lv_iconst (v := 1) hx hb dX4_waitsInTheEndFor_22 (by decide) ?_
            exact m_zret (v := 1) hx hb hr hlocks (by decide) hV hS (⟨rfl, by rw [← hf, show 12 - i = (12 - (i + 1)) + 1 by omega, c14, weS, if_pos c19]; rfl⟩) dX4_waitsInTheEndFor_23
  have q1 : 0 = nI 0 := rfl
  replace hl : lv_has ls 4 [(3, .int (nI 0)), (2, va_rf (((hbS σ t)).map (L 3))), (0, .ref (L 3 t)), (1, .ref (L 3 u))] := (congrArg (lv_has ls 4) (m_lc (congrArg Value.int q1) (m_lc rfl (m_lc rfl (m_lc rfl rfl))))).mp hl
  exact lp7 ((12 - 0) + 1) 0 (hbS σ t) (Nat.zero_le _) (fun k9 h9 => hbS_lt hC.wf ht h9) rfl (Nat.lt_succ_self _) _ _ hV hS ls (lv_sub hl [3, 1, 0] rfl)
set_option maxHeartbeats 4000000 in
set_option maxRecDepth 100000 in
theorem c_X4_passOn {l : Launch} {D : va_G} {cs : mC} {df : Nat} {P : Nat → Prop} {h0 : mH} {L : KL} {σ : KS} {hh : mH} (sz : Nat) (hC : CRep cs df P h0 L σ hh) (w : Nat) (hw : w < 4) : Met l yX4_passOn wsX4_passOn ({ frames := 3, cells := 0, slots := 0, locals := 106 }) (mPre [.ref (L 4 w)] D cs df hh sz) (va_Qv ((fun (h1 : mH) => CRep cs df P h0 L (passS σ w) h1)) (mB D hh sz) (mA hh sz)) 0 0 (mA hh sz) := by
  refine Met.ofW (cc := cX4_passOn) (maxL := 2) (ret := none) (by decide) rfl ?_
  intro p e s m args below meth c s₁ B0 hml hv
  obtain ⟨hargs, hsz, hV, hE⟩ := hv
  subst hsz
  have hx := B0.exec
  have hb := B0.bytes
  have hr := B0.returns
  have hlocks := B0.notSynchronized
  have hts := atoms_spec (ws := wsX4_passOn) B0.pre
  have hown : s.vm.findClass RX4 = some m.cls := findClass_of_methodNamed B0.named
  have hK := hE.1.1
  have hA : ∀ q : Nat, s.heap.size ≤ q → mA hh s.heap.size q := mA.top
  have hS : va_S (mA hh s.heap.size) s.heap s.heap [] := va_S.rf
  have hi_X2 : ∀ w ∈ u_ws RX2 TX2 2, w ∈ wsX4_passOn := by decide +kernel
  have kn242 : va_Nw (.fieldLinkNest RX4 242 "TaskKernel$Lock" "waiters" "Ljava/util/ArrayList;" "TaskKernel") s := hE.1.2.1 _ (List.mem_of_getElem? (i := 7) rfl)
  have kc121 : (Cond.classLink RX4 121 "TaskKernel$Task").before args s = true := hts _ (by decide +kernel)
  have kn183 : va_Nw (.fieldLinkNest RX4 183 "TaskKernel$Task" "awaited" "LTaskKernel$Lock;" "TaskKernel") s := hE.1.2.1 _ (List.mem_of_getElem? (i := 23) rfl)
  have hi_X3 : ∀ w ∈ u_ws RX3 TX3 16, w ∈ wsX4_passOn := by decide +kernel
  have kn175 : va_Nw (.fieldLinkNest RX4 175 "TaskKernel$Lock" "holder" "LTaskKernel$Task;" "TaskKernel") s := hE.1.2.1 _ (List.mem_of_getElem? (i := 6) rfl)
  have hl := lv_entry ([.ref (L 4 w)]) (n := 2) (by first | exact Nat.le_of_ble_eq_true rfl | simp [lg_sl, rf_cat, ct_ref, ct_int, ct_null, ct_long])
  have hent := lg_entry_eq m ([.ref (L 4 w)]) 2
  rw [← hargs] at hent
  rw [hent]
  generalize (lg_sl ([.ref (L 4 w)]) ++ List.replicate (2 - (lg_sl ([.ref (L 4 w)])).length) Slot.unset).toArray = ls at hl ⊢
  replace hl : lv_has ls 2 [(0, .ref (L 4 w))] := hl
  refine lv_aload_n hx hb dX4_passOn_0 rfl (lv_at hl 0 rfl) ?_
  refine m_getN (C := RX2) (T := TX2) (N := 2) (host := "TaskKernel") hx hb hts hi_X2 hown hK hV 1 (v := .ref (L 5 (4 + w))) (g_lock1 hC (show w < 4 by omega)) rfl (by decide) kn242 (fun _ h9 => h9) dX4_passOn_1 ?_
  refine m_calli (va_runV (As := []) (rest := []) ⟨hx, hb, hml, hown, hts⟩ (l_empty (s.heap.size) hC (4 + w) (by omega)) (cwV 0 hts gX4_passOn_Jx4a65c_isEmpty_aae02 rfl rfl rfl (by decide +kernel) ⟨by decide, by decide⟩) (m_preV (r := (RJx4a65c, TJx4a65c, 3)) hE hV hS hA (CRep.atL hC (j := (4 + w)) (by omega)) rfl) rfl rfl hl.1 rfl (lv_room (by first | exact Nat.le_of_ble_eq_true rfl | simp [rf_cat, ct_ref, ct_int, ct_null, ct_long])) dX4_passOn_4 ⟨by decide, by decide⟩) hV hS hA (fun r h1 H locs hV hS hp _ => ?_)
  obtain ⟨e1, e2⟩ := hp
  subst e2
  rw [e1] at hV; clear e1
  refine lv_if_eq (tgt := 16) hx hb dX4_passOn_7 (by decide) (fun c7 => ?_) (fun c7 => ?_)
  · replace c7 : (decide (kN σ 62 (4 + w) = 0)) = false := bI_0.mp c7
    replace c7 := of_decide_eq_false c7
    have bt0 := wt_ok hC.wf hw (show 0 < kN σ 62 (4 + w) by omega)
    refine lv_aload_n hx hb dX4_passOn_16 rfl (lv_at hl 0 rfl) ?_
    refine m_getN (C := RX2) (T := TX2) (N := 2) (host := "TaskKernel") hx hb hts hi_X2 hown hK hV 1 (v := .ref (L 5 (4 + w))) (g_lock1 hC (show w < 4 by omega)) rfl (by decide) kn242 (fun _ h9 => h9) dX4_passOn_17 ?_
    refine lv_iconst (v := 0) hx hb dX4_passOn_20 (by decide) ?_
    refine m_callq (va_runV (As := [.int 0]) (rest := []) ⟨hx, hb, hml, hown, hts⟩ (l_remW (H.size) hC w 0 (by omega) (by omega)) (cwV 1 hts gX4_passOn_Jx4a65c_remove_915e3 rfl rfl rfl (by decide +kernel) ⟨by decide, by decide⟩) (m_preV (r := (RJx4a65c, TJx4a65c, 3)) hE hV hS hA (CRep.atL hC (j := (4 + w)) (by omega)) rfl) rfl rfl hl.1 rfl (lv_room (by first | exact Nat.le_of_ble_eq_true rfl | simp [rf_cat, ct_ref, ct_int, ct_null, ct_long])) dX4_passOn_21 ⟨by decide, by decide⟩) hV hS hA (fun r h1 H locs hV hS hp _ => ?_)
    obtain ⟨hC, e2⟩ := hp
    subst e2
    have bt : (kL σ (4 + w)).getD 0 0 < kN (lRem σ (4 + w) 0) 62 2 := by rw [lRem_N (by decide)]; exact bt0
    refine m_cast (r := (RX3, TX3, 16)) hx hb hE hV (hC.at (k := 3) (i := ((kL σ (4 + w)).getD 0 0)) (by first | assumption | (show ((kL σ (4 + w)).getD 0 0) < kN (lRem σ (4 + w) 0) 62 2; omega))) rfl hown kc121 dX4_passOn_24 ?_
    refine lv_astore_n (lv' := [(1, .ref (L 3 ((kL σ (4 + w)).getD 0 0))), (0, .ref (L 4 w))]) hx hb dX4_passOn_27 rfl hl (by decide) rfl (fun ls hl => ?_)
    refine lv_aload_n hx hb dX4_passOn_28 rfl (lv_at hl 0 rfl) ?_
    refine lv_null hx hb dX4_passOn_29 ?_
    refine m_putN (host := "TaskKernel") (C := RX3) (T := TX3) (N := 16) (v := va_rf ((none).map (L 4))) hx hb hts hi_X3 tyX3 tyX3_ok nmX3 hown hK hV hS 12 (p_task12 hC (by first | assumption | (show ((kL σ (4 + w)).getD 0 0) < kN (lRem σ (4 + w) 0) 62 2; omega)) none (fun _ z => nomatch z)) rfl (by decide) kn183 (fun _ h9 => h9) rfl (tyX3_ok 12 (by decide)) (rf_narrow _ _) (rf_fits _ _) dX4_passOn_30 (fun h H locs hV hS hC => ?_)
    refine lv_aload_n hx hb dX4_passOn_33 rfl (lv_at hl 1 rfl) ?_
    refine lv_aload_n hx hb dX4_passOn_34 rfl (lv_at hl 0 rfl) ?_
    refine m_putN (host := "TaskKernel") (C := RX2) (T := TX2) (N := 2) (v := va_rf (((some ((kL σ (4 + w)).getD 0 0))).map (L 3))) hx hb hts hi_X2 tyX2 tyX2_ok nmX2 hown hK hV hS 0 (p_lock0 hC (show w < 4 by omega) (some ((kL σ (4 + w)).getD 0 0)) (fun t z => by cases z; first | assumption | omega)) rfl (by decide) kn175 (fun _ h9 => h9) rfl (tyX2_ok 0 (by decide)) (rf_narrow _ _) (rf_fits _ _) dX4_passOn_35 (fun h H locs hV hS hC => ?_)
    exact m_vret hx hb hr hlocks hV hS ((by unfold passS; rw [if_neg c7]; exact hC)) dX4_passOn_38
  · replace c7 : (decide (kN σ 62 (4 + w) = 0)) = true := bI_1.mp c7
    replace c7 := of_decide_eq_true c7
    refine lv_aload_n hx hb dX4_passOn_10 rfl (lv_at hl 0 rfl) ?_
    refine lv_null hx hb dX4_passOn_11 ?_
    refine m_putN (host := "TaskKernel") (C := RX2) (T := TX2) (N := 2) (v := va_rf ((none).map (L 3))) hx hb hts hi_X2 tyX2 tyX2_ok nmX2 hown hK hV hS 0 (p_lock0 hC (show w < 4 by omega) none (fun _ z => nomatch z)) rfl (by decide) kn175 (fun _ h9 => h9) rfl (tyX2_ok 0 (by decide)) (rf_narrow _ _) (rf_fits _ _) dX4_passOn_12 (fun h H locs hV hS hC => ?_)
    exact m_vret hx hb hr hlocks hV hS ((by unfold passS; rw [if_pos c7]; exact hC)) dX4_passOn_15
set_option maxHeartbeats 4000000 in
set_option maxRecDepth 100000 in
theorem c_X4_stopWaiting {l : Launch} {D : va_G} {cs : mC} {df : Nat} {P : Nat → Prop} {h0 : mH} {L : KL} {σ : KS} {hh : mH} (sz : Nat) (hC : CRep cs df P h0 L σ hh) (t : Nat) (ht : t < kN σ 62 2) : Met l yX4_stopWaiting wsX4_stopWaiting ({ frames := 3, cells := 0, slots := 0, locals := 106 }) (mPre [.ref (L 3 t)] D cs df hh sz) (va_Qv ((fun (h1 : mH) => CRep cs df P h0 L (stopS σ t) h1)) (mB D hh sz) (mA hh sz)) 0 0 (mA hh sz) := by
  refine Met.ofW (cc := cX4_stopWaiting) (maxL := 3) (ret := none) (by decide) rfl ?_
  intro p e s m args below meth c s₁ B0 hml hv
  obtain ⟨hargs, hsz, hV, hE⟩ := hv
  subst hsz
  have hx := B0.exec
  have hb := B0.bytes
  have hr := B0.returns
  have hlocks := B0.notSynchronized
  have hts := atoms_spec (ws := wsX4_stopWaiting) B0.pre
  have hown : s.vm.findClass RX4 = some m.cls := findClass_of_methodNamed B0.named
  have hK := hE.1.1
  have hA : ∀ q : Nat, s.heap.size ≤ q → mA hh s.heap.size q := mA.top
  have hS : va_S (mA hh s.heap.size) s.heap s.heap [] := va_S.rf
  have hi_X3 : ∀ w ∈ u_ws RX3 TX3 16, w ∈ wsX4_stopWaiting := by decide +kernel
  have kn183 : va_Nw (.fieldLinkNest RX4 183 "TaskKernel$Task" "awaited" "LTaskKernel$Lock;" "TaskKernel") s := hE.1.2.1 _ (List.mem_of_getElem? (i := 23) rfl)
  have hi_X2 : ∀ w ∈ u_ws RX2 TX2 2, w ∈ wsX4_stopWaiting := by decide +kernel
  have kn242 : va_Nw (.fieldLinkNest RX4 242 "TaskKernel$Lock" "waiters" "Ljava/util/ArrayList;" "TaskKernel") s := hE.1.2.1 _ (List.mem_of_getElem? (i := 7) rfl)
  have hl := lv_entry ([.ref (L 3 t)]) (n := 3) (by first | exact Nat.le_of_ble_eq_true rfl | simp [lg_sl, rf_cat, ct_ref, ct_int, ct_null, ct_long])
  have hent := lg_entry_eq m ([.ref (L 3 t)]) 3
  rw [← hargs] at hent
  rw [hent]
  generalize (lg_sl ([.ref (L 3 t)]) ++ List.replicate (3 - (lg_sl ([.ref (L 3 t)])).length) Slot.unset).toArray = ls at hl ⊢
  replace hl : lv_has ls 3 [(0, .ref (L 3 t))] := hl
  refine lv_aload_n hx hb dX4_stopWaiting_0 rfl (lv_at hl 0 rfl) ?_
  refine m_getN (C := RX3) (T := TX3) (N := 16) (host := "TaskKernel") hx hb hts hi_X3 hown hK hV 12 (v := va_rf ((kO σ 42 t).map (L 4))) (g_task12 hC (by assumption)) rfl (by decide) kn183 (fun _ h9 => h9) dX4_stopWaiting_1 ?_
  refine m_astore_nq (i := 1) (lv' := [(1, va_rf ((kO σ 42 t).map (L 4))), (0, .ref (L 3 t))]) hx hb dX4_stopWaiting_4 rfl hl (by decide) (by first | rfl | simp [rf_cat, ct_ref, ct_int, ct_long]) (fun ls hl => ?_)
  refine m_aload_nq hx hb dX4_stopWaiting_5 rfl (lv_at hl 0 rfl) ?_
  refine m_ifnonnull_q (o := (kO σ 42 t)) (f := L 4) (tgt := 10) hx hb dX4_stopWaiting_6 (by decide) (fun k6 c6 => ?_) (fun c6 => ?_)
  · have bk6 : k6 < 4 := hC.wf.2.2.2.2.2.2.1 t (by assumption) _ c6
    replace hl : lv_has ls 3 [(1, .ref (L 4 k6)), (0, .ref (L 3 t))] := by have h9 := hl; rw [c6] at h9; exact h9
    refine lv_aload_n hx hb dX4_stopWaiting_10 rfl (lv_at hl 1 rfl) ?_
    refine lv_null hx hb dX4_stopWaiting_11 ?_
    refine m_putN (host := "TaskKernel") (C := RX3) (T := TX3) (N := 16) (v := va_rf ((none).map (L 4))) hx hb hts hi_X3 tyX3 tyX3_ok nmX3 hown hK hV hS 12 (p_task12 hC (by assumption) none (fun _ z => nomatch z)) rfl (by decide) kn183 (fun _ h9 => h9) rfl (tyX3_ok 12 (by decide)) (rf_narrow _ _) (rf_fits _ _) dX4_stopWaiting_12 (fun h H locs hV hS hC => ?_)
    refine lv_aload_n hx hb dX4_stopWaiting_15 rfl (lv_at hl 0 rfl) ?_
    refine m_getN (C := RX2) (T := TX2) (N := 2) (host := "TaskKernel") hx hb hts hi_X2 hown hK hV 1 (v := .ref (L 5 (4 + k6))) (g_lock1 hC (show k6 < 4 by omega)) rfl (by decide) kn242 (fun _ h9 => h9) dX4_stopWaiting_16 ?_
    refine m_calli (va_runV (As := []) (rest := []) ⟨hx, hb, hml, hown, hts⟩ (l_size (H.size) hC (4 + k6) (by omega)) (cwV 0 hts gX4_stopWaiting_Jx4a65c_size_8abf5 rfl rfl rfl (by decide +kernel) ⟨by decide, by decide⟩) (m_preV (r := (RJx4a65c, TJx4a65c, 3)) hE hV hS hA (CRep.atL hC (j := (4 + k6)) (by omega)) rfl) rfl rfl hl.1 rfl (lv_room (by first | exact Nat.le_of_ble_eq_true rfl | simp [rf_cat, ct_ref, ct_int, ct_null, ct_long])) dX4_stopWaiting_19 ⟨by decide, by decide⟩) hV hS hA (fun r h1 H locs hV hS hp _ => ?_)
    obtain ⟨e1, e2⟩ := hp
    subst e2
    rw [e1] at hV; clear e1
    refine lv_iconst (v := 1) hx hb dX4_stopWaiting_22 (by decide) ?_
    refine lv_isub hx hb dX4_stopWaiting_23 ?_
    refine lv_istore_n (lv' := [(2, .int (nI (kN σ 62 (4 + k6)) - 1)), (1, .ref (L 4 k6)), (0, .ref (L 3 t))]) hx hb dX4_stopWaiting_24 rfl hl (by decide) rfl (fun ls hl => ?_)
    have lp25 : ∀ (fu : Nat) (n : Nat) (τ : KS) (w : Nat), (n ≤ kN τ 62 (4 + w)) → (w < 4) → (swS w t n τ = stopS σ t) → (t < kN τ 62 2) → n < fu → ∀ (h : mH) (H : Heap) (locs : List Loc), CRep cs df P h0 L τ h → mV D h (mA hh s.heap.size) H → va_S (mA hh s.heap.size) s.heap H locs → ∀ (ls : Array Slot), lv_has ls 3 [(0, .ref (L 3 t)), (1, .ref (L 4 w)), (2, .int (nI n - 1))] → W p l e ({ frames := 3, cells := 0, slots := 0, locals := 106 } : Room) s m args below meth c H locs 0 0 (MQ below (va_Qv ((fun (h1 : mH) => CRep cs df P h0 L (stopS σ t) h1)) (mB D hh s.heap.size) (mA hh s.heap.size)) args s 0 0 (mA hh s.heap.size)) (F0 m 25 ls []) := by
      intro fu
      induction fu with
      | zero =>
        intro n τ w hn hw hf ht2 hfu
        exact absurd hfu (Nat.not_lt_zero _)
      | succ fu ih25 =>
        intro n τ w hn hw hf ht2 hfu h H locs hC hV hS ls hl
        refine lv_iload_n hx hb dX4_stopWaiting_25 rfl (lv_at hl 2 rfl) ?_
        refine lv_if_lt (tgt := 56) hx hb dX4_stopWaiting_26 (by decide) (fun c26 => ?_) (fun c26 => ?_)
        · exact m_vret hx hb hr hlocks hV hS ((by have z8 := hC.wf.2.1 (4 + w) (by omega); have z9 : n = 0 := nI_neg (by omega) c26; subst z9; rw [← hf]; exact hC)) dX4_stopWaiting_56
        · obtain ⟨k, rfl⟩ := nI_m1 c26
          replace hl : lv_has ls 3 [(0, .ref (L 3 t)), (1, .ref (L 4 w)), (2, .int (nI k))] := by have h9 := hl; rw [nI_s1] at h9; exact h9
          refine lv_aload_n hx hb dX4_stopWaiting_29 rfl (lv_at hl 1 rfl) ?_
          refine m_getN (C := RX2) (T := TX2) (N := 2) (host := "TaskKernel") hx hb hts hi_X2 hown hK hV 1 (v := .ref (L 5 (4 + w))) (g_lock1 hC (show w < 4 by omega)) rfl (by decide) kn242 (fun _ h9 => h9) dX4_stopWaiting_30 ?_
          refine lv_iload_n hx hb dX4_stopWaiting_33 rfl (lv_at hl 2 rfl) ?_
          refine m_callq (va_runV (As := [.int (nI k)]) (rest := []) ⟨hx, hb, hml, hown, hts⟩ (l_getW (H.size) hC w k (by omega) (by first | assumption | omega)) (cwV 1 hts gX4_stopWaiting_Jx4a65c_get_915e3 rfl rfl rfl (by decide +kernel) ⟨by decide, by decide⟩) (m_preV (r := (RJx4a65c, TJx4a65c, 3)) hE hV hS hA (CRep.atL hC (j := (4 + w)) (by omega)) rfl) rfl rfl hl.1 rfl (lv_room (by first | exact Nat.le_of_ble_eq_true rfl | simp [rf_cat, ct_ref, ct_int, ct_null, ct_long])) dX4_stopWaiting_34 ⟨by decide, by decide⟩) hV hS hA (fun r h1 H locs hV hS hp _ => ?_)
          obtain ⟨e1, e2⟩ := hp
          subst e2
          rw [e1] at hV; clear e1
          refine lv_aload_n hx hb dX4_stopWaiting_37 rfl (lv_at hl 0 rfl) ?_
          refine lv_acmp_ne (rx := (some (L 3 ((kL τ (4 + w)).getD k 0)))) (ry := (some (L 3 t))) (tgt := 50) hx hb dX4_stopWaiting_38 (by decide) (fun c38 => ?_) (fun c38 => ?_)
          · replace c38 : ¬ ((kL τ (4 + w)).getD k 0) = t := fun q9 => c38 (by rw [q9])
            refine lv_iinc (v := (nI k - 1)) (lv' := [(2, .int (nI k - 1)), (0, .ref (L 3 t)), (1, .ref (L 4 w))]) hx hb dX4_stopWaiting_50 hl (k := 2) rfl (m_dec1 _) (by decide) rfl (fun ls hl => ?_)
            refine lv_goto (tgt := 25) hx hb dX4_stopWaiting_53 (by decide) ?_
            exact ih25 k τ w (by omega) hw (hf.symm ▸ (by rw [swS, if_neg c38])) ht2 (by omega) _ _ _ hC hV hS ls (lv_sub hl [1, 2, 0] rfl)
          · replace c38 : ((kL τ (4 + w)).getD k 0) = t := (hC.inj (k := 3) (k2 := 3) (wt_ok hC.wf hw (by omega)) (by assumption) (Option.some.inj c38)).2
            refine lv_aload_n hx hb dX4_stopWaiting_41 rfl (lv_at hl 1 rfl) ?_
            refine m_getN (C := RX2) (T := TX2) (N := 2) (host := "TaskKernel") hx hb hts hi_X2 hown hK hV 1 (v := .ref (L 5 (4 + w))) (g_lock1 hC (show w < 4 by omega)) rfl (by decide) kn242 (fun _ h9 => h9) dX4_stopWaiting_42 ?_
            refine lv_iload_n hx hb dX4_stopWaiting_45 rfl (lv_at hl 2 rfl) ?_
            refine m_callq (va_runV (As := [.int (nI k)]) (rest := []) ⟨hx, hb, hml, hown, hts⟩ (l_remW (H.size) hC w k (by omega) (by first | assumption | omega)) (cwV 1 hts gX4_stopWaiting_Jx4a65c_remove_915e3 rfl rfl rfl (by decide +kernel) ⟨by decide, by decide⟩) (m_preV (r := (RJx4a65c, TJx4a65c, 3)) hE hV hS hA (CRep.atL hC (j := (4 + w)) (by omega)) rfl) rfl rfl hl.1 rfl (lv_room (by first | exact Nat.le_of_ble_eq_true rfl | simp [rf_cat, ct_ref, ct_int, ct_null, ct_long])) dX4_stopWaiting_46 ⟨by decide, by decide⟩) hV hS hA (fun r h1 H locs hV hS hp _ => ?_)
            obtain ⟨hC, e2⟩ := hp
            subst e2
            refine lv_pop hx hb dX4_stopWaiting_49 rfl ?_
            refine lv_iinc (v := (nI k - 1)) (lv' := [(2, .int (nI k - 1)), (0, .ref (L 3 t)), (1, .ref (L 4 w))]) hx hb dX4_stopWaiting_50 hl (k := 2) rfl (m_dec1 _) (by decide) rfl (fun ls hl => ?_)
            refine lv_goto (tgt := 25) hx hb dX4_stopWaiting_53 (by decide) ?_
            exact ih25 k (lRem τ (4 + w) k) w (by rw [lRem_n1]; omega) hw (hf.symm ▸ (by rw [swS, if_pos c38])) (by rw [lRem_N (by decide)]; exact ht2) (by omega) _ _ _ hC hV hS ls (lv_sub hl [1, 2, 0] rfl)
    exact lp25 ((kN σ 62 (4 + k6)) + 1) (kN σ 62 (4 + k6)) (sO σ 42 (va_up (kO σ 42) t none)) k6 (Nat.le_refl _) bk6 (by unfold stopS; rw [c6]) ht (Nat.lt_succ_self _) _ _ _ hC hV hS ls (lv_sub hl [2, 1, 0] rfl)
  · replace hl : lv_has ls 3 [(1, .null), (0, .ref (L 3 t))] := by have h9 := hl; rw [c6] at h9; exact h9
    exact m_vret hx hb hr hlocks hV hS ((by unfold stopS; rw [c6]; exact hC)) dX4_stopWaiting_9
