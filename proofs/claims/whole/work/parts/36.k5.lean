set_option maxHeartbeats 4000000 in
set_option maxRecDepth 100000 in
theorem c_X4_lendUrgencies {l : Launch} {D : va_G} {cs : mC} {df : Nat} {P : Nat → Prop} {h0 : mH} {L : KL} {σ : KS} {hh : mH} (sz : Nat) (hC : CRep cs df P h0 L σ hh)  : Met l yX4_lendUrgencies wsX4_lendUrgencies ({ frames := 3, cells := 0, slots := 0, locals := 64 }) (mPre [.ref (L 0 0)] D cs df hh sz) (va_Qv ((fun (h1 : mH) => CRep cs df P h0 L (urgS σ) h1)) (mB D hh sz) (mA hh sz)) 0 0 (mA hh sz) := by
  refine Met.ofW (cc := cX4_lendUrgencies) (maxL := 3) (ret := none) (by decide) rfl ?_
  intro p e s m args below meth c s₁ B0 hml hv
  obtain ⟨hargs, hsz, hV, hE⟩ := hv
  subst hsz
  have hx := B0.exec
  have hb := B0.bytes
  have hr := B0.returns
  have hlocks := B0.notSynchronized
  have hts := atoms_spec (ws := wsX4_lendUrgencies) B0.pre
  have hown : s.vm.findClass RX4 = some m.cls := findClass_of_methodNamed B0.named
  have hK := hE.1.1
  have hA : ∀ q : Nat, s.heap.size ≤ q → mA hh s.heap.size q := mA.top
  have hS : va_S (mA hh s.heap.size) s.heap s.heap [] := va_S.rf
  have hi_X4 : ∀ w ∈ u_ws RX4 TX4 11, w ∈ wsX4_lendUrgencies := by decide +kernel
  have k21 : (Cond.fieldLink RX4 21 "TaskKernel" "tasks" "Ljava/util/ArrayList;").before args s = true := hts _ (by decide +kernel)
  have kc121 : (Cond.classLink RX4 121 "TaskKernel$Task").before args s = true := hts _ (by decide +kernel)
  have kq309 : va_Nw (.methodLinkNest RX4 309 yX3_ownUrgency "TaskKernel") s := hE.1.2.2.1 _ (List.mem_of_getElem? (i := 4) rfl)
  have kn219 : va_Nw (.fieldLinkNest RX4 219 "TaskKernel$Task" "urgency" "I" "TaskKernel") s := hE.1.2.1 _ (List.mem_of_getElem? (i := 25) rfl)
  have hi_X3 : ∀ w ∈ u_ws RX3 TX3 16, w ∈ wsX4_lendUrgencies := by decide +kernel
  have hl := lv_entry ([.ref (L 0 0)]) (n := 3) (by first | exact Nat.le_of_ble_eq_true rfl | simp [lg_sl, rf_cat, ct_ref, ct_int, ct_null, ct_long])
  have hent := lg_entry_eq m ([.ref (L 0 0)]) 3
  rw [← hargs] at hent
  rw [hent]
  generalize (lg_sl ([.ref (L 0 0)]) ++ List.replicate (3 - (lg_sl ([.ref (L 0 0)])).length) Slot.unset).toArray = ls at hl ⊢
  replace hl : lv_has ls 3 [(0, .ref (L 0 0))] := hl
  have hwf := hC.wf
  obtain ⟨⟨z0, z1, z2, z3, z4⟩, z5, z6, z7, z8, z9, z10, z11, z12⟩ := hwf
  refine lv_iconst (v := 0) hx hb dX4_lendUrgencies_0 (by decide) ?_
  refine lv_istore_n (lv' := [(1, .int 0), (0, .ref (L 0 0))]) hx hb dX4_lendUrgencies_1 rfl hl (by decide) rfl (fun ls hl => ?_)
  have lp2 : ∀ (fu : Nat) (i : Nat), (i ≤ kN σ 62 2) → kN σ 62 2 - i < fu → ∀ (h : mH) (H : Heap) (locs : List Loc), CRep cs df P h0 L (ownAll i σ) h → mV D h (mA hh s.heap.size) H → va_S (mA hh s.heap.size) s.heap H locs → ∀ (ls : Array Slot), lv_has ls 3 [(0, .ref (L 0 0)), (1, .int (nI i))] → W p l e ({ frames := 3, cells := 0, slots := 0, locals := 64 } : Room) s m args below meth c H locs 0 0 (MQ below (va_Qv ((fun (h1 : mH) => CRep cs df P h0 L (urgS σ) h1)) (mB D hh s.heap.size) (mA hh s.heap.size)) args s 0 0 (mA hh s.heap.size)) (F0 m 2 ls []) := by
    intro fu
    induction fu with
    | zero =>
      intro i hi hfu
      exact absurd hfu (Nat.not_lt_zero _)
    | succ fu ih2 =>
      intro i hi hfu h H locs hC hV hS ls hl
      have en : kN (ownAll i σ) 62 2 = kN σ 62 2 := by rw [ownAll_N]
      refine lv_iload_n hx hb dX4_lendUrgencies_2 rfl (lv_at hl 1 rfl) ?_
      refine lv_aload_n hx hb dX4_lendUrgencies_3 rfl (lv_at hl 0 rfl) ?_
      refine m_get (C := RX4) (T := TX4) (N := 11) hx hb hts hi_X4 hown hK hV 2 (v := .ref (L 5 2)) (g_kern2 hC rfl) rfl (by decide) k21 (fun _ h9 => h9) dX4_lendUrgencies_4 ?_
      refine m_calli (va_runV (As := []) (rest := [.int (nI i)]) ⟨hx, hb, hml, hown, hts⟩ (l_size (H.size) hC 2 (by decide)) (cwV 0 hts gX4_lendUrgencies_Jx4a65c_size_8abf5 rfl rfl rfl (by decide +kernel) ⟨by decide, by decide⟩) (m_preV (r := (RJx4a65c, TJx4a65c, 3)) hE hV hS hA (CRep.atL hC (j := 2) (by decide)) rfl) rfl rfl hl.1 rfl (lv_room (by first | exact Nat.le_of_ble_eq_true rfl | simp [rf_cat, ct_ref, ct_int, ct_null, ct_long])) dX4_lendUrgencies_7 ⟨by decide, by decide⟩) hV hS hA (fun r h1 H locs hV hS hp _ => ?_)
      obtain ⟨e1, e2⟩ := hp
      subst e2
      rw [e1] at hV; clear e1
      refine lv_icmp_ge (tgt := 39) hx hb dX4_lendUrgencies_10 (by decide) (fun c10 => ?_) (fun c10 => ?_)
      · replace c10 : kN (ownAll i σ) 62 2 ≤ i := (nI_leI (a := kN (ownAll i σ) 62 2) (b := i) (by omega) (by omega)).mp c10
        refine lv_iconst (v := 0) hx hb dX4_lendUrgencies_39 (by decide) ?_
        refine lv_istore_n (lv' := [(1, .int 0), (0, .ref (L 0 0))]) hx hb dX4_lendUrgencies_40 rfl hl (by decide) rfl (fun ls hl => ?_)
        have lp41 : ∀ (fu : Nat) (k : Nat), (k ≤ kN σ 62 2) → kN σ 62 2 - k < fu → ∀ (h : mH) (H : Heap) (locs : List Loc), CRep cs df P h0 L (lendAll k (ownAll (kN σ 62 2) σ)) h → mV D h (mA hh s.heap.size) H → va_S (mA hh s.heap.size) s.heap H locs → ∀ (ls : Array Slot), lv_has ls 3 [(0, .ref (L 0 0)), (1, .int (nI k))] → W p l e ({ frames := 3, cells := 0, slots := 0, locals := 64 } : Room) s m args below meth c H locs 0 0 (MQ below (va_Qv ((fun (h1 : mH) => CRep cs df P h0 L (urgS σ) h1)) (mB D hh s.heap.size) (mA hh s.heap.size)) args s 0 0 (mA hh s.heap.size)) (F0 m 41 ls []) := by
          intro fu
          induction fu with
          | zero =>
            intro k hk hfu
            exact absurd hfu (Nat.not_lt_zero _)
          | succ fu ih41 =>
            intro k hk hfu h H locs hC hV hS ls hl
            have en : kN (lendAll k (ownAll (kN σ 62 2) σ)) 62 2 = kN σ 62 2 := by rw [lendAll_N, ownAll_N]
            refine lv_iload_n hx hb dX4_lendUrgencies_41 rfl (lv_at hl 1 rfl) ?_
            refine lv_aload_n hx hb dX4_lendUrgencies_42 rfl (lv_at hl 0 rfl) ?_
            refine m_get (C := RX4) (T := TX4) (N := 11) hx hb hts hi_X4 hown hK hV 2 (v := .ref (L 5 2)) (g_kern2 hC rfl) rfl (by decide) k21 (fun _ h9 => h9) dX4_lendUrgencies_43 ?_
            refine m_calli (va_runV (As := []) (rest := [.int (nI k)]) ⟨hx, hb, hml, hown, hts⟩ (l_size (H.size) hC 2 (by decide)) (cwV 0 hts gX4_lendUrgencies_Jx4a65c_size_8abf5 rfl rfl rfl (by decide +kernel) ⟨by decide, by decide⟩) (m_preV (r := (RJx4a65c, TJx4a65c, 3)) hE hV hS hA (CRep.atL hC (j := 2) (by decide)) rfl) rfl rfl hl.1 rfl (lv_room (by first | exact Nat.le_of_ble_eq_true rfl | simp [rf_cat, ct_ref, ct_int, ct_null, ct_long])) dX4_lendUrgencies_46 ⟨by decide, by decide⟩) hV hS hA (fun r h1 H locs hV hS hp _ => ?_)
            obtain ⟨e1, e2⟩ := hp
            subst e2
            rw [e1] at hV; clear e1
            refine lv_icmp_ge (tgt := 78) hx hb dX4_lendUrgencies_49 (by decide) (fun c49 => ?_) (fun c49 => ?_)
            · replace c49 : kN (lendAll k (ownAll (kN σ 62 2) σ)) 62 2 ≤ k := (nI_leI (a := kN (lendAll k (ownAll (kN σ 62 2) σ)) 62 2) (b := k) (by omega) (by omega)).mp c49
              exact m_vret hx hb hr hlocks hV hS ((by rw [show k = kN σ 62 2 by omega] at hC; exact hC)) dX4_lendUrgencies_78
            · replace c49 : ¬ kN (lendAll k (ownAll (kN σ 62 2) σ)) 62 2 ≤ k := fun q9 => c49 ((nI_leI (a := kN (lendAll k (ownAll (kN σ 62 2) σ)) 62 2) (b := k) (by omega) (by omega)).mpr q9)
              refine lv_aload_n hx hb dX4_lendUrgencies_52 rfl (lv_at hl 0 rfl) ?_
              refine m_get (C := RX4) (T := TX4) (N := 11) hx hb hts hi_X4 hown hK hV 2 (v := .ref (L 5 2)) (g_kern2 hC rfl) rfl (by decide) k21 (fun _ h9 => h9) dX4_lendUrgencies_53 ?_
              refine lv_iload_n hx hb dX4_lendUrgencies_56 rfl (lv_at hl 1 rfl) ?_
              refine m_callq (va_runV (As := [.int (nI k)]) (rest := []) ⟨hx, hb, hml, hown, hts⟩ (l_get2 (H.size) hC k (by first | assumption | omega)) (cwV 1 hts gX4_lendUrgencies_Jx4a65c_get_915e3 rfl rfl rfl (by decide +kernel) ⟨by decide, by decide⟩) (m_preV (r := (RJx4a65c, TJx4a65c, 3)) hE hV hS hA (CRep.atL hC (j := 2) (by decide)) rfl) rfl rfl hl.1 rfl (lv_room (by first | exact Nat.le_of_ble_eq_true rfl | simp [rf_cat, ct_ref, ct_int, ct_null, ct_long])) dX4_lendUrgencies_57 ⟨by decide, by decide⟩) hV hS hA (fun r h1 H locs hV hS hp _ => ?_)
              obtain ⟨e1, e2⟩ := hp
              subst e2
              rw [e1] at hV; clear e1
              refine m_cast (r := (RX3, TX3, 16)) hx hb hE hV (hC.at (k := 3) (i := k) (by first | assumption | (show k < kN (lendAll k (ownAll (kN σ 62 2) σ)) 62 2; omega))) rfl hown kc121 dX4_lendUrgencies_60 ?_
              refine lv_astore_n (lv' := [(2, .ref (L 3 k)), (0, .ref (L 0 0)), (1, .int (nI k))]) hx hb dX4_lendUrgencies_63 rfl hl (by decide) rfl (fun ls hl => ?_)
              refine lv_aload_n hx hb dX4_lendUrgencies_64 rfl (lv_at hl 0 rfl) ?_
              refine lv_aload_n hx hb dX4_lendUrgencies_65 rfl (lv_at hl 0 rfl) ?_
              refine m_calli (va_runVN (As := []) (rest := [.ref (L 3 k)]) ⟨hx, hb, hml, hown, hts⟩ (c_X3_ownUrgency (l := l) (H.size) hC k (by first | assumption | omega)) ⟨va_cnB 0 hts gX4_lendUrgencies_X3_ownUrgency_n309 rfl rfl rfl kq309 (hts (.initialized RX3) (by decide +kernel)) (by decide +kernel) ⟨by decide, by decide⟩, hts (.instanceMethod yX3_ownUrgency) (by decide +kernel), hts (.selects RX3 yX3_ownUrgency yX3_ownUrgency) (by decide +kernel)⟩ (m_preV (r := (RX3, TX3, 16)) hE hV hS hA (hC.at (k := 3) (i := k) (by first | assumption | (show k < kN (lendAll k (ownAll (kN σ 62 2) σ)) 62 2; omega))) rfl) rfl rfl hl.1 rfl (lv_room (by first | exact Nat.le_of_ble_eq_true rfl | simp [rf_cat, ct_ref, ct_int, ct_null, ct_long])) dX4_lendUrgencies_66 ⟨by decide, by decide⟩) hV hS hA (fun r h1 H locs hV hS hp _ => ?_)
              obtain ⟨e1, e2⟩ := hp
              subst e2
              rw [e1] at hV; clear e1
              refine m_callv (va_runS (As := [.ref (L 3 k), .int (ownS (lendAll k (ownAll (kN σ 62 2) σ)) k)]) (rest := []) ⟨hx, hb, hml, hown, hts⟩ (c_X4_lendAlong (l := l) (H.size) hC k (ownS (lendAll k (ownAll (kN σ 62 2) σ)) k) (by first | assumption | omega)) (va_cwS 2 hts gX4_lendUrgencies_X4_lendAlong rfl rfl rfl (by decide +kernel) ⟨by decide, by decide⟩) (m_preS hE hV hS hA) rfl rfl hl.1 rfl (lv_room (by first | exact Nat.le_of_ble_eq_true rfl | simp [rf_cat, ct_ref, ct_int, ct_null, ct_long])) dX4_lendUrgencies_69 ⟨by decide, by decide⟩) hV hS hA (fun h H locs hV hS hp _ => ?_)
              replace hC := hp; clear hp
              refine lv_iinc (v := nI (k + 1)) (lv' := [(1, .int (nI (k + 1))), (2, .ref (L 3 k)), (0, .ref (L 0 0))]) hx hb dX4_lendUrgencies_72 hl (k := 2) rfl (show nI k + Int32.ofInt 1 = _ from nI_add k 1) (by decide) rfl (fun ls hl => ?_)
              refine lv_goto (tgt := 41) hx hb dX4_lendUrgencies_75 (by decide) ?_
              have q1 : (lendS (ownS (lendAll k (ownAll (kN σ 62 2) σ)) k) 12 (hbS (lendAll k (ownAll (kN σ 62 2) σ)) k) (lendAll k (ownAll (kN σ 62 2) σ))) = (lendAll (k + 1) (ownAll (kN σ 62 2) σ)) := rfl
              rw [q1] at hC
              exact ih41 (k + 1) (by omega) (by omega) _ _ _ hC hV hS ls (lv_sub hl [2, 0] rfl)
        have q2 : (ownAll i σ) = (lendAll 0 (ownAll (kN σ 62 2) σ)) := (by rw [show i = kN σ 62 2 by omega]; rfl)
        rw [q2] at hC
        have q3 : 0 = nI 0 := rfl
        replace hl : lv_has ls 3 [(1, .int (nI 0)), (0, .ref (L 0 0))] := (congrArg (lv_has ls 3) (m_lc (congrArg Value.int q3) (m_lc rfl rfl))).mp hl
        exact lp41 ((kN σ 62 2 - 0) + 1) 0 (Nat.zero_le _) (Nat.lt_succ_self _) _ _ _ hC hV hS ls (lv_sub hl [1, 0] rfl)
      · replace c10 : ¬ kN (ownAll i σ) 62 2 ≤ i := fun q9 => c10 ((nI_leI (a := kN (ownAll i σ) 62 2) (b := i) (by omega) (by omega)).mpr q9)
        refine lv_aload_n hx hb dX4_lendUrgencies_13 rfl (lv_at hl 0 rfl) ?_
        refine m_get (C := RX4) (T := TX4) (N := 11) hx hb hts hi_X4 hown hK hV 2 (v := .ref (L 5 2)) (g_kern2 hC rfl) rfl (by decide) k21 (fun _ h9 => h9) dX4_lendUrgencies_14 ?_
        refine lv_iload_n hx hb dX4_lendUrgencies_17 rfl (lv_at hl 1 rfl) ?_
        refine m_callq (va_runV (As := [.int (nI i)]) (rest := []) ⟨hx, hb, hml, hown, hts⟩ (l_get2 (H.size) hC i (by first | assumption | omega)) (cwV 1 hts gX4_lendUrgencies_Jx4a65c_get_915e3 rfl rfl rfl (by decide +kernel) ⟨by decide, by decide⟩) (m_preV (r := (RJx4a65c, TJx4a65c, 3)) hE hV hS hA (CRep.atL hC (j := 2) (by decide)) rfl) rfl rfl hl.1 rfl (lv_room (by first | exact Nat.le_of_ble_eq_true rfl | simp [rf_cat, ct_ref, ct_int, ct_null, ct_long])) dX4_lendUrgencies_18 ⟨by decide, by decide⟩) hV hS hA (fun r h1 H locs hV hS hp _ => ?_)
        obtain ⟨e1, e2⟩ := hp
        subst e2
        rw [e1] at hV; clear e1
        refine m_cast (r := (RX3, TX3, 16)) hx hb hE hV (hC.at (k := 3) (i := i) (by first | assumption | (show i < kN (ownAll i σ) 62 2; omega))) rfl hown kc121 dX4_lendUrgencies_21 ?_
        refine lv_astore_n (lv' := [(2, .ref (L 3 i)), (0, .ref (L 0 0)), (1, .int (nI i))]) hx hb dX4_lendUrgencies_24 rfl hl (by decide) rfl (fun ls hl => ?_)
        refine lv_aload_n hx hb dX4_lendUrgencies_25 rfl (lv_at hl 0 rfl) ?_
        refine lv_aload_n hx hb dX4_lendUrgencies_26 rfl (lv_at hl 0 rfl) ?_
        refine m_calli (va_runVN (As := []) (rest := [.ref (L 3 i)]) ⟨hx, hb, hml, hown, hts⟩ (c_X3_ownUrgency (l := l) (H.size) hC i (by first | assumption | omega)) ⟨va_cnB 0 hts gX4_lendUrgencies_X3_ownUrgency_n309 rfl rfl rfl kq309 (hts (.initialized RX3) (by decide +kernel)) (by decide +kernel) ⟨by decide, by decide⟩, hts (.instanceMethod yX3_ownUrgency) (by decide +kernel), hts (.selects RX3 yX3_ownUrgency yX3_ownUrgency) (by decide +kernel)⟩ (m_preV (r := (RX3, TX3, 16)) hE hV hS hA (hC.at (k := 3) (i := i) (by first | assumption | (show i < kN (ownAll i σ) 62 2; omega))) rfl) rfl rfl hl.1 rfl (lv_room (by first | exact Nat.le_of_ble_eq_true rfl | simp [rf_cat, ct_ref, ct_int, ct_null, ct_long])) dX4_lendUrgencies_27 ⟨by decide, by decide⟩) hV hS hA (fun r h1 H locs hV hS hp _ => ?_)
        obtain ⟨e1, e2⟩ := hp
        subst e2
        rw [e1] at hV; clear e1
        refine m_putN (host := "TaskKernel") (C := RX3) (T := TX3) (N := 16) (v := .int (ownS (ownAll i σ) i)) hx hb hts hi_X3 tyX3 tyX3_ok nmX3 hown hK hV hS 14 (p_task14 hC (by first | assumption | (show i < kN (ownAll i σ) 62 2; omega)) (ownS (ownAll i σ) i)) rfl (by decide) kn219 (fun _ h9 => h9) rfl (tyX3_ok 14 (by decide)) rfl rfl dX4_lendUrgencies_30 (fun h H locs hV hS hC => ?_)
        refine lv_iinc (v := nI (i + 1)) (lv' := [(1, .int (nI (i + 1))), (2, .ref (L 3 i)), (0, .ref (L 0 0))]) hx hb dX4_lendUrgencies_33 hl (k := 2) rfl (show nI i + Int32.ofInt 1 = _ from nI_add i 1) (by decide) rfl (fun ls hl => ?_)
        refine lv_goto (tgt := 2) hx hb dX4_lendUrgencies_36 (by decide) ?_
        have q4 : (sI (ownAll i σ) 44 (va_up (kI (ownAll i σ) 44) i (ownS (ownAll i σ) i))) = (ownAll (i + 1) σ) := rfl
        rw [q4] at hC
        exact ih2 (i + 1) (by omega) (by omega) _ _ _ hC hV hS ls (lv_sub hl [2, 0] rfl)
  have q5 : σ = (ownAll 0 σ) := rfl
  rw [q5] at hC
  have q6 : 0 = nI 0 := rfl
  replace hl : lv_has ls 3 [(1, .int (nI 0)), (0, .ref (L 0 0))] := (congrArg (lv_has ls 3) (m_lc (congrArg Value.int q6) (m_lc rfl rfl))).mp hl
  exact lp2 ((kN σ 62 2 - 0) + 1) 0 (Nat.zero_le _) (Nat.lt_succ_self _) _ _ _ hC hV hS ls (lv_sub hl [1, 0] rfl)
set_option maxHeartbeats 4000000 in
set_option maxRecDepth 100000 in
theorem c_X4_mostUrgent {l : Launch} {D : va_G} {cs : mC} {df : Nat} {P : Nat → Prop} {h0 : mH} {L : KL} {σ : KS} {hh : mH} (sz : Nat) (hC : CRep cs df P h0 L σ hh)  : Met l yX4_mostUrgent wsX4_mostUrgent ({ frames := 3, cells := 0, slots := 0, locals := 64 }) (mPre [.ref (L 0 0)] D cs df hh sz) (va_Qq ((fun (r : Option Nat) (h1 : mH) => h1 = hh ∧ r = (((muS σ (kN σ 62 2)).1).map (L 3)))) (mB D hh sz) (mA hh sz)) 0 0 (mA hh sz) := by
  refine Met.ofW (cc := cX4_mostUrgent) (maxL := 5) (ret := (some (.object "TaskKernel$Task"))) (by decide) rfl ?_
  intro p e s m args below meth c s₁ B0 hml hv
  obtain ⟨hargs, hsz, hV, hE⟩ := hv
  subst hsz
  have hx := B0.exec
  have hb := B0.bytes
  have hr := B0.returns
  have hlocks := B0.notSynchronized
  have hts := atoms_spec (ws := wsX4_mostUrgent) B0.pre
  have hown : s.vm.findClass RX4 = some m.cls := findClass_of_methodNamed B0.named
  have hK := hE.1.1
  have hA : ∀ q : Nat, s.heap.size ≤ q → mA hh s.heap.size q := mA.top
  have hS : va_S (mA hh s.heap.size) s.heap s.heap [] := va_S.rf
  have kk222 : (Cond.constant RX4 222 (2147483647)).before args s = true := hts _ (by decide +kernel)
  have hi_X4 : ∀ w ∈ u_ws RX4 TX4 11, w ∈ wsX4_mostUrgent := by decide +kernel
  have k21 : (Cond.fieldLink RX4 21 "TaskKernel" "tasks" "Ljava/util/ArrayList;").before args s = true := hts _ (by decide +kernel)
  have kc121 : (Cond.classLink RX4 121 "TaskKernel$Task").before args s = true := hts _ (by decide +kernel)
  have hi_X3 : ∀ w ∈ u_ws RX3 TX3 16, w ∈ wsX4_mostUrgent := by decide +kernel
  have kn316 : va_Nw (.fieldLinkNest RX4 316 "TaskKernel$Task" "canBeChosen" "Z" "TaskKernel") s := hE.1.2.1 _ (List.mem_of_getElem? (i := 26) rfl)
  have kn219 : va_Nw (.fieldLinkNest RX4 219 "TaskKernel$Task" "urgency" "I" "TaskKernel") s := hE.1.2.1 _ (List.mem_of_getElem? (i := 25) rfl)
  have hl := lv_entry ([.ref (L 0 0)]) (n := 5) (by first | exact Nat.le_of_ble_eq_true rfl | simp [lg_sl, rf_cat, ct_ref, ct_int, ct_null, ct_long])
  have hent := lg_entry_eq m ([.ref (L 0 0)]) 5
  rw [← hargs] at hent
  rw [hent]
  generalize (lg_sl ([.ref (L 0 0)]) ++ List.replicate (5 - (lg_sl ([.ref (L 0 0)])).length) Slot.unset).toArray = ls at hl ⊢
  replace hl : lv_has ls 5 [(0, .ref (L 0 0))] := hl
  have hwf := hC.wf
  obtain ⟨⟨z0, z1, z2, z3, z4⟩, z5, z6, z7, z8, z9, z10, z11, z12⟩ := hwf
  refine lv_null hx hb dX4_mostUrgent_0 ?_
  refine lv_astore_nN (lv' := [(1, .null), (0, .ref (L 0 0))]) hx hb dX4_mostUrgent_1 rfl hl (by decide) rfl (fun ls hl => ?_)
  refine lv_ldc (v := 2147483647) hx hb hown kk222 dX4_mostUrgent_2 ?_
  refine lv_istore_n (lv' := [(2, .int 2147483647), (1, .null), (0, .ref (L 0 0))]) hx hb dX4_mostUrgent_4 rfl hl (by decide) rfl (fun ls hl => ?_)
  refine lv_iconst (v := 0) hx hb dX4_mostUrgent_5 (by decide) ?_
  refine lv_istore_n (lv' := [(3, .int 0), (2, .int 2147483647), (1, .null), (0, .ref (L 0 0))]) hx hb dX4_mostUrgent_6 rfl hl (by decide) rfl (fun ls hl => ?_)
  have lp7 : ∀ (fu : Nat) (i : Nat), (i ≤ kN σ 62 2) → kN σ 62 2 - i < fu → ∀ (H : Heap) (locs : List Loc), mV D hh (mA hh s.heap.size) H → va_S (mA hh s.heap.size) s.heap H locs → ∀ (ls : Array Slot), lv_has ls 5 [(0, .ref (L 0 0)), (1, va_rf (((muS σ i).1).map (L 3))), (2, .int ((muS σ i).2)), (3, .int (nI i))] → W p l e ({ frames := 3, cells := 0, slots := 0, locals := 64 } : Room) s m args below meth c H locs 0 0 (MQ below (va_Qq ((fun (r : Option Nat) (h1 : mH) => h1 = hh ∧ r = (((muS σ (kN σ 62 2)).1).map (L 3)))) (mB D hh s.heap.size) (mA hh s.heap.size)) args s 0 0 (mA hh s.heap.size)) (F0 m 7 ls []) := by
    intro fu
    induction fu with
    | zero =>
      intro i hi hfu
      exact absurd hfu (Nat.not_lt_zero _)
    | succ fu ih7 =>
      intro i hi hfu H locs hV hS ls hl
      refine lv_iload_n hx hb dX4_mostUrgent_7 rfl (lv_at hl 3 rfl) ?_
      refine lv_aload_n hx hb dX4_mostUrgent_8 rfl (lv_at hl 0 rfl) ?_
      refine m_get (C := RX4) (T := TX4) (N := 11) hx hb hts hi_X4 hown hK hV 2 (v := .ref (L 5 2)) (g_kern2 hC rfl) rfl (by decide) k21 (fun _ h9 => h9) dX4_mostUrgent_9 ?_
      refine m_calli (va_runV (As := []) (rest := [.int (nI i)]) ⟨hx, hb, hml, hown, hts⟩ (l_size (H.size) hC 2 (by decide)) (cwV 0 hts gX4_mostUrgent_Jx4a65c_size_8abf5 rfl rfl rfl (by decide +kernel) ⟨by decide, by decide⟩) (m_preV (r := (RJx4a65c, TJx4a65c, 3)) hE hV hS hA (CRep.atL hC (j := 2) (by decide)) rfl) rfl rfl hl.1 rfl (lv_room (by first | exact Nat.le_of_ble_eq_true rfl | simp [rf_cat, ct_ref, ct_int, ct_null, ct_long])) dX4_mostUrgent_12 ⟨by decide, by decide⟩) hV hS hA (fun r h1 H locs hV hS hp _ => ?_)
      obtain ⟨e1, e2⟩ := hp
      subst e2
      rw [e1] at hV; clear e1
      refine lv_icmp_ge (tgt := 63) hx hb dX4_mostUrgent_15 (by decide) (fun c15 => ?_) (fun c15 => ?_)
      · replace c15 : kN σ 62 2 ≤ i := (nI_leI (a := kN σ 62 2) (b := i) (by omega) (by omega)).mp c15
        refine m_aload_nq hx hb dX4_mostUrgent_63 rfl (lv_at hl 1 rfl) ?_
        exact m_aret (v := (((muS σ i).1).map (L 3))) hx hb hr hlocks (Or.inl ⟨_, rfl⟩) hV hS (⟨rfl, by rw [show i = kN σ 62 2 by omega]⟩) dX4_mostUrgent_64
      · replace c15 : ¬ kN σ 62 2 ≤ i := fun q9 => c15 ((nI_leI (a := kN σ 62 2) (b := i) (by omega) (by omega)).mpr q9)
        refine lv_aload_n hx hb dX4_mostUrgent_18 rfl (lv_at hl 0 rfl) ?_
        refine m_get (C := RX4) (T := TX4) (N := 11) hx hb hts hi_X4 hown hK hV 2 (v := .ref (L 5 2)) (g_kern2 hC rfl) rfl (by decide) k21 (fun _ h9 => h9) dX4_mostUrgent_19 ?_
        refine lv_iload_n hx hb dX4_mostUrgent_22 rfl (lv_at hl 3 rfl) ?_
        refine m_callq (va_runV (As := [.int (nI i)]) (rest := []) ⟨hx, hb, hml, hown, hts⟩ (l_get2 (H.size) hC i (by first | assumption | omega)) (cwV 1 hts gX4_mostUrgent_Jx4a65c_get_915e3 rfl rfl rfl (by decide +kernel) ⟨by decide, by decide⟩) (m_preV (r := (RJx4a65c, TJx4a65c, 3)) hE hV hS hA (CRep.atL hC (j := 2) (by decide)) rfl) rfl rfl hl.1 rfl (lv_room (by first | exact Nat.le_of_ble_eq_true rfl | simp [rf_cat, ct_ref, ct_int, ct_null, ct_long])) dX4_mostUrgent_23 ⟨by decide, by decide⟩) hV hS hA (fun r h1 H locs hV hS hp _ => ?_)
        obtain ⟨e1, e2⟩ := hp
        subst e2
        rw [e1] at hV; clear e1
        refine m_cast (r := (RX3, TX3, 16)) hx hb hE hV (hC.at (k := 3) (i := i) (by first | assumption | (show i < kN σ 62 2; omega))) rfl hown kc121 dX4_mostUrgent_26 ?_
        refine lv_astore (lv' := [(4, .ref (L 3 i)), (0, .ref (L 0 0)), (1, va_rf (((muS σ i).1).map (L 3))), (2, .int ((muS σ i).2)), (3, .int (nI i))]) hx hb dX4_mostUrgent_29 hl (by decide) (by first | rfl | simp [rf_cat, ct_ref, ct_int, ct_long]) (fun ls hl => ?_)
        refine lv_aload hx hb dX4_mostUrgent_31 (lv_at hl 0 rfl) ?_
        refine m_getN (C := RX3) (T := TX3) (N := 16) (host := "TaskKernel") hx hb hts hi_X3 hown hK hV 15 (v := .int (bI (kB σ 45 i))) (g_task15 hC (by first | assumption | (show i < kN σ 62 2; omega))) rfl (by decide) kn316 (fun _ h9 => h9) dX4_mostUrgent_33 ?_
        refine lv_if_eq (tgt := 57) hx hb dX4_mostUrgent_36 (by decide) (fun c36 => ?_) (fun c36 => ?_)
        · replace c36 : kB σ 45 i = false := bI_0.mp c36
          refine lv_iinc (v := nI (i + 1)) (lv' := [(3, .int (nI (i + 1))), (4, .ref (L 3 i)), (0, .ref (L 0 0)), (1, va_rf (((muS σ i).1).map (L 3))), (2, .int ((muS σ i).2))]) hx hb dX4_mostUrgent_57 hl (k := 4) rfl (show nI i + Int32.ofInt 1 = _ from nI_add i 1) (by decide) (by first | rfl | simp [rf_cat, ct_ref, ct_int, ct_long]) (fun ls hl => ?_)
          refine lv_goto (tgt := 7) hx hb dX4_mostUrgent_60 (by decide) ?_
          have q1 : (va_rf (((muS σ i).1).map (L 3)) : Value) = va_rf (((muS σ (i + 1)).1).map (L 3)) := (by rw [muS, if_neg (fun q => absurd q.1 (by rw [c36]; decide))])
          have q2 : ((muS σ i).2) = ((muS σ (i + 1)).2) := (by rw [muS, if_neg (fun q => absurd q.1 (by rw [c36]; decide))])
          replace hl : lv_has ls 5 [(3, .int (nI (i + 1))), (4, .ref (L 3 i)), (0, .ref (L 0 0)), (1, va_rf (((muS σ (i + 1)).1).map (L 3))), (2, .int ((muS σ (i + 1)).2))] := (congrArg (lv_has ls 5) (m_lc rfl (m_lc rfl (m_lc rfl (m_lc q1 (m_lc (congrArg Value.int q2) rfl)))))).mp hl
          exact ih7 (i + 1) (by omega) (by omega) _ _ hV hS ls (lv_sub hl [2, 3, 4, 0] rfl)
        · replace c36 : kB σ 45 i = true := bI_1.mp c36
          refine lv_aload hx hb dX4_mostUrgent_39 (lv_at hl 0 rfl) ?_
          refine m_getN (C := RX3) (T := TX3) (N := 16) (host := "TaskKernel") hx hb hts hi_X3 hown hK hV 14 (v := .int (kI σ 44 i)) (g_task14 hC (by first | assumption | (show i < kN σ 62 2; omega))) rfl (by decide) kn219 (fun _ h9 => h9) dX4_mostUrgent_41 ?_
          refine lv_iload_n hx hb dX4_mostUrgent_44 rfl (lv_at hl 3 rfl) ?_
          refine lv_icmp_ge (tgt := 57) hx hb dX4_mostUrgent_45 (by decide) (fun c45 => ?_) (fun c45 => ?_)
          · refine lv_iinc (v := nI (i + 1)) (lv' := [(3, .int (nI (i + 1))), (4, .ref (L 3 i)), (0, .ref (L 0 0)), (1, va_rf (((muS σ i).1).map (L 3))), (2, .int ((muS σ i).2))]) hx hb dX4_mostUrgent_57 hl (k := 4) rfl (show nI i + Int32.ofInt 1 = _ from nI_add i 1) (by decide) (by first | rfl | simp [rf_cat, ct_ref, ct_int, ct_long]) (fun ls hl => ?_)
            refine lv_goto (tgt := 7) hx hb dX4_mostUrgent_60 (by decide) ?_
            have q3 : (va_rf (((muS σ i).1).map (L 3)) : Value) = va_rf (((muS σ (i + 1)).1).map (L 3)) := (by rw [muS, if_neg (fun q => Int32.not_lt.mpr c45 q.2)])
            have q4 : ((muS σ i).2) = ((muS σ (i + 1)).2) := (by rw [muS, if_neg (fun q => Int32.not_lt.mpr c45 q.2)])
            replace hl : lv_has ls 5 [(3, .int (nI (i + 1))), (4, .ref (L 3 i)), (0, .ref (L 0 0)), (1, va_rf (((muS σ (i + 1)).1).map (L 3))), (2, .int ((muS σ (i + 1)).2))] := (congrArg (lv_has ls 5) (m_lc rfl (m_lc rfl (m_lc rfl (m_lc q3 (m_lc (congrArg Value.int q4) rfl)))))).mp hl
            exact ih7 (i + 1) (by omega) (by omega) _ _ hV hS ls (lv_sub hl [2, 3, 4, 0] rfl)
          · refine lv_aload hx hb dX4_mostUrgent_48 (lv_at hl 0 rfl) ?_
            refine lv_astore_n (lv' := [(1, .ref (L 3 i)), (4, .ref (L 3 i)), (0, .ref (L 0 0)), (2, .int ((muS σ i).2)), (3, .int (nI i))]) hx hb dX4_mostUrgent_50 rfl hl (by decide) rfl (fun ls hl => ?_)
            refine lv_aload hx hb dX4_mostUrgent_51 (lv_at hl 1 rfl) ?_
            refine m_getN (C := RX3) (T := TX3) (N := 16) (host := "TaskKernel") hx hb hts hi_X3 hown hK hV 14 (v := .int (kI σ 44 i)) (g_task14 hC (by first | assumption | (show i < kN σ 62 2; omega))) rfl (by decide) kn219 (fun _ h9 => h9) dX4_mostUrgent_53 ?_
            refine lv_istore_n (lv' := [(2, .int (kI σ 44 i)), (1, .ref (L 3 i)), (4, .ref (L 3 i)), (0, .ref (L 0 0)), (3, .int (nI i))]) hx hb dX4_mostUrgent_56 rfl hl (by decide) rfl (fun ls hl => ?_)
            refine lv_iinc (v := nI (i + 1)) (lv' := [(3, .int (nI (i + 1))), (2, .int (kI σ 44 i)), (1, .ref (L 3 i)), (4, .ref (L 3 i)), (0, .ref (L 0 0))]) hx hb dX4_mostUrgent_57 hl (k := 4) rfl (show nI i + Int32.ofInt 1 = _ from nI_add i 1) (by decide) rfl (fun ls hl => ?_)
            refine lv_goto (tgt := 7) hx hb dX4_mostUrgent_60 (by decide) ?_
            have q5 : (.ref (L 3 i) : Value) = va_rf (((muS σ (i + 1)).1).map (L 3)) := (by rw [muS, if_pos ⟨c36, Int32.not_le.mp c45⟩]; rfl)
            have q6 : (kI σ 44 i) = ((muS σ (i + 1)).2) := (by rw [muS, if_pos ⟨c36, Int32.not_le.mp c45⟩])
            replace hl : lv_has ls 5 [(3, .int (nI (i + 1))), (2, .int ((muS σ (i + 1)).2)), (1, va_rf (((muS σ (i + 1)).1).map (L 3))), (4, .ref (L 3 i)), (0, .ref (L 0 0))] := (congrArg (lv_has ls 5) (m_lc rfl (m_lc (congrArg Value.int q6) (m_lc q5 (m_lc rfl (m_lc rfl rfl)))))).mp hl
            exact ih7 (i + 1) (by omega) (by omega) _ _ hV hS ls (lv_sub hl [4, 2, 1, 0] rfl)
  have q7 : (.null : Value) = va_rf (((muS σ 0).1).map (L 3)) := rfl
  have q8 : 2147483647 = ((muS σ 0).2) := rfl
  have q9 : 0 = nI 0 := rfl
  replace hl : lv_has ls 5 [(3, .int (nI 0)), (2, .int ((muS σ 0).2)), (1, va_rf (((muS σ 0).1).map (L 3))), (0, .ref (L 0 0))] := (congrArg (lv_has ls 5) (m_lc (congrArg Value.int q9) (m_lc (congrArg Value.int q8) (m_lc q7 (m_lc rfl rfl))))).mp hl
  exact lp7 ((kN σ 62 2 - 0) + 1) 0 (Nat.zero_le _) (Nat.lt_succ_self _) _ _ hV hS ls (lv_sub hl [3, 2, 1, 0] rfl)
set_option maxHeartbeats 4000000 in
set_option maxRecDepth 100000 in
theorem c_X4_leastTaskIn {l : Launch} {D : va_G} {cs : mC} {df : Nat} {P : Nat → Prop} {h0 : mH} {L : KL} {σ : KS} {hh : mH} (sz : Nat) (hC : CRep cs df P h0 L σ hh) (g : Nat) (hg : g < kN σ 62 1) : Met l yX4_leastTaskIn wsX4_leastTaskIn ({ frames := 3, cells := 0, slots := 0, locals := 64 }) (mPre [.ref (L 0 0), .ref (L 2 g)] D cs df hh sz) (va_Qq ((fun (r : Option Nat) (h1 : mH) => h1 = hh ∧ r = (((ltS σ g (kN σ 62 2))).map (L 3)))) (mB D hh sz) (mA hh sz)) 0 0 (mA hh sz) := by
  refine Met.ofW (cc := cX4_leastTaskIn) (maxL := 5) (ret := (some (.object "TaskKernel$Task"))) (by decide) rfl ?_
  intro p e s m args below meth c s₁ B0 hml hv
  obtain ⟨hargs, hsz, hV, hE⟩ := hv
  subst hsz
  have hx := B0.exec
  have hb := B0.bytes
  have hr := B0.returns
  have hlocks := B0.notSynchronized
  have hts := atoms_spec (ws := wsX4_leastTaskIn) B0.pre
  have hown : s.vm.findClass RX4 = some m.cls := findClass_of_methodNamed B0.named
  have hK := hE.1.1
  have hA : ∀ q : Nat, s.heap.size ≤ q → mA hh s.heap.size q := mA.top
  have hS : va_S (mA hh s.heap.size) s.heap s.heap [] := va_S.rf
  have hi_X4 : ∀ w ∈ u_ws RX4 TX4 11, w ∈ wsX4_leastTaskIn := by decide +kernel
  have k21 : (Cond.fieldLink RX4 21 "TaskKernel" "tasks" "Ljava/util/ArrayList;").before args s = true := hts _ (by decide +kernel)
  have kc121 : (Cond.classLink RX4 121 "TaskKernel$Task").before args s = true := hts _ (by decide +kernel)
  have hi_X3 : ∀ w ∈ u_ws RX3 TX3 16, w ∈ wsX4_leastTaskIn := by decide +kernel
  have kn296 : va_Nw (.fieldLinkNest RX4 296 "TaskKernel$Task" "group" "LTaskKernel$Group;" "TaskKernel") s := hE.1.2.1 _ (List.mem_of_getElem? (i := 12) rfl)
  have kn316 : va_Nw (.fieldLinkNest RX4 316 "TaskKernel$Task" "canBeChosen" "Z" "TaskKernel") s := hE.1.2.1 _ (List.mem_of_getElem? (i := 26) rfl)
  have kn191 : va_Nw (.fieldLinkNest RX4 191 "TaskKernel$Task" "time" "J" "TaskKernel") s := hE.1.2.1 _ (List.mem_of_getElem? (i := 14) rfl)
  have hl := lv_entry ([.ref (L 0 0), .ref (L 2 g)]) (n := 5) (by first | exact Nat.le_of_ble_eq_true rfl | simp [lg_sl, rf_cat, ct_ref, ct_int, ct_null, ct_long])
  have hent := lg_entry_eq m ([.ref (L 0 0), .ref (L 2 g)]) 5
  rw [← hargs] at hent
  rw [hent]
  generalize (lg_sl ([.ref (L 0 0), .ref (L 2 g)]) ++ List.replicate (5 - (lg_sl ([.ref (L 0 0), .ref (L 2 g)])).length) Slot.unset).toArray = ls at hl ⊢
  replace hl : lv_has ls 5 [(0, .ref (L 0 0)), (1, .ref (L 2 g))] := hl
  have hwf := hC.wf
  obtain ⟨⟨z0, z1, z2, z3, z4⟩, z5, z6, z7, z8, z9, z10, z11, z12⟩ := hwf
  refine lv_null hx hb dX4_leastTaskIn_0 ?_
  refine lv_astore_nN (lv' := [(2, .null), (0, .ref (L 0 0)), (1, .ref (L 2 g))]) hx hb dX4_leastTaskIn_1 rfl hl (by decide) rfl (fun ls hl => ?_)
  refine lv_iconst (v := 0) hx hb dX4_leastTaskIn_2 (by decide) ?_
  refine lv_istore_n (lv' := [(3, .int 0), (2, .null), (0, .ref (L 0 0)), (1, .ref (L 2 g))]) hx hb dX4_leastTaskIn_3 rfl hl (by decide) rfl (fun ls hl => ?_)
  have lp4 : ∀ (fu : Nat) (i : Nat), (i ≤ kN σ 62 2) → kN σ 62 2 - i < fu → ∀ (H : Heap) (locs : List Loc), mV D hh (mA hh s.heap.size) H → va_S (mA hh s.heap.size) s.heap H locs → ∀ (ls : Array Slot), lv_has ls 5 [(0, .ref (L 0 0)), (1, .ref (L 2 g)), (2, va_rf (((ltS σ g i)).map (L 3))), (3, .int (nI i))] → W p l e ({ frames := 3, cells := 0, slots := 0, locals := 64 } : Room) s m args below meth c H locs 0 0 (MQ below (va_Qq ((fun (r : Option Nat) (h1 : mH) => h1 = hh ∧ r = (((ltS σ g (kN σ 62 2))).map (L 3)))) (mB D hh s.heap.size) (mA hh s.heap.size)) args s 0 0 (mA hh s.heap.size)) (F0 m 4 ls []) := by
    intro fu
    induction fu with
    | zero =>
      intro i hi hfu
      exact absurd hfu (Nat.not_lt_zero _)
    | succ fu ih4 =>
      intro i hi hfu H locs hV hS ls hl
      refine lv_iload_n hx hb dX4_leastTaskIn_4 rfl (lv_at hl 3 rfl) ?_
      refine lv_aload_n hx hb dX4_leastTaskIn_5 rfl (lv_at hl 0 rfl) ?_
      refine m_get (C := RX4) (T := TX4) (N := 11) hx hb hts hi_X4 hown hK hV 2 (v := .ref (L 5 2)) (g_kern2 hC rfl) rfl (by decide) k21 (fun _ h9 => h9) dX4_leastTaskIn_6 ?_
      refine m_calli (va_runV (As := []) (rest := [.int (nI i)]) ⟨hx, hb, hml, hown, hts⟩ (l_size (H.size) hC 2 (by decide)) (cwV 0 hts gX4_leastTaskIn_Jx4a65c_size_8abf5 rfl rfl rfl (by decide +kernel) ⟨by decide, by decide⟩) (m_preV (r := (RJx4a65c, TJx4a65c, 3)) hE hV hS hA (CRep.atL hC (j := 2) (by decide)) rfl) rfl rfl hl.1 rfl (lv_room (by first | exact Nat.le_of_ble_eq_true rfl | simp [rf_cat, ct_ref, ct_int, ct_null, ct_long])) dX4_leastTaskIn_9 ⟨by decide, by decide⟩) hV hS hA (fun r h1 H locs hV hS hp _ => ?_)
      obtain ⟨e1, e2⟩ := hp
      subst e2
      rw [e1] at hV; clear e1
      refine lv_icmp_ge (tgt := 71) hx hb dX4_leastTaskIn_12 (by decide) (fun c12 => ?_) (fun c12 => ?_)
      · replace c12 : kN σ 62 2 ≤ i := (nI_leI (a := kN σ 62 2) (b := i) (by omega) (by omega)).mp c12
        refine m_aload_nq hx hb dX4_leastTaskIn_71 rfl (lv_at hl 2 rfl) ?_
        exact m_aret (v := (((ltS σ g i)).map (L 3))) hx hb hr hlocks (Or.inl ⟨_, rfl⟩) hV hS (⟨rfl, by rw [show i = kN σ 62 2 by omega]⟩) dX4_leastTaskIn_72
      · replace c12 : ¬ kN σ 62 2 ≤ i := fun q9 => c12 ((nI_leI (a := kN σ 62 2) (b := i) (by omega) (by omega)).mpr q9)
        refine lv_aload_n hx hb dX4_leastTaskIn_15 rfl (lv_at hl 0 rfl) ?_
        refine m_get (C := RX4) (T := TX4) (N := 11) hx hb hts hi_X4 hown hK hV 2 (v := .ref (L 5 2)) (g_kern2 hC rfl) rfl (by decide) k21 (fun _ h9 => h9) dX4_leastTaskIn_16 ?_
        refine lv_iload_n hx hb dX4_leastTaskIn_19 rfl (lv_at hl 3 rfl) ?_
        refine m_callq (va_runV (As := [.int (nI i)]) (rest := []) ⟨hx, hb, hml, hown, hts⟩ (l_get2 (H.size) hC i (by first | assumption | omega)) (cwV 1 hts gX4_leastTaskIn_Jx4a65c_get_915e3 rfl rfl rfl (by decide +kernel) ⟨by decide, by decide⟩) (m_preV (r := (RJx4a65c, TJx4a65c, 3)) hE hV hS hA (CRep.atL hC (j := 2) (by decide)) rfl) rfl rfl hl.1 rfl (lv_room (by first | exact Nat.le_of_ble_eq_true rfl | simp [rf_cat, ct_ref, ct_int, ct_null, ct_long])) dX4_leastTaskIn_20 ⟨by decide, by decide⟩) hV hS hA (fun r h1 H locs hV hS hp _ => ?_)
        obtain ⟨e1, e2⟩ := hp
        subst e2
        rw [e1] at hV; clear e1
        refine m_cast (r := (RX3, TX3, 16)) hx hb hE hV (hC.at (k := 3) (i := i) (by first | assumption | (show i < kN σ 62 2; omega))) rfl hown kc121 dX4_leastTaskIn_23 ?_
        refine lv_astore (lv' := [(4, .ref (L 3 i)), (0, .ref (L 0 0)), (1, .ref (L 2 g)), (2, va_rf (((ltS σ g i)).map (L 3))), (3, .int (nI i))]) hx hb dX4_leastTaskIn_26 hl (by decide) (by first | rfl | simp [rf_cat, ct_ref, ct_int, ct_long]) (fun ls hl => ?_)
        refine lv_aload hx hb dX4_leastTaskIn_28 (lv_at hl 0 rfl) ?_
        refine m_getN (C := RX3) (T := TX3) (N := 16) (host := "TaskKernel") hx hb hts hi_X3 hown hK hV 1 (v := .ref (L 2 (kN σ 31 i))) (g_task1 hC (by first | assumption | (show i < kN σ 62 2; omega))) rfl (by decide) kn296 (fun _ h9 => h9) dX4_leastTaskIn_30 ?_
        refine lv_aload_n hx hb dX4_leastTaskIn_33 rfl (lv_at hl 2 rfl) ?_
        refine lv_acmp_ne (rx := (some (L 2 (kN σ 31 i)))) (ry := (some (L 2 g))) (tgt := 65) hx hb dX4_leastTaskIn_34 (by decide) (fun c34 => ?_) (fun c34 => ?_)
        · replace c34 : ¬ (kN σ 31 i) = g := fun q9 => c34 (by rw [q9])
          refine lv_iinc (v := nI (i + 1)) (lv' := [(3, .int (nI (i + 1))), (4, .ref (L 3 i)), (0, .ref (L 0 0)), (1, .ref (L 2 g)), (2, va_rf (((ltS σ g i)).map (L 3)))]) hx hb dX4_leastTaskIn_65 hl (k := 4) rfl (show nI i + Int32.ofInt 1 = _ from nI_add i 1) (by decide) (by first | rfl | simp [rf_cat, ct_ref, ct_int, ct_long]) (fun ls hl => ?_)
          refine lv_goto (tgt := 4) hx hb dX4_leastTaskIn_68 (by decide) ?_
          have q1 : (va_rf (((ltS σ g i)).map (L 3)) : Value) = va_rf (((ltS σ g (i + 1))).map (L 3)) := (by rw [ltS, if_neg (fun q => c34 q.1)])
          replace hl : lv_has ls 5 [(3, .int (nI (i + 1))), (4, .ref (L 3 i)), (0, .ref (L 0 0)), (1, .ref (L 2 g)), (2, va_rf (((ltS σ g (i + 1))).map (L 3)))] := (congrArg (lv_has ls 5) (m_lc rfl (m_lc rfl (m_lc rfl (m_lc rfl (m_lc q1 rfl)))))).mp hl
          exact ih4 (i + 1) (by omega) (by omega) _ _ hV hS ls (lv_sub hl [2, 3, 4, 0] rfl)
        · replace c34 : (kN σ 31 i) = g := (hC.inj (k := 2) (k2 := 2) (hC.wf.2.2.2.2.2.1 i (by first | assumption | (show i < kN σ 62 2; omega))) (by first | assumption | (show g < kN σ 62 1; omega)) (Option.some.inj c34)).2
          refine lv_aload hx hb dX4_leastTaskIn_37 (lv_at hl 0 rfl) ?_
          refine m_getN (C := RX3) (T := TX3) (N := 16) (host := "TaskKernel") hx hb hts hi_X3 hown hK hV 15 (v := .int (bI (kB σ 45 i))) (g_task15 hC (by first | assumption | (show i < kN σ 62 2; omega))) rfl (by decide) kn316 (fun _ h9 => h9) dX4_leastTaskIn_39 ?_
          refine lv_if_eq (tgt := 65) hx hb dX4_leastTaskIn_42 (by decide) (fun c42 => ?_) (fun c42 => ?_)
          · replace c42 : kB σ 45 i = false := bI_0.mp c42
            refine lv_iinc (v := nI (i + 1)) (lv' := [(3, .int (nI (i + 1))), (4, .ref (L 3 i)), (0, .ref (L 0 0)), (1, .ref (L 2 g)), (2, va_rf (((ltS σ g i)).map (L 3)))]) hx hb dX4_leastTaskIn_65 hl (k := 4) rfl (show nI i + Int32.ofInt 1 = _ from nI_add i 1) (by decide) (by first | rfl | simp [rf_cat, ct_ref, ct_int, ct_long]) (fun ls hl => ?_)
            refine lv_goto (tgt := 4) hx hb dX4_leastTaskIn_68 (by decide) ?_
            have q2 : (va_rf (((ltS σ g i)).map (L 3)) : Value) = va_rf (((ltS σ g (i + 1))).map (L 3)) := (by rw [ltS, if_neg (fun q => absurd q.2.1 (by rw [c42]; decide))])
            replace hl : lv_has ls 5 [(3, .int (nI (i + 1))), (4, .ref (L 3 i)), (0, .ref (L 0 0)), (1, .ref (L 2 g)), (2, va_rf (((ltS σ g (i + 1))).map (L 3)))] := (congrArg (lv_has ls 5) (m_lc rfl (m_lc rfl (m_lc rfl (m_lc rfl (m_lc q2 rfl)))))).mp hl
            exact ih4 (i + 1) (by omega) (by omega) _ _ hV hS ls (lv_sub hl [2, 3, 4, 0] rfl)
          · replace c42 : kB σ 45 i = true := bI_1.mp c42
            refine m_aload_nq hx hb dX4_leastTaskIn_45 rfl (lv_at hl 3 rfl) ?_
            refine m_ifnull_q (o := (ltS σ g i)) (f := L 3) (tgt := 62) hx hb dX4_leastTaskIn_46 (by decide) (fun c46 => ?_) (fun k46 c46 => ?_)
            · replace hl : lv_has ls 5 [(4, .ref (L 3 i)), (0, .ref (L 0 0)), (1, .ref (L 2 g)), (2, .null), (3, .int (nI i))] := by have h9 := hl; rw [c46] at h9; exact h9
              refine lv_aload hx hb dX4_leastTaskIn_62 (lv_at hl 0 rfl) ?_
              refine lv_astore_n (lv' := [(2, .ref (L 3 i)), (4, .ref (L 3 i)), (0, .ref (L 0 0)), (1, .ref (L 2 g)), (3, .int (nI i))]) hx hb dX4_leastTaskIn_64 rfl hl (by decide) rfl (fun ls hl => ?_)
              refine lv_iinc (v := nI (i + 1)) (lv' := [(3, .int (nI (i + 1))), (2, .ref (L 3 i)), (4, .ref (L 3 i)), (0, .ref (L 0 0)), (1, .ref (L 2 g))]) hx hb dX4_leastTaskIn_65 hl (k := 4) rfl (show nI i + Int32.ofInt 1 = _ from nI_add i 1) (by decide) rfl (fun ls hl => ?_)
              refine lv_goto (tgt := 4) hx hb dX4_leastTaskIn_68 (by decide) ?_
              have q3 : (.ref (L 3 i) : Value) = va_rf (((ltS σ g (i + 1))).map (L 3)) := (by rw [ltS, if_pos ⟨c34, c42, by rw [c46]⟩]; rfl)
              replace hl : lv_has ls 5 [(3, .int (nI (i + 1))), (2, va_rf (((ltS σ g (i + 1))).map (L 3))), (4, .ref (L 3 i)), (0, .ref (L 0 0)), (1, .ref (L 2 g))] := (congrArg (lv_has ls 5) (m_lc rfl (m_lc q3 (m_lc rfl (m_lc rfl (m_lc rfl rfl)))))).mp hl
              exact ih4 (i + 1) (by omega) (by omega) _ _ hV hS ls (lv_sub hl [3, 4, 1, 0] rfl)
            · have bk46 := ltS_lt c46
              replace hl : lv_has ls 5 [(4, .ref (L 3 i)), (0, .ref (L 0 0)), (1, .ref (L 2 g)), (2, .ref (L 3 k46)), (3, .int (nI i))] := by have h9 := hl; rw [c46] at h9; exact h9
              refine lv_aload hx hb dX4_leastTaskIn_49 (lv_at hl 0 rfl) ?_
              refine m_getN (C := RX3) (T := TX3) (N := 16) (host := "TaskKernel") hx hb hts hi_X3 hown hK hV 3 (v := .long (kW σ 33 i)) (g_task3 hC (by first | assumption | (show i < kN σ 62 2; omega))) rfl (by decide) kn191 (fun _ h9 => h9) dX4_leastTaskIn_51 ?_
              refine lv_aload_n hx hb dX4_leastTaskIn_54 rfl (lv_at hl 3 rfl) ?_
              refine m_getN (C := RX3) (T := TX3) (N := 16) (host := "TaskKernel") hx hb hts hi_X3 hown hK hV 3 (v := .long (kW σ 33 k46)) (g_task3 hC (by first | assumption | (show k46 < kN σ 62 2; omega))) rfl (by decide) kn191 (fun _ h9 => h9) dX4_leastTaskIn_55 ?_
              refine m_lcmp_ge (tgt := 65) hx hb dX4_leastTaskIn_58 dX4_leastTaskIn_59 (by decide) (fun c59 => ?_) (fun c59 => ?_)
              · refine lv_iinc (v := nI (i + 1)) (lv' := [(3, .int (nI (i + 1))), (4, .ref (L 3 i)), (0, .ref (L 0 0)), (1, .ref (L 2 g)), (2, .ref (L 3 k46))]) hx hb dX4_leastTaskIn_65 hl (k := 4) rfl (show nI i + Int32.ofInt 1 = _ from nI_add i 1) (by decide) rfl (fun ls hl => ?_)
                refine lv_goto (tgt := 4) hx hb dX4_leastTaskIn_68 (by decide) ?_
                have q4 : (.ref (L 3 k46) : Value) = va_rf (((ltS σ g (i + 1))).map (L 3)) := (by rw [ltS, if_neg (fun q => absurd (of_decide_eq_true (by have z := q.2.2; rw [c46] at z; exact z)) (Int64.not_lt.mpr c59)), c46]; rfl)
                replace hl : lv_has ls 5 [(3, .int (nI (i + 1))), (4, .ref (L 3 i)), (0, .ref (L 0 0)), (1, .ref (L 2 g)), (2, va_rf (((ltS σ g (i + 1))).map (L 3)))] := (congrArg (lv_has ls 5) (m_lc rfl (m_lc rfl (m_lc rfl (m_lc rfl (m_lc q4 rfl)))))).mp hl
                exact ih4 (i + 1) (by omega) (by omega) _ _ hV hS ls (lv_sub hl [2, 3, 4, 0] rfl)
              · refine lv_aload hx hb dX4_leastTaskIn_62 (lv_at hl 0 rfl) ?_
                refine lv_astore_n (lv' := [(2, .ref (L 3 i)), (4, .ref (L 3 i)), (0, .ref (L 0 0)), (1, .ref (L 2 g)), (3, .int (nI i))]) hx hb dX4_leastTaskIn_64 rfl hl (by decide) rfl (fun ls hl => ?_)
                refine lv_iinc (v := nI (i + 1)) (lv' := [(3, .int (nI (i + 1))), (2, .ref (L 3 i)), (4, .ref (L 3 i)), (0, .ref (L 0 0)), (1, .ref (L 2 g))]) hx hb dX4_leastTaskIn_65 hl (k := 4) rfl (show nI i + Int32.ofInt 1 = _ from nI_add i 1) (by decide) rfl (fun ls hl => ?_)
                refine lv_goto (tgt := 4) hx hb dX4_leastTaskIn_68 (by decide) ?_
                have q5 : (.ref (L 3 i) : Value) = va_rf (((ltS σ g (i + 1))).map (L 3)) := (by rw [ltS, if_pos ⟨c34, c42, by rw [c46]; exact decide_eq_true (Int64.not_le.mp c59)⟩]; rfl)
                replace hl : lv_has ls 5 [(3, .int (nI (i + 1))), (2, va_rf (((ltS σ g (i + 1))).map (L 3))), (4, .ref (L 3 i)), (0, .ref (L 0 0)), (1, .ref (L 2 g))] := (congrArg (lv_has ls 5) (m_lc rfl (m_lc q5 (m_lc rfl (m_lc rfl (m_lc rfl rfl)))))).mp hl
                exact ih4 (i + 1) (by omega) (by omega) _ _ hV hS ls (lv_sub hl [3, 4, 1, 0] rfl)
  have q6 : (.null : Value) = va_rf (((ltS σ g 0)).map (L 3)) := rfl
  have q7 : 0 = nI 0 := rfl
  replace hl : lv_has ls 5 [(3, .int (nI 0)), (2, va_rf (((ltS σ g 0)).map (L 3))), (0, .ref (L 0 0)), (1, .ref (L 2 g))] := (congrArg (lv_has ls 5) (m_lc (congrArg Value.int q7) (m_lc q6 (m_lc rfl (m_lc rfl rfl))))).mp hl
  exact lp4 ((kN σ 62 2 - 0) + 1) 0 (Nat.zero_le _) (Nat.lt_succ_self _) _ _ hV hS ls (lv_sub hl [2, 3, 1, 0] rfl)
set_option maxHeartbeats 4000000 in
set_option maxRecDepth 100000 in
theorem c_X4_leastLiveGroupIn {l : Launch} {D : va_G} {cs : mC} {df : Nat} {P : Nat → Prop} {h0 : mH} {L : KL} {σ : KS} {hh : mH} (sz : Nat) (hC : CRep cs df P h0 L σ hh) (g : Nat) (hg : g < kN σ 62 1) : Met l yX4_leastLiveGroupIn wsX4_leastLiveGroupIn ({ frames := 3, cells := 0, slots := 0, locals := 64 }) (mPre [.ref (L 0 0), .ref (L 2 g)] D cs df hh sz) (va_Qq ((fun (r : Option Nat) (h1 : mH) => h1 = hh ∧ r = (((lgS σ g (kN σ 62 1))).map (L 2)))) (mB D hh sz) (mA hh sz)) 0 0 (mA hh sz) := by
  refine Met.ofW (cc := cX4_leastLiveGroupIn) (maxL := 5) (ret := (some (.object "TaskKernel$Group"))) (by decide) rfl ?_
  intro p e s m args below meth c s₁ B0 hml hv
  obtain ⟨hargs, hsz, hV, hE⟩ := hv
  subst hsz
  have hx := B0.exec
  have hb := B0.bytes
  have hr := B0.returns
  have hlocks := B0.notSynchronized
  have hts := atoms_spec (ws := wsX4_leastLiveGroupIn) B0.pre
  have hown : s.vm.findClass RX4 = some m.cls := findClass_of_methodNamed B0.named
  have hK := hE.1.1
  have hA : ∀ q : Nat, s.heap.size ≤ q → mA hh s.heap.size q := mA.top
  have hS : va_S (mA hh s.heap.size) s.heap s.heap [] := va_S.rf
  have hi_X4 : ∀ w ∈ u_ws RX4 TX4 11, w ∈ wsX4_leastLiveGroupIn := by decide +kernel
  have k18 : (Cond.fieldLink RX4 18 "TaskKernel" "groups" "Ljava/util/ArrayList;").before args s = true := hts _ (by decide +kernel)
  have kc27 : (Cond.classLink RX4 27 "TaskKernel$Group").before args s = true := hts _ (by decide +kernel)
  have hi_X1 : ∀ w ∈ u_ws RX1 TX1 6, w ∈ wsX4_leastLiveGroupIn := by decide +kernel
  have kn340 : va_Nw (.fieldLinkNest RX4 340 "TaskKernel$Group" "live" "Z" "TaskKernel") s := hE.1.2.1 _ (List.mem_of_getElem? (i := 5) rfl)
  have kn290 : va_Nw (.fieldLinkNest RX4 290 "TaskKernel$Group" "parent" "LTaskKernel$Group;" "TaskKernel") s := hE.1.2.1 _ (List.mem_of_getElem? (i := 1) rfl)
  have kn197 : va_Nw (.fieldLinkNest RX4 197 "TaskKernel$Group" "time" "J" "TaskKernel") s := hE.1.2.1 _ (List.mem_of_getElem? (i := 3) rfl)
  have hl := lv_entry ([.ref (L 0 0), .ref (L 2 g)]) (n := 5) (by first | exact Nat.le_of_ble_eq_true rfl | simp [lg_sl, rf_cat, ct_ref, ct_int, ct_null, ct_long])
  have hent := lg_entry_eq m ([.ref (L 0 0), .ref (L 2 g)]) 5
  rw [← hargs] at hent
  rw [hent]
  generalize (lg_sl ([.ref (L 0 0), .ref (L 2 g)]) ++ List.replicate (5 - (lg_sl ([.ref (L 0 0), .ref (L 2 g)])).length) Slot.unset).toArray = ls at hl ⊢
  replace hl : lv_has ls 5 [(0, .ref (L 0 0)), (1, .ref (L 2 g))] := hl
  have hwf := hC.wf
  obtain ⟨⟨z0, z1, z2, z3, z4⟩, z5, z6, z7, z8, z9, z10, z11, z12⟩ := hwf
  refine lv_null hx hb dX4_leastLiveGroupIn_0 ?_
  refine lv_astore_nN (lv' := [(2, .null), (0, .ref (L 0 0)), (1, .ref (L 2 g))]) hx hb dX4_leastLiveGroupIn_1 rfl hl (by decide) rfl (fun ls hl => ?_)
  refine lv_iconst (v := 0) hx hb dX4_leastLiveGroupIn_2 (by decide) ?_
  refine lv_istore_n (lv' := [(3, .int 0), (2, .null), (0, .ref (L 0 0)), (1, .ref (L 2 g))]) hx hb dX4_leastLiveGroupIn_3 rfl hl (by decide) rfl (fun ls hl => ?_)
  have lp4 : ∀ (fu : Nat) (i : Nat), (i ≤ kN σ 62 1) → kN σ 62 1 - i < fu → ∀ (H : Heap) (locs : List Loc), mV D hh (mA hh s.heap.size) H → va_S (mA hh s.heap.size) s.heap H locs → ∀ (ls : Array Slot), lv_has ls 5 [(0, .ref (L 0 0)), (1, .ref (L 2 g)), (2, va_rf (((lgS σ g i)).map (L 2))), (3, .int (nI i))] → W p l e ({ frames := 3, cells := 0, slots := 0, locals := 64 } : Room) s m args below meth c H locs 0 0 (MQ below (va_Qq ((fun (r : Option Nat) (h1 : mH) => h1 = hh ∧ r = (((lgS σ g (kN σ 62 1))).map (L 2)))) (mB D hh s.heap.size) (mA hh s.heap.size)) args s 0 0 (mA hh s.heap.size)) (F0 m 4 ls []) := by
    intro fu
    induction fu with
    | zero =>
      intro i hi hfu
      exact absurd hfu (Nat.not_lt_zero _)
    | succ fu ih4 =>
      intro i hi hfu H locs hV hS ls hl
      refine lv_iload_n hx hb dX4_leastLiveGroupIn_4 rfl (lv_at hl 3 rfl) ?_
      refine lv_aload_n hx hb dX4_leastLiveGroupIn_5 rfl (lv_at hl 0 rfl) ?_
      refine m_get (C := RX4) (T := TX4) (N := 11) hx hb hts hi_X4 hown hK hV 1 (v := .ref (L 5 1)) (g_kern1 hC rfl) rfl (by decide) k18 (fun _ h9 => h9) dX4_leastLiveGroupIn_6 ?_
      refine m_calli (va_runV (As := []) (rest := [.int (nI i)]) ⟨hx, hb, hml, hown, hts⟩ (l_size (H.size) hC 1 (by decide)) (cwV 0 hts gX4_leastLiveGroupIn_Jx4a65c_size_8abf5 rfl rfl rfl (by decide +kernel) ⟨by decide, by decide⟩) (m_preV (r := (RJx4a65c, TJx4a65c, 3)) hE hV hS hA (CRep.atL hC (j := 1) (by decide)) rfl) rfl rfl hl.1 rfl (lv_room (by first | exact Nat.le_of_ble_eq_true rfl | simp [rf_cat, ct_ref, ct_int, ct_null, ct_long])) dX4_leastLiveGroupIn_9 ⟨by decide, by decide⟩) hV hS hA (fun r h1 H locs hV hS hp _ => ?_)
      obtain ⟨e1, e2⟩ := hp
      subst e2
      rw [e1] at hV; clear e1
      refine lv_icmp_ge (tgt := 71) hx hb dX4_leastLiveGroupIn_12 (by decide) (fun c12 => ?_) (fun c12 => ?_)
      · replace c12 : kN σ 62 1 ≤ i := (nI_leI (a := kN σ 62 1) (b := i) (by omega) (by omega)).mp c12
        refine m_aload_nq hx hb dX4_leastLiveGroupIn_71 rfl (lv_at hl 2 rfl) ?_
        exact m_aret (v := (((lgS σ g i)).map (L 2))) hx hb hr hlocks (Or.inl ⟨_, rfl⟩) hV hS (⟨rfl, by rw [show i = kN σ 62 1 by omega]⟩) dX4_leastLiveGroupIn_72
      · replace c12 : ¬ kN σ 62 1 ≤ i := fun q9 => c12 ((nI_leI (a := kN σ 62 1) (b := i) (by omega) (by omega)).mpr q9)
        refine lv_aload_n hx hb dX4_leastLiveGroupIn_15 rfl (lv_at hl 0 rfl) ?_
        refine m_get (C := RX4) (T := TX4) (N := 11) hx hb hts hi_X4 hown hK hV 1 (v := .ref (L 5 1)) (g_kern1 hC rfl) rfl (by decide) k18 (fun _ h9 => h9) dX4_leastLiveGroupIn_16 ?_
        refine lv_iload_n hx hb dX4_leastLiveGroupIn_19 rfl (lv_at hl 3 rfl) ?_
        refine m_callq (va_runV (As := [.int (nI i)]) (rest := []) ⟨hx, hb, hml, hown, hts⟩ (l_get1 (H.size) hC i (by first | assumption | omega)) (cwV 1 hts gX4_leastLiveGroupIn_Jx4a65c_get_915e3 rfl rfl rfl (by decide +kernel) ⟨by decide, by decide⟩) (m_preV (r := (RJx4a65c, TJx4a65c, 3)) hE hV hS hA (CRep.atL hC (j := 1) (by decide)) rfl) rfl rfl hl.1 rfl (lv_room (by first | exact Nat.le_of_ble_eq_true rfl | simp [rf_cat, ct_ref, ct_int, ct_null, ct_long])) dX4_leastLiveGroupIn_20 ⟨by decide, by decide⟩) hV hS hA (fun r h1 H locs hV hS hp _ => ?_)
        obtain ⟨e1, e2⟩ := hp
        subst e2
        rw [e1] at hV; clear e1
        refine m_cast (r := (RX1, TX1, 6)) hx hb hE hV (hC.at (k := 2) (i := i) (by first | assumption | (show i < kN σ 62 1; omega))) rfl hown kc27 dX4_leastLiveGroupIn_23 ?_
        refine lv_astore (lv' := [(4, .ref (L 2 i)), (0, .ref (L 0 0)), (1, .ref (L 2 g)), (2, va_rf (((lgS σ g i)).map (L 2))), (3, .int (nI i))]) hx hb dX4_leastLiveGroupIn_26 hl (by decide) (by first | rfl | simp [rf_cat, ct_ref, ct_int, ct_long]) (fun ls hl => ?_)
        refine lv_aload hx hb dX4_leastLiveGroupIn_28 (lv_at hl 0 rfl) ?_
        refine m_getN (C := RX1) (T := TX1) (N := 6) (host := "TaskKernel") hx hb hts hi_X1 hown hK hV 5 (v := .int (bI (kB σ 25 i))) (g_grp5 hC (by first | assumption | (show i < kN σ 62 1; omega))) rfl (by decide) kn340 (fun _ h9 => h9) dX4_leastLiveGroupIn_30 ?_
        refine lv_if_eq (tgt := 65) hx hb dX4_leastLiveGroupIn_33 (by decide) (fun c33 => ?_) (fun c33 => ?_)
        · replace c33 : kB σ 25 i = false := bI_0.mp c33
          refine lv_iinc (v := nI (i + 1)) (lv' := [(3, .int (nI (i + 1))), (4, .ref (L 2 i)), (0, .ref (L 0 0)), (1, .ref (L 2 g)), (2, va_rf (((lgS σ g i)).map (L 2)))]) hx hb dX4_leastLiveGroupIn_65 hl (k := 4) rfl (show nI i + Int32.ofInt 1 = _ from nI_add i 1) (by decide) (by first | rfl | simp [rf_cat, ct_ref, ct_int, ct_long]) (fun ls hl => ?_)
          refine lv_goto (tgt := 4) hx hb dX4_leastLiveGroupIn_68 (by decide) ?_
          have q1 : (va_rf (((lgS σ g i)).map (L 2)) : Value) = va_rf (((lgS σ g (i + 1))).map (L 2)) := (by rw [lgS, if_neg (fun q => absurd q.1 (by rw [c33]; decide))])
          replace hl : lv_has ls 5 [(3, .int (nI (i + 1))), (4, .ref (L 2 i)), (0, .ref (L 0 0)), (1, .ref (L 2 g)), (2, va_rf (((lgS σ g (i + 1))).map (L 2)))] := (congrArg (lv_has ls 5) (m_lc rfl (m_lc rfl (m_lc rfl (m_lc rfl (m_lc q1 rfl)))))).mp hl
          exact ih4 (i + 1) (by omega) (by omega) _ _ hV hS ls (lv_sub hl [2, 3, 4, 0] rfl)
        · replace c33 : kB σ 25 i = true := bI_1.mp c33
          refine lv_aload hx hb dX4_leastLiveGroupIn_36 (lv_at hl 0 rfl) ?_
          refine m_getN (C := RX1) (T := TX1) (N := 6) (host := "TaskKernel") hx hb hts hi_X1 hown hK hV 1 (v := va_rf ((kO σ 20 i).map (L 2))) (g_grp1 hC (by first | assumption | (show i < kN σ 62 1; omega))) rfl (by decide) kn290 (fun _ h9 => h9) dX4_leastLiveGroupIn_38 ?_
          refine lv_aload_n hx hb dX4_leastLiveGroupIn_41 rfl (lv_at hl 2 rfl) ?_
          refine lv_acmp_ne (rx := ((kO σ 20 i).map (L 2))) (ry := (some (L 2 g))) (tgt := 65) hx hb dX4_leastLiveGroupIn_42 (by decide) (fun c42 => ?_) (fun c42 => ?_)
          · replace c42 : ¬ kO σ 20 i = some g := fun q9 => c42 (((map_inj (f := L 2) (t := g) (fun k9 h9 e9 => (hC.inj (k := 2) (k2 := 2) ((fun k9 h9 => (wf_par hC.wf (by first | assumption | (show i < kN σ 62 1; omega)) h9).2) k9 h9) (by first | assumption | (show g < kN σ 62 1; omega)) e9).2)).mpr q9))
            refine lv_iinc (v := nI (i + 1)) (lv' := [(3, .int (nI (i + 1))), (4, .ref (L 2 i)), (0, .ref (L 0 0)), (1, .ref (L 2 g)), (2, va_rf (((lgS σ g i)).map (L 2)))]) hx hb dX4_leastLiveGroupIn_65 hl (k := 4) rfl (show nI i + Int32.ofInt 1 = _ from nI_add i 1) (by decide) (by first | rfl | simp [rf_cat, ct_ref, ct_int, ct_long]) (fun ls hl => ?_)
            refine lv_goto (tgt := 4) hx hb dX4_leastLiveGroupIn_68 (by decide) ?_
            have q2 : (va_rf (((lgS σ g i)).map (L 2)) : Value) = va_rf (((lgS σ g (i + 1))).map (L 2)) := (by rw [lgS, if_neg (fun q => c42 q.2.1)])
            replace hl : lv_has ls 5 [(3, .int (nI (i + 1))), (4, .ref (L 2 i)), (0, .ref (L 0 0)), (1, .ref (L 2 g)), (2, va_rf (((lgS σ g (i + 1))).map (L 2)))] := (congrArg (lv_has ls 5) (m_lc rfl (m_lc rfl (m_lc rfl (m_lc rfl (m_lc q2 rfl)))))).mp hl
            exact ih4 (i + 1) (by omega) (by omega) _ _ hV hS ls (lv_sub hl [2, 3, 4, 0] rfl)
          · replace c42 : kO σ 20 i = some g := (map_inj (f := L 2) (t := g) (fun k9 h9 e9 => (hC.inj (k := 2) (k2 := 2) ((fun k9 h9 => (wf_par hC.wf (by first | assumption | (show i < kN σ 62 1; omega)) h9).2) k9 h9) (by first | assumption | (show g < kN σ 62 1; omega)) e9).2)).mp c42
            refine m_aload_nq hx hb dX4_leastLiveGroupIn_45 rfl (lv_at hl 3 rfl) ?_
            refine m_ifnull_q (o := (lgS σ g i)) (f := L 2) (tgt := 62) hx hb dX4_leastLiveGroupIn_46 (by decide) (fun c46 => ?_) (fun k46 c46 => ?_)
            · replace hl : lv_has ls 5 [(4, .ref (L 2 i)), (0, .ref (L 0 0)), (1, .ref (L 2 g)), (2, .null), (3, .int (nI i))] := by have h9 := hl; rw [c46] at h9; exact h9
              refine lv_aload hx hb dX4_leastLiveGroupIn_62 (lv_at hl 0 rfl) ?_
              refine lv_astore_n (lv' := [(2, .ref (L 2 i)), (4, .ref (L 2 i)), (0, .ref (L 0 0)), (1, .ref (L 2 g)), (3, .int (nI i))]) hx hb dX4_leastLiveGroupIn_64 rfl hl (by decide) rfl (fun ls hl => ?_)
              refine lv_iinc (v := nI (i + 1)) (lv' := [(3, .int (nI (i + 1))), (2, .ref (L 2 i)), (4, .ref (L 2 i)), (0, .ref (L 0 0)), (1, .ref (L 2 g))]) hx hb dX4_leastLiveGroupIn_65 hl (k := 4) rfl (show nI i + Int32.ofInt 1 = _ from nI_add i 1) (by decide) rfl (fun ls hl => ?_)
              refine lv_goto (tgt := 4) hx hb dX4_leastLiveGroupIn_68 (by decide) ?_
              have q3 : (.ref (L 2 i) : Value) = va_rf (((lgS σ g (i + 1))).map (L 2)) := (by rw [lgS, if_pos ⟨c33, c42, by rw [c46]⟩]; rfl)
              replace hl : lv_has ls 5 [(3, .int (nI (i + 1))), (2, va_rf (((lgS σ g (i + 1))).map (L 2))), (4, .ref (L 2 i)), (0, .ref (L 0 0)), (1, .ref (L 2 g))] := (congrArg (lv_has ls 5) (m_lc rfl (m_lc q3 (m_lc rfl (m_lc rfl (m_lc rfl rfl)))))).mp hl
              exact ih4 (i + 1) (by omega) (by omega) _ _ hV hS ls (lv_sub hl [3, 4, 1, 0] rfl)
            · have bk46 := lgS_lt c46
              replace hl : lv_has ls 5 [(4, .ref (L 2 i)), (0, .ref (L 0 0)), (1, .ref (L 2 g)), (2, .ref (L 2 k46)), (3, .int (nI i))] := by have h9 := hl; rw [c46] at h9; exact h9
              refine lv_aload hx hb dX4_leastLiveGroupIn_49 (lv_at hl 0 rfl) ?_
              refine m_getN (C := RX1) (T := TX1) (N := 6) (host := "TaskKernel") hx hb hts hi_X1 hown hK hV 3 (v := .long (kW σ 23 i)) (g_grp3 hC (by first | assumption | (show i < kN σ 62 1; omega))) rfl (by decide) kn197 (fun _ h9 => h9) dX4_leastLiveGroupIn_51 ?_
              refine lv_aload_n hx hb dX4_leastLiveGroupIn_54 rfl (lv_at hl 3 rfl) ?_
              refine m_getN (C := RX1) (T := TX1) (N := 6) (host := "TaskKernel") hx hb hts hi_X1 hown hK hV 3 (v := .long (kW σ 23 k46)) (g_grp3 hC (by first | assumption | (show k46 < kN σ 62 1; omega))) rfl (by decide) kn197 (fun _ h9 => h9) dX4_leastLiveGroupIn_55 ?_
              refine m_lcmp_ge (tgt := 65) hx hb dX4_leastLiveGroupIn_58 dX4_leastLiveGroupIn_59 (by decide) (fun c59 => ?_) (fun c59 => ?_)
              · refine lv_iinc (v := nI (i + 1)) (lv' := [(3, .int (nI (i + 1))), (4, .ref (L 2 i)), (0, .ref (L 0 0)), (1, .ref (L 2 g)), (2, .ref (L 2 k46))]) hx hb dX4_leastLiveGroupIn_65 hl (k := 4) rfl (show nI i + Int32.ofInt 1 = _ from nI_add i 1) (by decide) rfl (fun ls hl => ?_)
                refine lv_goto (tgt := 4) hx hb dX4_leastLiveGroupIn_68 (by decide) ?_
                have q4 : (.ref (L 2 k46) : Value) = va_rf (((lgS σ g (i + 1))).map (L 2)) := (by rw [lgS, if_neg (fun q => absurd (of_decide_eq_true (by have z := q.2.2; rw [c46] at z; exact z)) (Int64.not_lt.mpr c59)), c46]; rfl)
                replace hl : lv_has ls 5 [(3, .int (nI (i + 1))), (4, .ref (L 2 i)), (0, .ref (L 0 0)), (1, .ref (L 2 g)), (2, va_rf (((lgS σ g (i + 1))).map (L 2)))] := (congrArg (lv_has ls 5) (m_lc rfl (m_lc rfl (m_lc rfl (m_lc rfl (m_lc q4 rfl)))))).mp hl
                exact ih4 (i + 1) (by omega) (by omega) _ _ hV hS ls (lv_sub hl [2, 3, 4, 0] rfl)
              · refine lv_aload hx hb dX4_leastLiveGroupIn_62 (lv_at hl 0 rfl) ?_
                refine lv_astore_n (lv' := [(2, .ref (L 2 i)), (4, .ref (L 2 i)), (0, .ref (L 0 0)), (1, .ref (L 2 g)), (3, .int (nI i))]) hx hb dX4_leastLiveGroupIn_64 rfl hl (by decide) rfl (fun ls hl => ?_)
                refine lv_iinc (v := nI (i + 1)) (lv' := [(3, .int (nI (i + 1))), (2, .ref (L 2 i)), (4, .ref (L 2 i)), (0, .ref (L 0 0)), (1, .ref (L 2 g))]) hx hb dX4_leastLiveGroupIn_65 hl (k := 4) rfl (show nI i + Int32.ofInt 1 = _ from nI_add i 1) (by decide) rfl (fun ls hl => ?_)
                refine lv_goto (tgt := 4) hx hb dX4_leastLiveGroupIn_68 (by decide) ?_
                have q5 : (.ref (L 2 i) : Value) = va_rf (((lgS σ g (i + 1))).map (L 2)) := (by rw [lgS, if_pos ⟨c33, c42, by rw [c46]; exact decide_eq_true (Int64.not_le.mp c59)⟩]; rfl)
                replace hl : lv_has ls 5 [(3, .int (nI (i + 1))), (2, va_rf (((lgS σ g (i + 1))).map (L 2))), (4, .ref (L 2 i)), (0, .ref (L 0 0)), (1, .ref (L 2 g))] := (congrArg (lv_has ls 5) (m_lc rfl (m_lc q5 (m_lc rfl (m_lc rfl (m_lc rfl rfl)))))).mp hl
                exact ih4 (i + 1) (by omega) (by omega) _ _ hV hS ls (lv_sub hl [3, 4, 1, 0] rfl)
  have q6 : (.null : Value) = va_rf (((lgS σ g 0)).map (L 2)) := rfl
  have q7 : 0 = nI 0 := rfl
  replace hl : lv_has ls 5 [(3, .int (nI 0)), (2, va_rf (((lgS σ g 0)).map (L 2))), (0, .ref (L 0 0)), (1, .ref (L 2 g))] := (congrArg (lv_has ls 5) (m_lc (congrArg Value.int q7) (m_lc q6 (m_lc rfl (m_lc rfl rfl))))).mp hl
  exact lp4 ((kN σ 62 1 - 0) + 1) 0 (Nat.zero_le _) (Nat.lt_succ_self _) _ _ hV hS ls (lv_sub hl [2, 3, 1, 0] rfl)
