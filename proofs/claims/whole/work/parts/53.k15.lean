set_option maxHeartbeats 4000000 in
set_option maxRecDepth 100000 in
theorem c_X4_passOneTick {l : Launch} {D : va_G} {cs : mC} {df : Nat} {P : Nat → Prop} {h0 : mH} {L : KL} {σ : KS} {hh : mH} (sz : Nat) (hC : CRep cs df P h0 L σ hh)  : Met l yX4_passOneTick wsX4_passOneTick ({ frames := 6, cells := 0, slots := 0, locals := 139 }) (mPre [.ref (L 0 0)] D cs df hh sz) (va_Qv ((fun (h1 : mH) => CRep cs df P h0 L (tickS σ) h1)) (mB D hh sz) (mA hh sz)) 0 0 (mA hh sz) := by
  refine Met.ofW (cc := cX4_passOneTick) (maxL := 3) (ret := none) (by decide) rfl ?_
  intro p e s m args below meth c s₁ B0 hml hv
  obtain ⟨hargs, hsz, hV, hE⟩ := hv
  subst hsz
  have hx := B0.exec
  have hb := B0.bytes
  have hr := B0.returns
  have hlocks := B0.notSynchronized
  have hts := atoms_spec (ws := wsX4_passOneTick) B0.pre
  have hown : s.vm.findClass RX4 = some m.cls := findClass_of_methodNamed B0.named
  have hK := hE.1.1
  have hA : ∀ q : Nat, s.heap.size ≤ q → mA hh s.heap.size q := mA.top
  have hS : va_S (mA hh s.heap.size) s.heap s.heap [] := va_S.rf
  have hi_X4 : ∀ w ∈ u_ws RX4 TX4 11, w ∈ wsX4_passOneTick := by decide +kernel
  have k12 : (Cond.fieldLink RX4 12 "TaskKernel" "cores" "Ljava/util/ArrayList;").before args s = true := hts _ (by decide +kernel)
  have k52 : (Cond.fieldLink RX4 52 "TaskKernel" "allCoreTicks" "I").before args s = true := hts _ (by decide +kernel)
  have k43 : (Cond.fieldLink RX4 43 "TaskKernel" "presentTick" "I").before args s = true := hts _ (by decide +kernel)
  have kc78 : (Cond.classLink RX4 78 "TaskKernel$Core").before args s = true := hts _ (by decide +kernel)
  have hi_X0 : ∀ w ∈ u_ws RX0 TX0 3, w ∈ wsX4_passOneTick := by decide +kernel
  have kn257 : va_Nw (.fieldLinkNest RX4 257 "TaskKernel$Core" "pick" "LTaskKernel$Task;" "TaskKernel") s := hE.1.2.1 _ (List.mem_of_getElem? (i := 10) rfl)
  have hl := lv_entry ([.ref (L 0 0)]) (n := 3) (by first | exact Nat.le_of_ble_eq_true rfl | simp [lg_sl, rf_cat, ct_ref, ct_int, ct_null, ct_long])
  have hent := lg_entry_eq m ([.ref (L 0 0)]) 3
  rw [← hargs] at hent
  rw [hent]
  generalize (lg_sl ([.ref (L 0 0)]) ++ List.replicate (3 - (lg_sl ([.ref (L 0 0)])).length) Slot.unset).toArray = ls at hl ⊢
  replace hl : lv_has ls 3 [(0, .ref (L 0 0))] := hl
  have hwf := hC.wf
  obtain ⟨⟨z0, z1, z2, z3, z4⟩, z5, z6, z7, z8, z9, z10, z11, z12⟩ := hwf
  have er : kN (relS (kN σ 62 2) σ) = kN σ := relS_N _ _
  refine lv_aload_n hx hb dX4_passOneTick_0 rfl (lv_at hl 0 rfl) ?_
  refine m_callv (va_runV (As := []) (rest := []) ⟨hx, hb, hml, hown, hts⟩ (c_X4_releaseTimedTasks (l := l) (s.heap.size) hC ) (cwV 0 hts gX4_passOneTick_X4_releaseTimedTasks rfl rfl rfl (by decide +kernel) ⟨by decide, by decide⟩) (m_preV (r := (RX4, TX4, 11)) hE hV hS hA (hC.at (k := 0) (i := 0) rfl) rfl) rfl rfl hl.1 rfl (lv_room (by first | exact Nat.le_of_ble_eq_true rfl | simp [rf_cat, ct_ref, ct_int, ct_null, ct_long])) dX4_passOneTick_1 ⟨by decide, by decide⟩) hV hS hA (fun h H locs hV hS hp _ => ?_)
  replace hC := hp; clear hp
  refine lv_aload_n hx hb dX4_passOneTick_4 rfl (lv_at hl 0 rfl) ?_
  refine lv_iconst (v := 1) hx hb dX4_passOneTick_5 (by decide) ?_
  refine m_callv (va_runV (As := [.int 1]) (rest := []) ⟨hx, hb, hml, hown, hts⟩ (c_X4_chooseForAllCores (l := l) (H.size) hC true) (cwV 1 hts gX4_passOneTick_X4_chooseForAllCores rfl rfl rfl (by decide +kernel) ⟨by decide, by decide⟩) (m_preV (r := (RX4, TX4, 11)) hE hV hS hA (hC.at (k := 0) (i := 0) rfl) rfl) rfl rfl hl.1 rfl (lv_room (by first | exact Nat.le_of_ble_eq_true rfl | simp [rf_cat, ct_ref, ct_int, ct_null, ct_long])) dX4_passOneTick_6 ⟨by decide, by decide⟩) hV hS hA (fun h H locs hV hS hp _ => ?_)
  replace hC := hp; clear hp
  refine lv_iconst (v := 0) hx hb dX4_passOneTick_9 (by decide) ?_
  refine lv_istore_n (lv' := [(1, .int 0), (0, .ref (L 0 0))]) hx hb dX4_passOneTick_10 rfl hl (by decide) rfl (fun ls hl => ?_)
  have lp11 : ∀ (fu : Nat) (i : Nat), (i ≤ kN σ 62 0) → kN σ 62 0 - i < fu → ∀ (h : mH) (H : Heap) (locs : List Loc), CRep cs df P h0 L (wkL i (tk1 σ)) h → mV D h (mA hh s.heap.size) H → va_S (mA hh s.heap.size) s.heap H locs → ∀ (ls : Array Slot), lv_has ls 3 [(0, .ref (L 0 0)), (1, .int (nI i))] → W p l e ({ frames := 6, cells := 0, slots := 0, locals := 139 } : Room) s m args below meth c H locs 0 0 (MQ below (va_Qv ((fun (h1 : mH) => CRep cs df P h0 L (tickS σ) h1)) (mB D hh s.heap.size) (mA hh s.heap.size)) args s 0 0 (mA hh s.heap.size)) (F0 m 11 ls []) := by
    intro fu
    induction fu with
    | zero =>
      intro i hi hfu
      exact absurd hfu (Nat.not_lt_zero _)
    | succ fu ih11 =>
      intro i hi hfu h H locs hC hV hS ls hl
      have en : kN (wkL i (tk1 σ)) = kN σ := by rw [wkL_N, tk1_N]
      have en0 : kN (wkL i (tk1 σ)) 62 0 = kN σ 62 0 := by rw [en]
      have en2 : kN (wkL i (tk1 σ)) 62 2 = kN σ 62 2 := by rw [en]
      refine lv_iload_n hx hb dX4_passOneTick_11 rfl (lv_at hl 1 rfl) ?_
      refine lv_aload_n hx hb dX4_passOneTick_12 rfl (lv_at hl 0 rfl) ?_
      refine m_get (C := RX4) (T := TX4) (N := 11) hx hb hts hi_X4 hown hK hV 0 (v := .ref (L 5 0)) (g_kern0 hC rfl) rfl (by decide) k12 (fun _ h9 => h9) dX4_passOneTick_13 ?_
      refine m_calli (va_runV (As := []) (rest := [.int (nI i)]) ⟨hx, hb, hml, hown, hts⟩ (l_size (H.size) hC 0 (by decide)) (cwV 0 hts gX4_passOneTick_Jx4a65c_size_8abf5 rfl rfl rfl (by decide +kernel) ⟨by decide, by decide⟩) (m_preV (r := (RJx4a65c, TJx4a65c, 3)) hE hV hS hA (CRep.atL hC (j := 0) (by decide)) rfl) rfl rfl hl.1 rfl (lv_room (by first | exact Nat.le_of_ble_eq_true rfl | simp [rf_cat, ct_ref, ct_int, ct_null, ct_long])) dX4_passOneTick_16 ⟨by decide, by decide⟩) hV hS hA (fun r h1 H locs hV hS hp _ => ?_)
      obtain ⟨e1, e2⟩ := hp
      subst e2
      rw [e1] at hV; clear e1
      refine lv_icmp_ge (tgt := 56) hx hb dX4_passOneTick_19 (by decide) (fun c19 => ?_) (fun c19 => ?_)
      · replace c19 : kN (wkL i (tk1 σ)) 62 0 ≤ i := (nI_leI (a := kN (wkL i (tk1 σ)) 62 0) (b := i) (by omega) (by omega)).mp c19
        refine lv_iconst (v := 0) hx hb dX4_passOneTick_56 (by decide) ?_
        refine lv_istore_n (lv' := [(1, .int 0), (0, .ref (L 0 0))]) hx hb dX4_passOneTick_57 rfl hl (by decide) rfl (fun ls hl => ?_)
        have lp58 : ∀ (fu : Nat) (k : Nat), (k ≤ kN σ 62 0) → kN σ 62 0 - k < fu → ∀ (h : mH) (H : Heap) (locs : List Loc), CRep cs df P h0 L (htL k (wkL (kN σ 62 0) (tk1 σ))) h → mV D h (mA hh s.heap.size) H → va_S (mA hh s.heap.size) s.heap H locs → ∀ (ls : Array Slot), lv_has ls 3 [(0, .ref (L 0 0)), (1, .int (nI k))] → W p l e ({ frames := 6, cells := 0, slots := 0, locals := 139 } : Room) s m args below meth c H locs 0 0 (MQ below (va_Qv ((fun (h1 : mH) => CRep cs df P h0 L (tickS σ) h1)) (mB D hh s.heap.size) (mA hh s.heap.size)) args s 0 0 (mA hh s.heap.size)) (F0 m 58 ls []) := by
          intro fu
          induction fu with
          | zero =>
            intro k hk hfu
            exact absurd hfu (Nat.not_lt_zero _)
          | succ fu ih58 =>
            intro k hk hfu h H locs hC hV hS ls hl
            have en : kN (htL k (wkL (kN σ 62 0) (tk1 σ))) = kN σ := by rw [htL_N, wkL_N, tk1_N]
            have en0 : kN (htL k (wkL (kN σ 62 0) (tk1 σ))) 62 0 = kN σ 62 0 := by rw [en]
            refine lv_iload_n hx hb dX4_passOneTick_58 rfl (lv_at hl 1 rfl) ?_
            refine lv_aload_n hx hb dX4_passOneTick_59 rfl (lv_at hl 0 rfl) ?_
            refine m_get (C := RX4) (T := TX4) (N := 11) hx hb hts hi_X4 hown hK hV 0 (v := .ref (L 5 0)) (g_kern0 hC rfl) rfl (by decide) k12 (fun _ h9 => h9) dX4_passOneTick_60 ?_
            refine m_calli (va_runV (As := []) (rest := [.int (nI k)]) ⟨hx, hb, hml, hown, hts⟩ (l_size (H.size) hC 0 (by decide)) (cwV 0 hts gX4_passOneTick_Jx4a65c_size_8abf5 rfl rfl rfl (by decide +kernel) ⟨by decide, by decide⟩) (m_preV (r := (RJx4a65c, TJx4a65c, 3)) hE hV hS hA (CRep.atL hC (j := 0) (by decide)) rfl) rfl rfl hl.1 rfl (lv_room (by first | exact Nat.le_of_ble_eq_true rfl | simp [rf_cat, ct_ref, ct_int, ct_null, ct_long])) dX4_passOneTick_63 ⟨by decide, by decide⟩) hV hS hA (fun r h1 H locs hV hS hp _ => ?_)
            obtain ⟨e1, e2⟩ := hp
            subst e2
            rw [e1] at hV; clear e1
            refine lv_icmp_ge (tgt := 90) hx hb dX4_passOneTick_66 (by decide) (fun c66 => ?_) (fun c66 => ?_)
            · replace c66 : kN (htL k (wkL (kN σ 62 0) (tk1 σ))) 62 0 ≤ k := (nI_leI (a := kN (htL k (wkL (kN σ 62 0) (tk1 σ))) 62 0) (b := k) (by omega) (by omega)).mp c66
              refine lv_aload_n hx hb dX4_passOneTick_90 rfl (lv_at hl 0 rfl) ?_
              refine lv_dup hx hb dX4_passOneTick_91 rfl ?_
              refine m_get (C := RX4) (T := TX4) (N := 11) hx hb hts hi_X4 hown hK hV 10 (v := .int (kI (htL k (wkL (kN σ 62 0) (tk1 σ))) 5 0)) (g_kern10 hC rfl) rfl (by decide) k52 (fun _ h9 => h9) dX4_passOneTick_92 ?_
              refine lv_aload_n hx hb dX4_passOneTick_95 rfl (lv_at hl 0 rfl) ?_
              refine m_get (C := RX4) (T := TX4) (N := 11) hx hb hts hi_X4 hown hK hV 0 (v := .ref (L 5 0)) (g_kern0 hC rfl) rfl (by decide) k12 (fun _ h9 => h9) dX4_passOneTick_96 ?_
              refine m_calli (va_runV (As := []) (rest := [.int (kI (htL k (wkL (kN σ 62 0) (tk1 σ))) 5 0), .ref (L 0 0)]) ⟨hx, hb, hml, hown, hts⟩ (l_size (H.size) hC 0 (by decide)) (cwV 0 hts gX4_passOneTick_Jx4a65c_size_8abf5 rfl rfl rfl (by decide +kernel) ⟨by decide, by decide⟩) (m_preV (r := (RJx4a65c, TJx4a65c, 3)) hE hV hS hA (CRep.atL hC (j := 0) (by decide)) rfl) rfl rfl hl.1 rfl (lv_room (by first | exact Nat.le_of_ble_eq_true rfl | simp [rf_cat, ct_ref, ct_int, ct_null, ct_long])) dX4_passOneTick_99 ⟨by decide, by decide⟩) hV hS hA (fun r h1 H locs hV hS hp _ => ?_)
              obtain ⟨e1, e2⟩ := hp
              subst e2
              rw [e1] at hV; clear e1
              refine lv_iadd hx hb dX4_passOneTick_102 ?_
              refine m_put (C := RX4) (T := TX4) (N := 11) (v := .int ((kI (htL k (wkL (kN σ 62 0) (tk1 σ))) 5 0) + nI (kN (htL k (wkL (kN σ 62 0) (tk1 σ))) 62 0))) hx hb hts hi_X4 tyX4 tyX4_ok nmX4 hown hK hV hS 10 (p_kern10 hC rfl ((kI (htL k (wkL (kN σ 62 0) (tk1 σ))) 5 0) + nI (kN (htL k (wkL (kN σ 62 0) (tk1 σ))) 62 0))) rfl (by decide) k52 (fun _ h9 => h9) rfl (tyX4_ok 10 (by decide)) rfl rfl dX4_passOneTick_103 (fun h H locs hV hS hC => ?_)
              refine lv_aload_n hx hb dX4_passOneTick_106 rfl (lv_at hl 0 rfl) ?_
              refine lv_dup hx hb dX4_passOneTick_107 rfl ?_
              refine m_get (C := RX4) (T := TX4) (N := 11) hx hb hts hi_X4 hown hK hV 7 (v := .int (kI (htL k (wkL (kN σ 62 0) (tk1 σ))) 2 0)) (g_kern7 hC rfl) rfl (by decide) k43 (fun _ h9 => h9) dX4_passOneTick_108 ?_
              refine lv_iconst (v := 1) hx hb dX4_passOneTick_111 (by decide) ?_
              refine lv_iadd hx hb dX4_passOneTick_112 ?_
              refine m_put (C := RX4) (T := TX4) (N := 11) (v := .int ((kI (htL k (wkL (kN σ 62 0) (tk1 σ))) 2 0) + 1)) hx hb hts hi_X4 tyX4 tyX4_ok nmX4 hown hK hV hS 7 (p_kern7 hC rfl ((kI (htL k (wkL (kN σ 62 0) (tk1 σ))) 2 0) + 1)) rfl (by decide) k43 (fun _ h9 => h9) rfl (tyX4_ok 7 (by decide)) rfl rfl dX4_passOneTick_113 (fun h H locs hV hS hC => ?_)
              exact m_vret hx hb hr hlocks hV hS ((by rw [en0] at hC; rw [show k = kN σ 62 0 by omega] at hC; exact hC)) dX4_passOneTick_116
            · replace c66 : ¬ kN (htL k (wkL (kN σ 62 0) (tk1 σ))) 62 0 ≤ k := fun q9 => c66 ((nI_leI (a := kN (htL k (wkL (kN σ 62 0) (tk1 σ))) 62 0) (b := k) (by omega) (by omega)).mpr q9)
              refine lv_aload_n hx hb dX4_passOneTick_69 rfl (lv_at hl 0 rfl) ?_
              refine lv_aload_n hx hb dX4_passOneTick_70 rfl (lv_at hl 0 rfl) ?_
              refine m_get (C := RX4) (T := TX4) (N := 11) hx hb hts hi_X4 hown hK hV 0 (v := .ref (L 5 0)) (g_kern0 hC rfl) rfl (by decide) k12 (fun _ h9 => h9) dX4_passOneTick_71 ?_
              refine lv_iload_n hx hb dX4_passOneTick_74 rfl (lv_at hl 1 rfl) ?_
              refine m_callq (va_runV (As := [.int (nI k)]) (rest := [.ref (L 0 0)]) ⟨hx, hb, hml, hown, hts⟩ (l_get0 (H.size) hC k (by first | assumption | omega)) (cwV 1 hts gX4_passOneTick_Jx4a65c_get_915e3 rfl rfl rfl (by decide +kernel) ⟨by decide, by decide⟩) (m_preV (r := (RJx4a65c, TJx4a65c, 3)) hE hV hS hA (CRep.atL hC (j := 0) (by decide)) rfl) rfl rfl hl.1 rfl (lv_room (by first | exact Nat.le_of_ble_eq_true rfl | simp [rf_cat, ct_ref, ct_int, ct_null, ct_long])) dX4_passOneTick_75 ⟨by decide, by decide⟩) hV hS hA (fun r h1 H locs hV hS hp _ => ?_)
              obtain ⟨e1, e2⟩ := hp
              subst e2
              rw [e1] at hV; clear e1
              refine m_cast (r := (RX0, TX0, 3)) hx hb hE hV (hC.at (k := 1) (i := k) (by first | assumption | (show k < kN (htL k (wkL (kN σ 62 0) (tk1 σ))) 62 0; omega))) rfl hown kc78 dX4_passOneTick_78 ?_
              refine m_callv (va_runV (As := [.ref (L 1 k)]) (rest := []) ⟨hx, hb, hml, hown, hts⟩ (c_X4_changeHeat (l := l) (H.size) hC k (by first | assumption | omega)) (cwV 1 hts gX4_passOneTick_X4_changeHeat rfl rfl rfl (by decide +kernel) ⟨by decide, by decide⟩) (m_preV (r := (RX4, TX4, 11)) hE hV hS hA (hC.at (k := 0) (i := 0) rfl) rfl) rfl rfl hl.1 rfl (lv_room (by first | exact Nat.le_of_ble_eq_true rfl | simp [rf_cat, ct_ref, ct_int, ct_null, ct_long])) dX4_passOneTick_81 ⟨by decide, by decide⟩) hV hS hA (fun h H locs hV hS hp _ => ?_)
              replace hC := hp; clear hp
              refine lv_iinc (v := nI (k + 1)) (lv' := [(1, .int (nI (k + 1))), (0, .ref (L 0 0))]) hx hb dX4_passOneTick_84 hl (k := 1) rfl (show nI k + Int32.ofInt 1 = _ from nI_add k 1) (by decide) rfl (fun ls hl => ?_)
              refine lv_goto (tgt := 58) hx hb dX4_passOneTick_87 (by decide) ?_
              have q1 : (heatS (htL k (wkL (kN σ 62 0) (tk1 σ))) k) = (htL (k + 1) (wkL (kN σ 62 0) (tk1 σ))) := rfl
              rw [q1] at hC
              exact ih58 (k + 1) (by omega) (by omega) _ _ _ hC hV hS ls (lv_sub hl [1, 0] rfl)
        have q2 : (wkL i (tk1 σ)) = (htL 0 (wkL (kN σ 62 0) (tk1 σ))) := (by rw [show i = kN σ 62 0 by omega]; rfl)
        rw [q2] at hC
        have q3 : 0 = nI 0 := rfl
        replace hl : lv_has ls 3 [(1, .int (nI 0)), (0, .ref (L 0 0))] := (congrArg (lv_has ls 3) (m_lc (congrArg Value.int q3) (m_lc rfl rfl))).mp hl
        exact lp58 ((kN σ 62 0 - 0) + 1) 0 (Nat.zero_le _) (Nat.lt_succ_self _) _ _ _ hC hV hS ls (lv_sub hl [1, 0] rfl)
      · replace c19 : ¬ kN (wkL i (tk1 σ)) 62 0 ≤ i := fun q9 => c19 ((nI_leI (a := kN (wkL i (tk1 σ)) 62 0) (b := i) (by omega) (by omega)).mpr q9)
        refine lv_aload_n hx hb dX4_passOneTick_22 rfl (lv_at hl 0 rfl) ?_
        refine m_get (C := RX4) (T := TX4) (N := 11) hx hb hts hi_X4 hown hK hV 0 (v := .ref (L 5 0)) (g_kern0 hC rfl) rfl (by decide) k12 (fun _ h9 => h9) dX4_passOneTick_23 ?_
        refine lv_iload_n hx hb dX4_passOneTick_26 rfl (lv_at hl 1 rfl) ?_
        refine m_callq (va_runV (As := [.int (nI i)]) (rest := []) ⟨hx, hb, hml, hown, hts⟩ (l_get0 (H.size) hC i (by first | assumption | omega)) (cwV 1 hts gX4_passOneTick_Jx4a65c_get_915e3 rfl rfl rfl (by decide +kernel) ⟨by decide, by decide⟩) (m_preV (r := (RJx4a65c, TJx4a65c, 3)) hE hV hS hA (CRep.atL hC (j := 0) (by decide)) rfl) rfl rfl hl.1 rfl (lv_room (by first | exact Nat.le_of_ble_eq_true rfl | simp [rf_cat, ct_ref, ct_int, ct_null, ct_long])) dX4_passOneTick_27 ⟨by decide, by decide⟩) hV hS hA (fun r h1 H locs hV hS hp _ => ?_)
        obtain ⟨e1, e2⟩ := hp
        subst e2
        rw [e1] at hV; clear e1
        refine m_cast (r := (RX0, TX0, 3)) hx hb hE hV (hC.at (k := 1) (i := i) (by first | assumption | (show i < kN (wkL i (tk1 σ)) 62 0; omega))) rfl hown kc78 dX4_passOneTick_30 ?_
        refine lv_astore_n (lv' := [(2, .ref (L 1 i)), (0, .ref (L 0 0)), (1, .int (nI i))]) hx hb dX4_passOneTick_33 rfl hl (by decide) rfl (fun ls hl => ?_)
        refine lv_aload_n hx hb dX4_passOneTick_34 rfl (lv_at hl 0 rfl) ?_
        refine m_getN (C := RX0) (T := TX0) (N := 3) (host := "TaskKernel") hx hb hts hi_X0 hown hK hV 2 (v := va_rf ((kO (wkL i (tk1 σ)) 12 i).map (L 3))) (g_core2 hC (by first | assumption | (show i < kN (wkL i (tk1 σ)) 62 0; omega))) rfl (by decide) kn257 (fun _ h9 => h9) dX4_passOneTick_35 ?_
        refine m_ifnull_q (o := (kO (wkL i (tk1 σ)) 12 i)) (f := L 3) (tgt := 50) hx hb dX4_passOneTick_38 (by decide) (fun c38 => ?_) (fun k38 c38 => ?_)
        · refine lv_iinc (v := nI (i + 1)) (lv' := [(1, .int (nI (i + 1))), (2, .ref (L 1 i)), (0, .ref (L 0 0))]) hx hb dX4_passOneTick_50 hl (k := 2) rfl (show nI i + Int32.ofInt 1 = _ from nI_add i 1) (by decide) rfl (fun ls hl => ?_)
          refine lv_goto (tgt := 11) hx hb dX4_passOneTick_53 (by decide) ?_
          have q4 : (wkL i (tk1 σ)) = (wkL (i + 1) (tk1 σ)) := (by rw [wkL, c38] <;> rfl)
          rw [q4] at hC
          exact ih11 (i + 1) (by omega) (by omega) _ _ _ hC hV hS ls (lv_sub hl [2, 0] rfl)
        · have bk38 : k38 < kN (wkL i (tk1 σ)) 62 2 := hC.wf.2.2.2.1 i (by first | assumption | (show i < kN (wkL i (tk1 σ)) 62 0; omega)) _ c38
          refine lv_aload_n hx hb dX4_passOneTick_41 rfl (lv_at hl 1 rfl) ?_
          refine lv_aload_n hx hb dX4_passOneTick_42 rfl (lv_at hl 0 rfl) ?_
          refine lv_aload_n hx hb dX4_passOneTick_43 rfl (lv_at hl 0 rfl) ?_
          refine m_getN (C := RX0) (T := TX0) (N := 3) (host := "TaskKernel") hx hb hts hi_X0 hown hK hV 2 (v := .ref (L 3 k38)) ((by have g9 := g_core2 hC (by first | assumption | (show i < kN (wkL i (tk1 σ)) 62 0; omega)); rw [c38] at g9; exact g9)) rfl (by decide) kn257 (fun _ h9 => h9) dX4_passOneTick_44 ?_
          refine m_callv (va_runV (As := [.ref (L 1 i), .ref (L 3 k38)]) (rest := []) ⟨hx, hb, hml, hown, hts⟩ (c_X4_work (l := l) (H.size) hC i k38 (by first | assumption | omega) (by first | assumption | omega)) (cwV 2 hts gX4_passOneTick_X4_work rfl rfl rfl (by decide +kernel) ⟨by decide, by decide⟩) (m_preV (r := (RX4, TX4, 11)) hE hV hS hA (hC.at (k := 0) (i := 0) rfl) rfl) rfl rfl hl.1 rfl (lv_room (by first | exact Nat.le_of_ble_eq_true rfl | simp [rf_cat, ct_ref, ct_int, ct_null, ct_long])) dX4_passOneTick_47 ⟨by decide, by decide⟩) hV hS hA (fun h H locs hV hS hp _ => ?_)
          replace hC := hp; clear hp
          refine lv_iinc (v := nI (i + 1)) (lv' := [(1, .int (nI (i + 1))), (2, .ref (L 1 i)), (0, .ref (L 0 0))]) hx hb dX4_passOneTick_50 hl (k := 2) rfl (show nI i + Int32.ofInt 1 = _ from nI_add i 1) (by decide) rfl (fun ls hl => ?_)
          refine lv_goto (tgt := 11) hx hb dX4_passOneTick_53 (by decide) ?_
          have q5 : (workS (wkL i (tk1 σ)) i k38) = (wkL (i + 1) (tk1 σ)) := (by rw [wkL, c38] <;> rfl)
          rw [q5] at hC
          exact ih11 (i + 1) (by omega) (by omega) _ _ _ hC hV hS ls (lv_sub hl [2, 0] rfl)
  have q6 : (choS true (relS (kN σ 62 2) σ)) = (wkL 0 (tk1 σ)) := rfl
  rw [q6] at hC
  have q7 : 0 = nI 0 := rfl
  replace hl : lv_has ls 3 [(1, .int (nI 0)), (0, .ref (L 0 0))] := (congrArg (lv_has ls 3) (m_lc (congrArg Value.int q7) (m_lc rfl rfl))).mp hl
  exact lp11 ((kN σ 62 0 - 0) + 1) 0 (Nat.zero_le _) (Nat.lt_succ_self _) _ _ _ hC hV hS ls (lv_sub hl [1, 0] rfl)
set_option maxHeartbeats 4000000 in
set_option maxRecDepth 100000 in
theorem c_X4_pass {l : Launch} (hfl : l.stackTraces = false) {D : va_G} {cs : mC} {df : Nat} {P : Nat → Prop} {h0 : mH} {L : KL} {σ : KS} {hh : mH} (sz : Nat) (hC : CRep cs df P h0 L σ hh) (x0 : Int32) : vx_Met l yX4_pass wsX4_pass ({ frames := 7, cells := 1, slots := 6, locals := 161 }) (mPre [.ref (L 0 0), .int x0] D cs df hh sz) (va_Qi ((fun (r : Int32) (h1 : mH) => ∃ n, inR x0 51 = some n ∧ 1 ≤ n ∧ kI σ 2 0 + x0 ≤ 900 ∧ CRep cs df P h0 L (tkN n σ) h1 ∧ r = kI (tkN n σ) 24 0 - kI σ 24 0)) (mB D hh sz) (mA hh sz)) (mX D hh sz (fun E h1 => h1 = hh ∧ (E = "java/lang/IllegalArgumentException" ∧ (x0 < 1 ∨ 50 < x0) ∨ E = "java/lang/IllegalStateException" ∧ ¬ x0 < 1 ∧ x0 ≤ 50 ∧ ¬ kI σ 2 0 + x0 ≤ 900))) 1 6 (mA hh sz) := by
  refine vx_ofW (cc := cX4_pass) (maxL := 4) (ret := (some .int)) (by decide) rfl ?_
  intro p e s m args below meth c s₁ B0 hml hnx hv
  obtain ⟨hargs, hsz, hV, hE⟩ := hv
  subst hsz
  have hx := B0.exec
  have hb := B0.bytes
  have hr := B0.returns
  have hlocks := B0.notSynchronized
  have hts := atoms_spec (ws := wsX4_pass) B0.pre
  have hown : s.vm.findClass RX4 = some m.cls := findClass_of_methodNamed B0.named
  have hK := hE.1.1
  have hA : ∀ q : Nat, s.heap.size ≤ q → mA hh s.heap.size q := mA.top
  have hS : va_S (mA hh s.heap.size) s.heap s.heap [] := va_S.rf
  have kc62 : (Cond.classLink RX4 62 "java/lang/IllegalArgumentException").before args s = true := hts _ (by decide +kernel)
  have hi_X4 : ∀ w ∈ u_ws RX4 TX4 11, w ∈ wsX4_pass := by decide +kernel
  have k43 : (Cond.fieldLink RX4 43 "TaskKernel" "presentTick" "I").before args s = true := hts _ (by decide +kernel)
  have k32 : (Cond.fieldLink RX4 32 "TaskKernel" "root" "LTaskKernel$Group;").before args s = true := hts _ (by decide +kernel)
  have hi_X1 : ∀ w ∈ u_ws RX1 TX1 6, w ∈ wsX4_pass := by decide +kernel
  have kn201 : va_Nw (.fieldLinkNest RX4 201 "TaskKernel$Group" "done" "I" "TaskKernel") s := hE.1.2.1 _ (List.mem_of_getElem? (i := 4) rfl)
  have kc73 : (Cond.classLink RX4 73 "java/lang/IllegalStateException").before args s = true := hts _ (by decide +kernel)
  have hl := lv_entry ([.ref (L 0 0), .int x0]) (n := 4) (by first | exact Nat.le_of_ble_eq_true rfl | simp [lg_sl, rf_cat, ct_ref, ct_int, ct_null, ct_long])
  have hent := lg_entry_eq m ([.ref (L 0 0), .int x0]) 4
  rw [← hargs] at hent
  rw [hent]
  generalize (lg_sl ([.ref (L 0 0), .int x0]) ++ List.replicate (4 - (lg_sl ([.ref (L 0 0), .int x0])).length) Slot.unset).toArray = ls at hl ⊢
  replace hl : lv_has ls 4 [(0, .ref (L 0 0)), (1, .int x0)] := hl
  have hwf := hC.wf
  obtain ⟨⟨z0, z1, z2, z3, z4⟩, z5, z6, z7, z8, z9, z10, z11, z12⟩ := hwf
  refine lv_iload_n hx hb dX4_pass_0 rfl (lv_at hl 1 rfl) ?_
  refine lv_iconst (v := 1) hx hb dX4_pass_1 (by decide) ?_
  refine lv_icmp_lt (tgt := 11) hx hb dX4_pass_2 (by decide) (fun c2 => ?_) (fun c2 => ?_)
  · exact m_throwW hx hb hfl (own := RX4) (cls := "java/lang/IllegalArgumentException") (text := "the number is out of range") (names := ["java/lang/RuntimeException", "java/lang/Exception"]) (ik := 62) (is := 260) (ic := 66) hown (by decide) (by decide) kc62 (hts _ (by decide +kernel)) (hE.1.2.2.2.1 _ (List.mem_of_getElem? (i := 21) rfl)) (m_hat hE (by decide +kernel) hts) (by decide +kernel) hE hV hS (by rw [hml]; exact hl.1) dX4_pass_11 dX4_pass_14 dX4_pass_15 dX4_pass_18 dX4_pass_21 hnx (by decide) (by decide) (by decide) (by decide) hlocks (⟨rfl, Or.inl ⟨rfl, Or.inl c2⟩⟩) (by decide) (by decide)
  · refine lv_iload_n hx hb dX4_pass_5 rfl (lv_at hl 1 rfl) ?_
    refine lv_bipush (v := 50) hx hb dX4_pass_6 (by decide) ?_
    refine lv_icmp_le (tgt := 22) hx hb dX4_pass_8 (by decide) (fun c8 => ?_) (fun c8 => ?_)
    · refine lv_aload_n hx hb dX4_pass_22 rfl (lv_at hl 0 rfl) ?_
      refine m_get (C := RX4) (T := TX4) (N := 11) hx hb hts hi_X4 hown hK hV 7 (v := .int (kI σ 2 0)) (g_kern7 hC rfl) rfl (by decide) k43 (fun _ h9 => h9) dX4_pass_23 ?_
      refine lv_iload_n hx hb dX4_pass_26 rfl (lv_at hl 1 rfl) ?_
      refine lv_iadd hx hb dX4_pass_27 ?_
      refine lv_sipush (v := 900) hx hb dX4_pass_28 (by decide) ?_
      refine lv_icmp_le (tgt := 45) hx hb dX4_pass_31 (by decide) (fun c31 => ?_) (fun c31 => ?_)
      · have x1 : ¬ x0 < 1 := c2
        obtain ⟨n, hn0, e0, hn⟩ := inR_mid (x := x0) (n := 51) (by decide) (fun z => c2 (Int32.lt_trans z (by decide))) (fun z => absurd (Int32.le_trans z c8) (by decide))
        rw [e0] at hl
        have hn1 : 1 ≤ n := by
          rcases Nat.eq_zero_or_pos n with z | z
          · exact absurd (by rw [e0, z]; decide) c2
          · exact z
        refine lv_aload_n hx hb dX4_pass_45 rfl (lv_at hl 0 rfl) ?_
        refine m_get (C := RX4) (T := TX4) (N := 11) hx hb hts hi_X4 hown hK hV 4 (v := .ref (L 2 0)) (g_kern4 hC rfl) rfl (by decide) k32 (fun _ h9 => h9) dX4_pass_46 ?_
        refine m_getN (C := RX1) (T := TX1) (N := 6) (host := "TaskKernel") hx hb hts hi_X1 hown hK hV 4 (v := .int (kI σ 24 0)) (g_grp4 hC (hC.wf.1.2.1)) rfl (by decide) kn201 (fun _ h9 => h9) dX4_pass_49 ?_
        refine lv_istore_n (lv' := [(2, .int (kI σ 24 0)), (0, .ref (L 0 0)), (1, .int (nI n))]) hx hb dX4_pass_52 rfl hl (by decide) rfl (fun ls hl => ?_)
        refine lv_iconst (v := 0) hx hb dX4_pass_53 (by decide) ?_
        refine lv_istore_n (lv' := [(3, .int 0), (2, .int (kI σ 24 0)), (0, .ref (L 0 0)), (1, .int (nI n))]) hx hb dX4_pass_54 rfl hl (by decide) rfl (fun ls hl => ?_)
        have lp55 : ∀ (fu : Nat) (i : Nat), (i ≤ n) → n - i < fu → ∀ (h : mH) (H : Heap) (locs : List Loc), CRep cs df P h0 L (tkN i σ) h → mV D h (mA hh s.heap.size) H → va_S (mA hh s.heap.size) s.heap H locs → ∀ (ls : Array Slot), lv_has ls 4 [(2, .int (kI σ 24 0)), (0, .ref (L 0 0)), (1, .int (nI n)), (3, .int (nI i))] → W p l e ({ frames := 7, cells := 1, slots := 6, locals := 161 } : Room) s m args below meth c H locs 0 0 (vx_MQ below (va_Qi ((fun (r : Int32) (h1 : mH) => ∃ n, inR x0 51 = some n ∧ 1 ≤ n ∧ kI σ 2 0 + x0 ≤ 900 ∧ CRep cs df P h0 L (tkN n σ) h1 ∧ r = kI (tkN n σ) 24 0 - kI σ 24 0)) (mB D hh s.heap.size) (mA hh s.heap.size)) (mX D hh s.heap.size (fun E h1 => h1 = hh ∧ (E = "java/lang/IllegalArgumentException" ∧ (x0 < 1 ∨ 50 < x0) ∨ E = "java/lang/IllegalStateException" ∧ ¬ x0 < 1 ∧ x0 ≤ 50 ∧ ¬ kI σ 2 0 + x0 ≤ 900))) args s 1 6 (mA hh s.heap.size)) (F0 m 55 ls []) := by
          intro fu
          induction fu with
          | zero =>
            intro i hi hfu
            exact absurd hfu (Nat.not_lt_zero _)
          | succ fu ih55 =>
            intro i hi hfu h H locs hC hV hS ls hl
            have en : kN (tkN i σ) = kN σ := tkN_N _ _
            refine lv_iload_n hx hb dX4_pass_55 rfl (lv_at hl 3 rfl) ?_
            refine lv_iload_n hx hb dX4_pass_56 rfl (lv_at hl 2 rfl) ?_
            refine lv_icmp_ge (tgt := 70) hx hb dX4_pass_57 (by decide) (fun c57 => ?_) (fun c57 => ?_)
            · replace c57 : n ≤ i := (nI_leI (a := n) (b := i) (by omega) (by omega)).mp c57
              refine lv_aload_n hx hb dX4_pass_70 rfl (lv_at hl 1 rfl) ?_
              refine m_get (C := RX4) (T := TX4) (N := 11) hx hb hts hi_X4 hown hK hV 4 (v := .ref (L 2 0)) (g_kern4 hC rfl) rfl (by decide) k32 (fun _ h9 => h9) dX4_pass_71 ?_
              refine m_getN (C := RX1) (T := TX1) (N := 6) (host := "TaskKernel") hx hb hts hi_X1 hown hK hV 4 (v := .int (kI (tkN i σ) 24 0)) (g_grp4 hC (hC.wf.1.2.1)) rfl (by decide) kn201 (fun _ h9 => h9) dX4_pass_74 ?_
              refine lv_iload_n hx hb dX4_pass_77 rfl (lv_at hl 0 rfl) ?_
              refine lv_isub hx hb dX4_pass_78 ?_
              refine W.widen (k := 1) (n := 6) (by decide) (by first | decide | omega) ?_
              exact vx_ret (m_iret (v := ((kI (tkN i σ) 24 0) - (kI σ 24 0))) hx hb hr hlocks hV hS (⟨n, hn0, hn1, c31, by rw [show i = n by omega] at hC; exact hC, by rw [show i = n by omega]⟩) dX4_pass_79)
            · replace c57 : ¬ n ≤ i := fun q9 => c57 ((nI_leI (a := n) (b := i) (by omega) (by omega)).mpr q9)
              refine lv_aload_n hx hb dX4_pass_60 rfl (lv_at hl 1 rfl) ?_
              refine m_callv (va_runV (As := []) (rest := []) ⟨hx, hb, hml, hown, hts⟩ (c_X4_passOneTick (l := l) (H.size) hC ) (cwV 0 hts gX4_pass_X4_passOneTick rfl rfl rfl (by decide +kernel) ⟨by decide, by decide⟩) (m_preV (r := (RX4, TX4, 11)) hE hV hS hA (hC.at (k := 0) (i := 0) rfl) rfl) rfl rfl hl.1 rfl (lv_room (by first | exact Nat.le_of_ble_eq_true rfl | simp [rf_cat, ct_ref, ct_int, ct_null, ct_long])) dX4_pass_61 ⟨by decide, by decide⟩) hV hS hA (fun h H locs hV hS hp _ => ?_)
              replace hC := hp; clear hp
              refine lv_iinc (v := nI (i + 1)) (lv' := [(3, .int (nI (i + 1))), (2, .int (kI σ 24 0)), (0, .ref (L 0 0)), (1, .int (nI n))]) hx hb dX4_pass_64 hl (k := 3) rfl (show nI i + Int32.ofInt 1 = _ from nI_add i 1) (by decide) rfl (fun ls hl => ?_)
              refine lv_goto (tgt := 55) hx hb dX4_pass_67 (by decide) ?_
              have q1 : (tickS (tkN i σ)) = (tkN (i + 1) σ) := rfl
              rw [q1] at hC
              exact ih55 (i + 1) (by omega) (by omega) _ _ _ hC hV hS ls (lv_sub hl [1, 2, 3, 0] rfl)
        have q2 : σ = (tkN 0 σ) := rfl
        rw [q2] at hC
        have q3 : 0 = nI 0 := rfl
        replace hl : lv_has ls 4 [(3, .int (nI 0)), (2, .int (kI σ 24 0)), (0, .ref (L 0 0)), (1, .int (nI n))] := (congrArg (lv_has ls 4) (m_lc (congrArg Value.int q3) (m_lc rfl (m_lc rfl (m_lc rfl rfl))))).mp hl
        exact lp55 ((n - 0) + 1) 0 (Nat.zero_le _) (Nat.lt_succ_self _) _ _ _ hC hV hS ls (lv_sub hl [1, 2, 3, 0] rfl)
      · exact m_throwW hx hb hfl (own := RX4) (cls := "java/lang/IllegalStateException") (text := "the present tick would be too great") (names := ["java/lang/RuntimeException", "java/lang/Exception"]) (ik := 73) (is := 262) (ic := 77) hown (by decide) (by decide) kc73 (hts _ (by decide +kernel)) (hE.1.2.2.2.1 _ (List.mem_of_getElem? (i := 22) rfl)) (m_hat hE (by decide +kernel) hts) (by decide +kernel) hE hV hS (by rw [hml]; exact hl.1) dX4_pass_34 dX4_pass_37 dX4_pass_38 dX4_pass_41 dX4_pass_44 hnx (by decide) (by decide) (by decide) (by decide) hlocks (⟨rfl, Or.inr ⟨rfl, c2, c8, c31⟩⟩) (by decide) (by decide)
    · exact m_throwW hx hb hfl (own := RX4) (cls := "java/lang/IllegalArgumentException") (text := "the number is out of range") (names := ["java/lang/RuntimeException", "java/lang/Exception"]) (ik := 62) (is := 260) (ic := 66) hown (by decide) (by decide) kc62 (hts _ (by decide +kernel)) (hE.1.2.2.2.1 _ (List.mem_of_getElem? (i := 21) rfl)) (m_hat hE (by decide +kernel) hts) (by decide +kernel) hE hV hS (by rw [hml]; exact hl.1) dX4_pass_11 dX4_pass_14 dX4_pass_15 dX4_pass_18 dX4_pass_21 hnx (by decide) (by decide) (by decide) (by decide) hlocks (⟨rfl, Or.inl ⟨rfl, Or.inr (Int32.not_le.mp c8)⟩⟩) (by decide) (by decide)
set_option maxHeartbeats 4000000 in
set_option maxRecDepth 100000 in
theorem c_X4_choice_ok {l : Launch} {D : va_G} {cs : mC} {df : Nat} {P : Nat → Prop} {h0 : mH} {L : KL} {σ : KS} {hh : mH} (sz : Nat) (hC : CRep cs df P h0 L σ hh) (t : Nat) (ht : t < kN σ 62 0) : Met l yX4_choice wsX4_choice ({ frames := 6, cells := 0, slots := 0, locals := 139 }) (mPre [.ref (L 0 0), .int (nI t)] D cs df hh sz) (va_Qi ((fun (r : Int32) (h1 : mH) => CRep cs df P h0 L (choS true σ) h1 ∧ r = oI (kO (choS true σ) 12 t))) (mB D hh sz) (mA hh sz)) 0 0 (mA hh sz) := by
  refine Met.ofW (cc := cX4_choice) (maxL := 3) (ret := (some .int)) (by decide) rfl ?_
  intro p e s m args below meth c s₁ B0 hml hv
  obtain ⟨hargs, hsz, hV, hE⟩ := hv
  subst hsz
  have hx := B0.exec
  have hb := B0.bytes
  have hr := B0.returns
  have hlocks := B0.notSynchronized
  have hts := atoms_spec (ws := wsX4_choice) B0.pre
  have hown : s.vm.findClass RX4 = some m.cls := findClass_of_methodNamed B0.named
  have hK := hE.1.1
  have hA : ∀ q : Nat, s.heap.size ≤ q → mA hh s.heap.size q := mA.top
  have hS : va_S (mA hh s.heap.size) s.heap s.heap [] := va_S.rf
  have hi_X0 : ∀ w ∈ u_ws RX0 TX0 3, w ∈ wsX4_choice := by decide +kernel
  have kn257 : va_Nw (.fieldLinkNest RX4 257 "TaskKernel$Core" "pick" "LTaskKernel$Task;" "TaskKernel") s := hE.1.2.1 _ (List.mem_of_getElem? (i := 10) rfl)
  have hl := lv_entry ([.ref (L 0 0), .int (nI t)]) (n := 3) (by first | exact Nat.le_of_ble_eq_true rfl | simp [lg_sl, rf_cat, ct_ref, ct_int, ct_null, ct_long])
  have hent := lg_entry_eq m ([.ref (L 0 0), .int (nI t)]) 3
  rw [← hargs] at hent
  rw [hent]
  generalize (lg_sl ([.ref (L 0 0), .int (nI t)]) ++ List.replicate (3 - (lg_sl ([.ref (L 0 0), .int (nI t)])).length) Slot.unset).toArray = ls at hl ⊢
  replace hl : lv_has ls 3 [(0, .ref (L 0 0)), (1, .int (nI t))] := hl
  have hwf := hC.wf
  obtain ⟨⟨z0, z1, z2, z3, z4⟩, z5, z6, z7, z8, z9, z10, z11, z12⟩ := hwf
  have en0 : kN (choS true σ) 62 0 = kN σ 62 0 := by rw [choS_N]
  refine lv_aload_n hx hb dX4_choice_0 rfl (lv_at hl 0 rfl) ?_
  refine lv_iload_n hx hb dX4_choice_1 rfl (lv_at hl 1 rfl) ?_
  refine m_callq (va_runV (As := [.int (nI t)]) (rest := []) ⟨hx, hb, hml, hown, hts⟩ (c_X4_coreAt (l := l) (s.heap.size) hC (nI t)) (cwV 1 hts gX4_choice_X4_coreAt rfl rfl rfl (by decide +kernel) ⟨by decide, by decide⟩) (m_preV (r := (RX4, TX4, 11)) hE hV hS hA (hC.at (k := 0) (i := 0) rfl) rfl) rfl rfl hl.1 rfl (lv_room (by first | exact Nat.le_of_ble_eq_true rfl | simp [rf_cat, ct_ref, ct_int, ct_null, ct_long])) dX4_choice_2 ⟨by decide, by decide⟩) hV hS hA (fun r h1 H locs hV hS hp _ => ?_)
  obtain ⟨e1, e2⟩ := hp
  subst e2
  rw [e1] at hV; clear e1
  refine m_astore_nq (i := 2) (lv' := [(2, va_rf (((inR (nI t) (kN σ 62 0))).map (L 1))), (0, .ref (L 0 0)), (1, .int (nI t))]) hx hb dX4_choice_5 rfl hl (by decide) (by first | rfl | simp [rf_cat, ct_ref, ct_int, ct_long]) (fun ls hl => ?_)
  refine m_aload_nq hx hb dX4_choice_6 rfl (lv_at hl 0 rfl) ?_
  refine m_ifnonnull_q (o := (inR (nI t) (kN σ 62 0))) (f := L 1) (tgt := 20) hx hb dX4_choice_7 (by decide) (fun k7 c7 => ?_) (fun c7 => ?_)
  · have bk7 := (inR_some c7).2
    replace hl : lv_has ls 3 [(2, .ref (L 1 k7)), (0, .ref (L 0 0)), (1, .int (nI t))] := by have h9 := hl; rw [c7] at h9; exact h9
    have e7 : k7 = t := Option.some.inj (c7.symm.trans (inR_nI ht (by omega)))
    refine lv_aload_n hx hb dX4_choice_20 rfl (lv_at hl 1 rfl) ?_
    refine lv_iconst (v := 1) hx hb dX4_choice_21 (by decide) ?_
    refine m_callv (va_runV (As := [.int 1]) (rest := []) ⟨hx, hb, hml, hown, hts⟩ (c_X4_chooseForAllCores (l := l) (H.size) hC true) (cwV 1 hts gX4_choice_X4_chooseForAllCores rfl rfl rfl (by decide +kernel) ⟨by decide, by decide⟩) (m_preV (r := (RX4, TX4, 11)) hE hV hS hA (hC.at (k := 0) (i := 0) rfl) rfl) rfl rfl hl.1 rfl (lv_room (by first | exact Nat.le_of_ble_eq_true rfl | simp [rf_cat, ct_ref, ct_int, ct_null, ct_long])) dX4_choice_22 ⟨by decide, by decide⟩) hV hS hA (fun h H locs hV hS hp _ => ?_)
    replace hC := hp; clear hp
    refine lv_aload_n hx hb dX4_choice_25 rfl (lv_at hl 0 rfl) ?_
    refine m_getN (C := RX0) (T := TX0) (N := 3) (host := "TaskKernel") hx hb hts hi_X0 hown hK hV 2 (v := va_rf ((kO (choS true σ) 12 k7).map (L 3))) (g_core2 hC (by first | assumption | (show k7 < kN (choS true σ) 62 0; omega))) rfl (by decide) kn257 (fun _ h9 => h9) dX4_choice_26 ?_
    refine m_calli (va_runS (As := [va_rf ((kO (choS true σ) 12 k7).map (L 3))]) (rest := []) ⟨hx, hb, hml, hown, hts⟩ (c_X4_numberOf (l := l) (H.size) hC (kO (choS true σ) 12 k7) (hC.wf.2.2.2.1 k7 (by omega))) (va_cwS 1 hts gX4_choice_X4_numberOf rfl rfl rfl (by decide +kernel) ⟨by decide, by decide⟩) (m_preS hE hV hS hA) rfl rfl hl.1 rfl (lv_room (by first | exact Nat.le_of_ble_eq_true rfl | simp [rf_cat, ct_ref, ct_int, ct_null, ct_long])) dX4_choice_29 ⟨by decide, by decide⟩) hV hS hA (fun r h1 H locs hV hS hp _ => ?_)
    obtain ⟨e1, e2⟩ := hp
    subst e2
    rw [e1] at hV; clear e1
    exact m_iret (v := oI (kO (choS true σ) 12 k7)) hx hb hr hlocks hV hS (⟨hC, by rw [e7]⟩) dX4_choice_32
  · replace hl : lv_has ls 3 [(2, .null), (0, .ref (L 0 0)), (1, .int (nI t))] := by have h9 := hl; rw [c7] at h9; exact h9
    exact nomatch (c7.symm.trans (inR_nI ht (by omega)))
set_option maxHeartbeats 4000000 in
set_option maxRecDepth 100000 in
theorem c_X4_choiceByComparing_ok {l : Launch} {D : va_G} {cs : mC} {df : Nat} {P : Nat → Prop} {h0 : mH} {L : KL} {σ : KS} {hh : mH} (sz : Nat) (hC : CRep cs df P h0 L σ hh) (t : Nat) (ht : t < kN σ 62 0) : Met l yX4_choiceByComparing wsX4_choiceByComparing ({ frames := 6, cells := 0, slots := 0, locals := 139 }) (mPre [.ref (L 0 0), .int (nI t)] D cs df hh sz) (va_Qi ((fun (r : Int32) (h1 : mH) => CRep cs df P h0 L (choS false σ) h1 ∧ r = oI (kO (choS false σ) 12 t))) (mB D hh sz) (mA hh sz)) 0 0 (mA hh sz) := by
  refine Met.ofW (cc := cX4_choiceByComparing) (maxL := 3) (ret := (some .int)) (by decide) rfl ?_
  intro p e s m args below meth c s₁ B0 hml hv
  obtain ⟨hargs, hsz, hV, hE⟩ := hv
  subst hsz
  have hx := B0.exec
  have hb := B0.bytes
  have hr := B0.returns
  have hlocks := B0.notSynchronized
  have hts := atoms_spec (ws := wsX4_choiceByComparing) B0.pre
  have hown : s.vm.findClass RX4 = some m.cls := findClass_of_methodNamed B0.named
  have hK := hE.1.1
  have hA : ∀ q : Nat, s.heap.size ≤ q → mA hh s.heap.size q := mA.top
  have hS : va_S (mA hh s.heap.size) s.heap s.heap [] := va_S.rf
  have hi_X0 : ∀ w ∈ u_ws RX0 TX0 3, w ∈ wsX4_choiceByComparing := by decide +kernel
  have kn257 : va_Nw (.fieldLinkNest RX4 257 "TaskKernel$Core" "pick" "LTaskKernel$Task;" "TaskKernel") s := hE.1.2.1 _ (List.mem_of_getElem? (i := 10) rfl)
  have hl := lv_entry ([.ref (L 0 0), .int (nI t)]) (n := 3) (by first | exact Nat.le_of_ble_eq_true rfl | simp [lg_sl, rf_cat, ct_ref, ct_int, ct_null, ct_long])
  have hent := lg_entry_eq m ([.ref (L 0 0), .int (nI t)]) 3
  rw [← hargs] at hent
  rw [hent]
  generalize (lg_sl ([.ref (L 0 0), .int (nI t)]) ++ List.replicate (3 - (lg_sl ([.ref (L 0 0), .int (nI t)])).length) Slot.unset).toArray = ls at hl ⊢
  replace hl : lv_has ls 3 [(0, .ref (L 0 0)), (1, .int (nI t))] := hl
  have hwf := hC.wf
  obtain ⟨⟨z0, z1, z2, z3, z4⟩, z5, z6, z7, z8, z9, z10, z11, z12⟩ := hwf
  have en0 : kN (choS false σ) 62 0 = kN σ 62 0 := by rw [choS_N]
  refine lv_aload_n hx hb dX4_choiceByComparing_0 rfl (lv_at hl 0 rfl) ?_
  refine lv_iload_n hx hb dX4_choiceByComparing_1 rfl (lv_at hl 1 rfl) ?_
  refine m_callq (va_runV (As := [.int (nI t)]) (rest := []) ⟨hx, hb, hml, hown, hts⟩ (c_X4_coreAt (l := l) (s.heap.size) hC (nI t)) (cwV 1 hts gX4_choiceByComparing_X4_coreAt rfl rfl rfl (by decide +kernel) ⟨by decide, by decide⟩) (m_preV (r := (RX4, TX4, 11)) hE hV hS hA (hC.at (k := 0) (i := 0) rfl) rfl) rfl rfl hl.1 rfl (lv_room (by first | exact Nat.le_of_ble_eq_true rfl | simp [rf_cat, ct_ref, ct_int, ct_null, ct_long])) dX4_choiceByComparing_2 ⟨by decide, by decide⟩) hV hS hA (fun r h1 H locs hV hS hp _ => ?_)
  obtain ⟨e1, e2⟩ := hp
  subst e2
  rw [e1] at hV; clear e1
  refine m_astore_nq (i := 2) (lv' := [(2, va_rf (((inR (nI t) (kN σ 62 0))).map (L 1))), (0, .ref (L 0 0)), (1, .int (nI t))]) hx hb dX4_choiceByComparing_5 rfl hl (by decide) (by first | rfl | simp [rf_cat, ct_ref, ct_int, ct_long]) (fun ls hl => ?_)
  refine m_aload_nq hx hb dX4_choiceByComparing_6 rfl (lv_at hl 0 rfl) ?_
  refine m_ifnonnull_q (o := (inR (nI t) (kN σ 62 0))) (f := L 1) (tgt := 20) hx hb dX4_choiceByComparing_7 (by decide) (fun k7 c7 => ?_) (fun c7 => ?_)
  · have bk7 := (inR_some c7).2
    replace hl : lv_has ls 3 [(2, .ref (L 1 k7)), (0, .ref (L 0 0)), (1, .int (nI t))] := by have h9 := hl; rw [c7] at h9; exact h9
    have e7 : k7 = t := Option.some.inj (c7.symm.trans (inR_nI ht (by omega)))
    refine lv_aload_n hx hb dX4_choiceByComparing_20 rfl (lv_at hl 1 rfl) ?_
    refine lv_iconst (v := 0) hx hb dX4_choiceByComparing_21 (by decide) ?_
    refine m_callv (va_runV (As := [.int 0]) (rest := []) ⟨hx, hb, hml, hown, hts⟩ (c_X4_chooseForAllCores (l := l) (H.size) hC false) (cwV 1 hts gX4_choiceByComparing_X4_chooseForAllCores rfl rfl rfl (by decide +kernel) ⟨by decide, by decide⟩) (m_preV (r := (RX4, TX4, 11)) hE hV hS hA (hC.at (k := 0) (i := 0) rfl) rfl) rfl rfl hl.1 rfl (lv_room (by first | exact Nat.le_of_ble_eq_true rfl | simp [rf_cat, ct_ref, ct_int, ct_null, ct_long])) dX4_choiceByComparing_22 ⟨by decide, by decide⟩) hV hS hA (fun h H locs hV hS hp _ => ?_)
    replace hC := hp; clear hp
    refine lv_aload_n hx hb dX4_choiceByComparing_25 rfl (lv_at hl 0 rfl) ?_
    refine m_getN (C := RX0) (T := TX0) (N := 3) (host := "TaskKernel") hx hb hts hi_X0 hown hK hV 2 (v := va_rf ((kO (choS false σ) 12 k7).map (L 3))) (g_core2 hC (by first | assumption | (show k7 < kN (choS false σ) 62 0; omega))) rfl (by decide) kn257 (fun _ h9 => h9) dX4_choiceByComparing_26 ?_
    refine m_calli (va_runS (As := [va_rf ((kO (choS false σ) 12 k7).map (L 3))]) (rest := []) ⟨hx, hb, hml, hown, hts⟩ (c_X4_numberOf (l := l) (H.size) hC (kO (choS false σ) 12 k7) (hC.wf.2.2.2.1 k7 (by omega))) (va_cwS 1 hts gX4_choiceByComparing_X4_numberOf rfl rfl rfl (by decide +kernel) ⟨by decide, by decide⟩) (m_preS hE hV hS hA) rfl rfl hl.1 rfl (lv_room (by first | exact Nat.le_of_ble_eq_true rfl | simp [rf_cat, ct_ref, ct_int, ct_null, ct_long])) dX4_choiceByComparing_29 ⟨by decide, by decide⟩) hV hS hA (fun r h1 H locs hV hS hp _ => ?_)
    obtain ⟨e1, e2⟩ := hp
    subst e2
    rw [e1] at hV; clear e1
    exact m_iret (v := oI (kO (choS false σ) 12 k7)) hx hb hr hlocks hV hS (⟨hC, by rw [e7]⟩) dX4_choiceByComparing_32
  · replace hl : lv_has ls 3 [(2, .null), (0, .ref (L 0 0)), (1, .int (nI t))] := by have h9 := hl; rw [c7] at h9; exact h9
    exact nomatch (c7.symm.trans (inR_nI ht (by omega)))
set_option maxHeartbeats 4000000 in
set_option maxRecDepth 100000 in
theorem c_X4_bothWaysChooseAlike {l : Launch} {D : va_G} {cs : mC} {df : Nat} {P : Nat → Prop} {h0 : mH} {L : KL} {σ : KS} {hh : mH} (sz : Nat) (hC : CRep cs df P h0 L σ hh) (hAl : ∀ i, i < kN σ 62 0 → kO (choS true (bwS i σ)) 12 i = kO (choS false (choS true (bwS i σ))) 12 i) : Met l yX4_bothWaysChooseAlike wsX4_bothWaysChooseAlike ({ frames := 7, cells := 0, slots := 0, locals := 161 }) (mPre [.ref (L 0 0)] D cs df hh sz) (va_Qi ((fun (r : Int32) (h1 : mH) => CRep cs df P h0 L (bwS (kN σ 62 0) σ) h1 ∧ r = bI true)) (mB D hh sz) (mA hh sz)) 0 0 (mA hh sz) := by
  refine Met.ofW (cc := cX4_bothWaysChooseAlike) (maxL := 2) (ret := (some .boolean)) (by decide) rfl ?_
  intro p e s m args below meth c s₁ B0 hml hv
  obtain ⟨hargs, hsz, hV, hE⟩ := hv
  subst hsz
  have hx := B0.exec
  have hb := B0.bytes
  have hr := B0.returns
  have hlocks := B0.notSynchronized
  have hts := atoms_spec (ws := wsX4_bothWaysChooseAlike) B0.pre
  have hown : s.vm.findClass RX4 = some m.cls := findClass_of_methodNamed B0.named
  have hK := hE.1.1
  have hA : ∀ q : Nat, s.heap.size ≤ q → mA hh s.heap.size q := mA.top
  have hS : va_S (mA hh s.heap.size) s.heap s.heap [] := va_S.rf
  have hi_X4 : ∀ w ∈ u_ws RX4 TX4 11, w ∈ wsX4_bothWaysChooseAlike := by decide +kernel
  have k12 : (Cond.fieldLink RX4 12 "TaskKernel" "cores" "Ljava/util/ArrayList;").before args s = true := hts _ (by decide +kernel)
  have hl := lv_entry ([.ref (L 0 0)]) (n := 2) (by first | exact Nat.le_of_ble_eq_true rfl | simp [lg_sl, rf_cat, ct_ref, ct_int, ct_null, ct_long])
  have hent := lg_entry_eq m ([.ref (L 0 0)]) 2
  rw [← hargs] at hent
  rw [hent]
  generalize (lg_sl ([.ref (L 0 0)]) ++ List.replicate (2 - (lg_sl ([.ref (L 0 0)])).length) Slot.unset).toArray = ls at hl ⊢
  replace hl : lv_has ls 2 [(0, .ref (L 0 0))] := hl
  have hwf := hC.wf
  obtain ⟨⟨z0, z1, z2, z3, z4⟩, z5, z6, z7, z8, z9, z10, z11, z12⟩ := hwf
  refine lv_iconst (v := 0) hx hb dX4_bothWaysChooseAlike_0 (by decide) ?_
  refine lv_istore_n (lv' := [(1, .int 0), (0, .ref (L 0 0))]) hx hb dX4_bothWaysChooseAlike_1 rfl hl (by decide) rfl (fun ls hl => ?_)
  have lp2 : ∀ (fu : Nat) (i : Nat), (i ≤ kN σ 62 0) → kN σ 62 0 - i < fu → ∀ (h : mH) (H : Heap) (locs : List Loc), CRep cs df P h0 L (bwS i σ) h → mV D h (mA hh s.heap.size) H → va_S (mA hh s.heap.size) s.heap H locs → ∀ (ls : Array Slot), lv_has ls 2 [(0, .ref (L 0 0)), (1, .int (nI i))] → W p l e ({ frames := 7, cells := 0, slots := 0, locals := 161 } : Room) s m args below meth c H locs 0 0 (MQ below (va_Qi ((fun (r : Int32) (h1 : mH) => CRep cs df P h0 L (bwS (kN σ 62 0) σ) h1 ∧ r = bI true)) (mB D hh s.heap.size) (mA hh s.heap.size)) args s 0 0 (mA hh s.heap.size)) (F0 m 2 ls []) := by
    intro fu
    induction fu with
    | zero =>
      intro i hi hfu
      exact absurd hfu (Nat.not_lt_zero _)
    | succ fu ih2 =>
      intro i hi hfu h H locs hC hV hS ls hl
      have en : kN (bwS i σ) = kN σ := bwS_N _ _
      have en0 : kN (bwS i σ) 62 0 = kN σ 62 0 := by rw [en]
      have en1 : kN (choS true (bwS i σ)) 62 0 = kN σ 62 0 := by rw [choS_N, en]
      refine lv_iload_n hx hb dX4_bothWaysChooseAlike_2 rfl (lv_at hl 1 rfl) ?_
      refine lv_aload_n hx hb dX4_bothWaysChooseAlike_3 rfl (lv_at hl 0 rfl) ?_
      refine m_get (C := RX4) (T := TX4) (N := 11) hx hb hts hi_X4 hown hK hV 0 (v := .ref (L 5 0)) (g_kern0 hC rfl) rfl (by decide) k12 (fun _ h9 => h9) dX4_bothWaysChooseAlike_4 ?_
      refine m_calli (va_runV (As := []) (rest := [.int (nI i)]) ⟨hx, hb, hml, hown, hts⟩ (l_size (H.size) hC 0 (by decide)) (cwV 0 hts gX4_bothWaysChooseAlike_Jx4a65c_size_8abf5 rfl rfl rfl (by decide +kernel) ⟨by decide, by decide⟩) (m_preV (r := (RJx4a65c, TJx4a65c, 3)) hE hV hS hA (CRep.atL hC (j := 0) (by decide)) rfl) rfl rfl hl.1 rfl (lv_room (by first | exact Nat.le_of_ble_eq_true rfl | simp [rf_cat, ct_ref, ct_int, ct_null, ct_long])) dX4_bothWaysChooseAlike_7 ⟨by decide, by decide⟩) hV hS hA (fun r h1 H locs hV hS hp _ => ?_)
      obtain ⟨e1, e2⟩ := hp
      subst e2
      rw [e1] at hV; clear e1
      refine lv_icmp_ge (tgt := 34) hx hb dX4_bothWaysChooseAlike_10 (by decide) (fun c10 => ?_) (fun c10 => ?_)
      · replace c10 : kN (bwS i σ) 62 0 ≤ i := (nI_leI (a := kN (bwS i σ) 62 0) (b := i) (by omega) (by omega)).mp c10
        refine lv_iconst (v := 1) hx hb dX4_bothWaysChooseAlike_34 (by decide) ?_
        exact m_zret (v := 1) hx hb hr hlocks (by decide) hV hS (⟨(by rw [show i = kN σ 62 0 by omega] at hC; exact hC), rfl⟩) dX4_bothWaysChooseAlike_35
      · replace c10 : ¬ kN (bwS i σ) 62 0 ≤ i := fun q9 => c10 ((nI_leI (a := kN (bwS i σ) 62 0) (b := i) (by omega) (by omega)).mpr q9)
        refine lv_aload_n hx hb dX4_bothWaysChooseAlike_13 rfl (lv_at hl 0 rfl) ?_
        refine lv_iload_n hx hb dX4_bothWaysChooseAlike_14 rfl (lv_at hl 1 rfl) ?_
        refine m_calli (va_runV (As := [.int (nI i)]) (rest := []) ⟨hx, hb, hml, hown, hts⟩ (c_X4_choice_ok (l := l) (H.size) hC i (by omega)) (cwV 1 hts gX4_bothWaysChooseAlike_X4_choice rfl rfl rfl (by decide +kernel) ⟨by decide, by decide⟩) (m_preV (r := (RX4, TX4, 11)) hE hV hS hA (hC.at (k := 0) (i := 0) rfl) rfl) rfl rfl hl.1 rfl (lv_room (by first | exact Nat.le_of_ble_eq_true rfl | simp [rf_cat, ct_ref, ct_int, ct_null, ct_long])) dX4_bothWaysChooseAlike_15 ⟨by decide, by decide⟩) hV hS hA (fun r h H locs hV hS hp _ => ?_)
        obtain ⟨hC, e2⟩ := hp
        subst e2
        refine lv_aload_n hx hb dX4_bothWaysChooseAlike_18 rfl (lv_at hl 0 rfl) ?_
        refine lv_iload_n hx hb dX4_bothWaysChooseAlike_19 rfl (lv_at hl 1 rfl) ?_
        refine m_calli (va_runV (As := [.int (nI i)]) (rest := [.int (oI (kO (choS true (bwS i σ)) 12 i))]) ⟨hx, hb, hml, hown, hts⟩ (c_X4_choiceByComparing_ok (l := l) (H.size) hC i (by omega)) (cwV 1 hts gX4_bothWaysChooseAlike_X4_choiceByComparing rfl rfl rfl (by decide +kernel) ⟨by decide, by decide⟩) (m_preV (r := (RX4, TX4, 11)) hE hV hS hA (hC.at (k := 0) (i := 0) rfl) rfl) rfl rfl hl.1 rfl (lv_room (by first | exact Nat.le_of_ble_eq_true rfl | simp [rf_cat, ct_ref, ct_int, ct_null, ct_long])) dX4_bothWaysChooseAlike_20 ⟨by decide, by decide⟩) hV hS hA (fun r h H locs hV hS hp _ => ?_)
        obtain ⟨hC, e2⟩ := hp
        subst e2
        refine lv_icmp_eq (tgt := 28) hx hb dX4_bothWaysChooseAlike_23 (by decide) (fun c23 => ?_) (fun c23 => ?_)
        · refine lv_iinc (v := nI (i + 1)) (lv' := [(1, .int (nI (i + 1))), (0, .ref (L 0 0))]) hx hb dX4_bothWaysChooseAlike_28 hl (k := 1) rfl (show nI i + Int32.ofInt 1 = _ from nI_add i 1) (by decide) rfl (fun ls hl => ?_)
          refine lv_goto (tgt := 2) hx hb dX4_bothWaysChooseAlike_31 (by decide) ?_
          have q1 : (choS false (choS true (bwS i σ))) = (bwS (i + 1) σ) := rfl
          rw [q1] at hC
          exact ih2 (i + 1) (by omega) (by omega) _ _ _ hC hV hS ls (lv_sub hl [1, 0] rfl)
        · exact absurd (congrArg oI (hAl i (by omega))) c23
  have q2 : σ = (bwS 0 σ) := rfl
  rw [q2] at hC
  have q3 : 0 = nI 0 := rfl
  replace hl : lv_has ls 2 [(1, .int (nI 0)), (0, .ref (L 0 0))] := (congrArg (lv_has ls 2) (m_lc (congrArg Value.int q3) (m_lc rfl rfl))).mp hl
  exact lp2 ((kN σ 62 0 - 0) + 1) 0 (Nat.zero_le _) (Nat.lt_succ_self _) _ _ _ hC hV hS ls (lv_sub hl [1, 0] rfl)
set_option maxHeartbeats 4000000 in
set_option maxRecDepth 100000 in
theorem c_X4_isSound {l : Launch} {D : va_G} {cs : mC} {df : Nat} {P : Nat → Prop} {h0 : mH} {L : KL} {σ : KS} {hh : mH} (sz : Nat) (hC : CRep cs df P h0 L σ hh) (hAl : ∀ i, i < kN σ 62 0 → kO (choS true (bwS i σ)) 12 i = kO (choS false (choS true (bwS i σ))) 12 i) (hDs : sumI (fun t => kI (bwS (kN σ 62 0) σ) 35 t) (kN (bwS (kN σ 62 0) σ) 62 2) = kI (bwS (kN σ 62 0) σ) 24 0) (hNw : ∀ t, t < kN (bwS (kN σ 62 0) σ) 62 2 → hbS (bwS (kN σ 62 0) σ) t ≠ some t) : Met l yX4_isSound wsX4_isSound ({ frames := 8, cells := 0, slots := 0, locals := 182 }) (mPre [.ref (L 0 0)] D cs df hh sz) (va_Qi ((fun (r : Int32) (h1 : mH) => CRep cs df P h0 L (bwS (kN σ 62 0) σ) h1 ∧ r = bI true)) (mB D hh sz) (mA hh sz)) 0 0 (mA hh sz) := by
  refine Met.ofW (cc := cX4_isSound) (maxL := 1) (ret := (some .boolean)) (by decide) rfl ?_
  intro p e s m args below meth c s₁ B0 hml hv
  obtain ⟨hargs, hsz, hV, hE⟩ := hv
  subst hsz
  have hx := B0.exec
  have hb := B0.bytes
  have hr := B0.returns
  have hlocks := B0.notSynchronized
  have hts := atoms_spec (ws := wsX4_isSound) B0.pre
  have hown : s.vm.findClass RX4 = some m.cls := findClass_of_methodNamed B0.named
  have hK := hE.1.1
  have hA : ∀ q : Nat, s.heap.size ≤ q → mA hh s.heap.size q := mA.top
  have hS : va_S (mA hh s.heap.size) s.heap s.heap [] := va_S.rf
  have hl := lv_entry ([.ref (L 0 0)]) (n := 1) (by first | exact Nat.le_of_ble_eq_true rfl | simp [lg_sl, rf_cat, ct_ref, ct_int, ct_null, ct_long])
  have hent := lg_entry_eq m ([.ref (L 0 0)]) 1
  rw [← hargs] at hent
  rw [hent]
  generalize (lg_sl ([.ref (L 0 0)]) ++ List.replicate (1 - (lg_sl ([.ref (L 0 0)])).length) Slot.unset).toArray = ls at hl ⊢
  replace hl : lv_has ls 1 [(0, .ref (L 0 0))] := hl
  have hwf := hC.wf
  obtain ⟨⟨z0, z1, z2, z3, z4⟩, z5, z6, z7, z8, z9, z10, z11, z12⟩ := hwf
  refine lv_aload_n hx hb dX4_isSound_0 rfl (lv_at hl 0 rfl) ?_
  refine m_calli (va_runV (As := []) (rest := []) ⟨hx, hb, hml, hown, hts⟩ (c_X4_bothWaysChooseAlike (l := l) (s.heap.size) hC hAl) (cwV 0 hts gX4_isSound_X4_bothWaysChooseAlike rfl rfl rfl (by decide +kernel) ⟨by decide, by decide⟩) (m_preV (r := (RX4, TX4, 11)) hE hV hS hA (hC.at (k := 0) (i := 0) rfl) rfl) rfl rfl hl.1 rfl (lv_room (by first | exact Nat.le_of_ble_eq_true rfl | simp [rf_cat, ct_ref, ct_int, ct_null, ct_long])) dX4_isSound_1 ⟨by decide, by decide⟩) hV hS hA (fun r h H locs hV hS hp _ => ?_)
  obtain ⟨hC, e2⟩ := hp
  subst e2
  refine lv_if_eq (tgt := 25) hx hb dX4_isSound_4 (by decide) (fun c4 => ?_) (fun c4 => ?_)
  · replace c4 : true = false := bI_0.mp c4
    exact absurd c4 (by decide)
  · replace c4 : true = true := bI_1.mp c4
    refine lv_aload_n hx hb dX4_isSound_7 rfl (lv_at hl 0 rfl) ?_
    refine m_calli (va_runV (As := []) (rest := []) ⟨hx, hb, hml, hown, hts⟩ (c_X4_doneAddsUp (l := l) (H.size) hC ) (cwV 0 hts gX4_isSound_X4_doneAddsUp rfl rfl rfl (by decide +kernel) ⟨by decide, by decide⟩) (m_preV (r := (RX4, TX4, 11)) hE hV hS hA (hC.at (k := 0) (i := 0) rfl) rfl) rfl rfl hl.1 rfl (lv_room (by first | exact Nat.le_of_ble_eq_true rfl | simp [rf_cat, ct_ref, ct_int, ct_null, ct_long])) dX4_isSound_8 ⟨by decide, by decide⟩) hV hS hA (fun r h1 H locs hV hS hp _ => ?_)
    obtain ⟨e1, e2⟩ := hp
    subst e2
    rw [e1] at hV; clear e1
    refine lv_if_eq (tgt := 25) hx hb dX4_isSound_11 (by decide) (fun c11 => ?_) (fun c11 => ?_)
    · replace c11 : (decide (sumI (fun t => kI (bwS (kN σ 62 0) σ) 35 t) (kN (bwS (kN σ 62 0) σ) 62 2) = kI (bwS (kN σ 62 0) σ) 24 0)) = false := bI_0.mp c11
      exact absurd hDs (of_decide_eq_false c11)
    · replace c11 : (decide (sumI (fun t => kI (bwS (kN σ 62 0) σ) 35 t) (kN (bwS (kN σ 62 0) σ) 62 2) = kI (bwS (kN σ 62 0) σ) 24 0)) = true := bI_1.mp c11
      refine lv_aload_n hx hb dX4_isSound_14 rfl (lv_at hl 0 rfl) ?_
      refine m_calli (va_runV (As := []) (rest := []) ⟨hx, hb, hml, hown, hts⟩ (c_X4_noneWaitsForItself (l := l) (H.size) hC ) (cwV 0 hts gX4_isSound_X4_noneWaitsForItself rfl rfl rfl (by decide +kernel) ⟨by decide, by decide⟩) (m_preV (r := (RX4, TX4, 11)) hE hV hS hA (hC.at (k := 0) (i := 0) rfl) rfl) rfl rfl hl.1 rfl (lv_room (by first | exact Nat.le_of_ble_eq_true rfl | simp [rf_cat, ct_ref, ct_int, ct_null, ct_long])) dX4_isSound_15 ⟨by decide, by decide⟩) hV hS hA (fun r h1 H locs hV hS hp _ => ?_)
      obtain ⟨e1, e2⟩ := hp
      subst e2
      rw [e1] at hV; clear e1
      refine lv_if_eq (tgt := 25) hx hb dX4_isSound_18 (by decide) (fun c18 => ?_) (fun c18 => ?_)
      · replace c18 : (decide (∀ t, t < kN (bwS (kN σ 62 0) σ) 62 2 → hbS (bwS (kN σ 62 0) σ) t ≠ some t)) = false := bI_0.mp c18
        exact absurd hNw (of_decide_eq_false c18)
      · replace c18 : (decide (∀ t, t < kN (bwS (kN σ 62 0) σ) 62 2 → hbS (bwS (kN σ 62 0) σ) t ≠ some t)) = true := bI_1.mp c18
        refine lv_iconst (v := 1) hx hb dX4_isSound_21 (by decide) ?_
        refine lv_goto (tgt := 26) hx hb dX4_isSound_22 (by decide) ?_
        exact m_zret (v := 1) hx hb hr hlocks (by decide) hV hS (⟨hC, rfl⟩) dX4_isSound_26
