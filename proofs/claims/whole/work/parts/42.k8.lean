set_option maxHeartbeats 4000000 in
set_option maxRecDepth 100000 in
theorem c_X4_releaseTimedTasks {l : Launch} {D : va_G} {cs : mC} {df : Nat} {P : Nat → Prop} {h0 : mH} {L : KL} {σ : KS} {hh : mH} (sz : Nat) (hC : CRep cs df P h0 L σ hh)  : Met l yX4_releaseTimedTasks wsX4_releaseTimedTasks ({ frames := 3, cells := 0, slots := 0, locals := 64 }) (mPre [.ref (L 0 0)] D cs df hh sz) (va_Qv ((fun (h1 : mH) => CRep cs df P h0 L (relS (kN σ 62 2) σ) h1)) (mB D hh sz) (mA hh sz)) 0 0 (mA hh sz) := by
  refine Met.ofW (cc := cX4_releaseTimedTasks) (maxL := 3) (ret := none) (by decide) rfl ?_
  intro p e s m args below meth c s₁ B0 hml hv
  obtain ⟨hargs, hsz, hV, hE⟩ := hv
  subst hsz
  have hx := B0.exec
  have hb := B0.bytes
  have hr := B0.returns
  have hlocks := B0.notSynchronized
  have hts := atoms_spec (ws := wsX4_releaseTimedTasks) B0.pre
  have hown : s.vm.findClass RX4 = some m.cls := findClass_of_methodNamed B0.named
  have hK := hE.1.1
  have hA : ∀ q : Nat, s.heap.size ≤ q → mA hh s.heap.size q := mA.top
  have hS : va_S (mA hh s.heap.size) s.heap s.heap [] := va_S.rf
  have hi_X4 : ∀ w ∈ u_ws RX4 TX4 11, w ∈ wsX4_releaseTimedTasks := by decide +kernel
  have k21 : (Cond.fieldLink RX4 21 "TaskKernel" "tasks" "Ljava/util/ArrayList;").before args s = true := hts _ (by decide +kernel)
  have kc121 : (Cond.classLink RX4 121 "TaskKernel$Task").before args s = true := hts _ (by decide +kernel)
  have kq211 : va_Nw (.methodLinkNest RX4 211 yX3_isTimed "TaskKernel") s := hE.1.2.2.1 _ (List.mem_of_getElem? (i := 2) rfl)
  have hi_X3 : ∀ w ∈ u_ws RX3 TX3 16, w ∈ wsX4_releaseTimedTasks := by decide +kernel
  have kn158 : va_Nw (.fieldLinkNest RX4 158 "TaskKernel$Task" "ended" "Z" "TaskKernel") s := hE.1.2.1 _ (List.mem_of_getElem? (i := 17) rfl)
  have kn146 : va_Nw (.fieldLinkNest RX4 146 "TaskKernel$Task" "deadline" "I" "TaskKernel") s := hE.1.2.1 _ (List.mem_of_getElem? (i := 21) rfl)
  have k43 : (Cond.fieldLink RX4 43 "TaskKernel" "presentTick" "I").before args s = true := hts _ (by decide +kernel)
  have kn164 : va_Nw (.fieldLinkNest RX4 164 "TaskKernel$Task" "left" "I" "TaskKernel") s := hE.1.2.1 _ (List.mem_of_getElem? (i := 15) rfl)
  have kn140 : va_Nw (.fieldLinkNest RX4 140 "TaskKernel$Task" "budget" "I" "TaskKernel") s := hE.1.2.1 _ (List.mem_of_getElem? (i := 19) rfl)
  have kn137 : va_Nw (.fieldLinkNest RX4 137 "TaskKernel$Task" "period" "I" "TaskKernel") s := hE.1.2.1 _ (List.mem_of_getElem? (i := 18) rfl)
  have kn225 : va_Nw (.fieldLinkNest RX4 225 "TaskKernel$Task" "missed" "I" "TaskKernel") s := hE.1.2.1 _ (List.mem_of_getElem? (i := 22) rfl)
  have hl := lv_entry ([.ref (L 0 0)]) (n := 3) (by first | exact Nat.le_of_ble_eq_true rfl | simp [lg_sl, rf_cat, ct_ref, ct_int, ct_null, ct_long])
  have hent := lg_entry_eq m ([.ref (L 0 0)]) 3
  rw [← hargs] at hent
  rw [hent]
  generalize (lg_sl ([.ref (L 0 0)]) ++ List.replicate (3 - (lg_sl ([.ref (L 0 0)])).length) Slot.unset).toArray = ls at hl ⊢
  replace hl : lv_has ls 3 [(0, .ref (L 0 0))] := hl
  have hwf := hC.wf
  obtain ⟨⟨z0, z1, z2, z3, z4⟩, z5, z6, z7, z8, z9, z10, z11, z12⟩ := hwf
  refine lv_iconst (v := 0) hx hb dX4_releaseTimedTasks_0 (by decide) ?_
  refine lv_istore_n (lv' := [(1, .int 0), (0, .ref (L 0 0))]) hx hb dX4_releaseTimedTasks_1 rfl hl (by decide) rfl (fun ls hl => ?_)
  have lp2 : ∀ (fu : Nat) (i : Nat), (i ≤ kN σ 62 2) → kN σ 62 2 - i < fu → ∀ (h : mH) (H : Heap) (locs : List Loc), CRep cs df P h0 L (relS i σ) h → mV D h (mA hh s.heap.size) H → va_S (mA hh s.heap.size) s.heap H locs → ∀ (ls : Array Slot), lv_has ls 3 [(0, .ref (L 0 0)), (1, .int (nI i))] → W p l e ({ frames := 3, cells := 0, slots := 0, locals := 64 } : Room) s m args below meth c H locs 0 0 (MQ below (va_Qv ((fun (h1 : mH) => CRep cs df P h0 L (relS (kN σ 62 2) σ) h1)) (mB D hh s.heap.size) (mA hh s.heap.size)) args s 0 0 (mA hh s.heap.size)) (F0 m 2 ls []) := by
    intro fu
    induction fu with
    | zero =>
      intro i hi hfu
      exact absurd hfu (Nat.not_lt_zero _)
    | succ fu ih2 =>
      intro i hi hfu h H locs hC hV hS ls hl
      have en : kN (relS i σ) 62 2 = kN σ 62 2 := by rw [relS_N]
      refine lv_iload_n hx hb dX4_releaseTimedTasks_2 rfl (lv_at hl 1 rfl) ?_
      refine lv_aload_n hx hb dX4_releaseTimedTasks_3 rfl (lv_at hl 0 rfl) ?_
      refine m_get (C := RX4) (T := TX4) (N := 11) hx hb hts hi_X4 hown hK hV 2 (v := .ref (L 5 2)) (g_kern2 hC rfl) rfl (by decide) k21 (fun _ h9 => h9) dX4_releaseTimedTasks_4 ?_
      refine m_calli (va_runV (As := []) (rest := [.int (nI i)]) ⟨hx, hb, hml, hown, hts⟩ (l_size (H.size) hC 2 (by decide)) (cwV 0 hts gX4_releaseTimedTasks_Jx4a65c_size_8abf5 rfl rfl rfl (by decide +kernel) ⟨by decide, by decide⟩) (m_preV (r := (RJx4a65c, TJx4a65c, 3)) hE hV hS hA (CRep.atL hC (j := 2) (by decide)) rfl) rfl rfl hl.1 rfl (lv_room (by first | exact Nat.le_of_ble_eq_true rfl | simp [rf_cat, ct_ref, ct_int, ct_null, ct_long])) dX4_releaseTimedTasks_7 ⟨by decide, by decide⟩) hV hS hA (fun r h1 H locs hV hS hp _ => ?_)
      obtain ⟨e1, e2⟩ := hp
      subst e2
      rw [e1] at hV; clear e1
      refine lv_icmp_ge (tgt := 94) hx hb dX4_releaseTimedTasks_10 (by decide) (fun c10 => ?_) (fun c10 => ?_)
      · replace c10 : kN (relS i σ) 62 2 ≤ i := (nI_leI (a := kN (relS i σ) 62 2) (b := i) (by omega) (by omega)).mp c10
        exact m_vret hx hb hr hlocks hV hS ((by rw [show i = kN σ 62 2 by omega] at hC; exact hC)) dX4_releaseTimedTasks_94
      · replace c10 : ¬ kN (relS i σ) 62 2 ≤ i := fun q9 => c10 ((nI_leI (a := kN (relS i σ) 62 2) (b := i) (by omega) (by omega)).mpr q9)
        refine lv_aload_n hx hb dX4_releaseTimedTasks_13 rfl (lv_at hl 0 rfl) ?_
        refine m_get (C := RX4) (T := TX4) (N := 11) hx hb hts hi_X4 hown hK hV 2 (v := .ref (L 5 2)) (g_kern2 hC rfl) rfl (by decide) k21 (fun _ h9 => h9) dX4_releaseTimedTasks_14 ?_
        refine lv_iload_n hx hb dX4_releaseTimedTasks_17 rfl (lv_at hl 1 rfl) ?_
        refine m_callq (va_runV (As := [.int (nI i)]) (rest := []) ⟨hx, hb, hml, hown, hts⟩ (l_get2 (H.size) hC i (by first | assumption | omega)) (cwV 1 hts gX4_releaseTimedTasks_Jx4a65c_get_915e3 rfl rfl rfl (by decide +kernel) ⟨by decide, by decide⟩) (m_preV (r := (RJx4a65c, TJx4a65c, 3)) hE hV hS hA (CRep.atL hC (j := 2) (by decide)) rfl) rfl rfl hl.1 rfl (lv_room (by first | exact Nat.le_of_ble_eq_true rfl | simp [rf_cat, ct_ref, ct_int, ct_null, ct_long])) dX4_releaseTimedTasks_18 ⟨by decide, by decide⟩) hV hS hA (fun r h1 H locs hV hS hp _ => ?_)
        obtain ⟨e1, e2⟩ := hp
        subst e2
        rw [e1] at hV; clear e1
        refine m_cast (r := (RX3, TX3, 16)) hx hb hE hV (hC.at (k := 3) (i := i) (by first | assumption | (show i < kN (relS i σ) 62 2; omega))) rfl hown kc121 dX4_releaseTimedTasks_21 ?_
        refine lv_astore_n (lv' := [(2, .ref (L 3 i)), (0, .ref (L 0 0)), (1, .int (nI i))]) hx hb dX4_releaseTimedTasks_24 rfl hl (by decide) rfl (fun ls hl => ?_)
        refine lv_aload_n hx hb dX4_releaseTimedTasks_25 rfl (lv_at hl 0 rfl) ?_
        refine m_calli (va_runVN (As := []) (rest := []) ⟨hx, hb, hml, hown, hts⟩ (c_X3_isTimed (l := l) (H.size) hC i (by first | assumption | omega)) ⟨va_cnB 0 hts gX4_releaseTimedTasks_X3_isTimed_n211 rfl rfl rfl kq211 (hts (.initialized RX3) (by decide +kernel)) (by decide +kernel) ⟨by decide, by decide⟩, hts (.instanceMethod yX3_isTimed) (by decide +kernel), hts (.selects RX3 yX3_isTimed yX3_isTimed) (by decide +kernel)⟩ (m_preV (r := (RX3, TX3, 16)) hE hV hS hA (hC.at (k := 3) (i := i) (by first | assumption | (show i < kN (relS i σ) 62 2; omega))) rfl) rfl rfl hl.1 rfl (lv_room (by first | exact Nat.le_of_ble_eq_true rfl | simp [rf_cat, ct_ref, ct_int, ct_null, ct_long])) dX4_releaseTimedTasks_26 ⟨by decide, by decide⟩) hV hS hA (fun r h1 H locs hV hS hp _ => ?_)
        obtain ⟨e1, e2⟩ := hp
        subst e2
        rw [e1] at hV; clear e1
        refine lv_if_eq (tgt := 88) hx hb dX4_releaseTimedTasks_29 (by decide) (fun c29 => ?_) (fun c29 => ?_)
        · replace c29 : (decide (0 < kI (relS i σ) 37 i)) = false := bI_0.mp c29
          refine lv_iinc (v := nI (i + 1)) (lv' := [(1, .int (nI (i + 1))), (2, .ref (L 3 i)), (0, .ref (L 0 0))]) hx hb dX4_releaseTimedTasks_88 hl (k := 2) rfl (show nI i + Int32.ofInt 1 = _ from nI_add i 1) (by decide) rfl (fun ls hl => ?_)
          refine lv_goto (tgt := 2) hx hb dX4_releaseTimedTasks_91 (by decide) ?_
          have q1 : (relS i σ) = (relS (i + 1) σ) := (by show _ = relS1 (relS i σ) i; unfold relS1; rw [if_neg (fun q => of_decide_eq_false c29 q.1)])
          rw [q1] at hC
          exact ih2 (i + 1) (by omega) (by omega) _ _ _ hC hV hS ls (lv_sub hl [2, 0] rfl)
        · replace c29 : (decide (0 < kI (relS i σ) 37 i)) = true := bI_1.mp c29
          refine lv_aload_n hx hb dX4_releaseTimedTasks_32 rfl (lv_at hl 0 rfl) ?_
          refine m_getN (C := RX3) (T := TX3) (N := 16) (host := "TaskKernel") hx hb hts hi_X3 hown hK hV 6 (v := .int (bI (kB (relS i σ) 36 i))) (g_task6 hC (by first | assumption | (show i < kN (relS i σ) 62 2; omega))) rfl (by decide) kn158 (fun _ h9 => h9) dX4_releaseTimedTasks_33 ?_
          refine lv_if_ne (tgt := 88) hx hb dX4_releaseTimedTasks_36 (by decide) (fun c36 => ?_) (fun c36 => ?_)
          · replace c36 : kB (relS i σ) 36 i = true := bI_1.mp c36
            refine lv_iinc (v := nI (i + 1)) (lv' := [(1, .int (nI (i + 1))), (2, .ref (L 3 i)), (0, .ref (L 0 0))]) hx hb dX4_releaseTimedTasks_88 hl (k := 2) rfl (show nI i + Int32.ofInt 1 = _ from nI_add i 1) (by decide) rfl (fun ls hl => ?_)
            refine lv_goto (tgt := 2) hx hb dX4_releaseTimedTasks_91 (by decide) ?_
            have q2 : (relS i σ) = (relS (i + 1) σ) := (by show _ = relS1 (relS i σ) i; unfold relS1; rw [if_neg (fun q => absurd q.2.1 (by rw [c36]; decide))])
            rw [q2] at hC
            exact ih2 (i + 1) (by omega) (by omega) _ _ _ hC hV hS ls (lv_sub hl [2, 0] rfl)
          · replace c36 : kB (relS i σ) 36 i = false := bI_0.mp c36
            refine lv_aload_n hx hb dX4_releaseTimedTasks_39 rfl (lv_at hl 0 rfl) ?_
            refine m_getN (C := RX3) (T := TX3) (N := 16) (host := "TaskKernel") hx hb hts hi_X3 hown hK hV 10 (v := .int (kI (relS i σ) 40 i)) (g_task10 hC (by first | assumption | (show i < kN (relS i σ) 62 2; omega))) rfl (by decide) kn146 (fun _ h9 => h9) dX4_releaseTimedTasks_40 ?_
            refine lv_aload_n hx hb dX4_releaseTimedTasks_43 rfl (lv_at hl 1 rfl) ?_
            refine m_get (C := RX4) (T := TX4) (N := 11) hx hb hts hi_X4 hown hK hV 7 (v := .int (kI (relS i σ) 2 0)) (g_kern7 hC rfl) rfl (by decide) k43 (fun _ h9 => h9) dX4_releaseTimedTasks_44 ?_
            refine lv_icmp_ne (tgt := 88) hx hb dX4_releaseTimedTasks_47 (by decide) (fun c47 => ?_) (fun c47 => ?_)
            · refine lv_iinc (v := nI (i + 1)) (lv' := [(1, .int (nI (i + 1))), (2, .ref (L 3 i)), (0, .ref (L 0 0))]) hx hb dX4_releaseTimedTasks_88 hl (k := 2) rfl (show nI i + Int32.ofInt 1 = _ from nI_add i 1) (by decide) rfl (fun ls hl => ?_)
              refine lv_goto (tgt := 2) hx hb dX4_releaseTimedTasks_91 (by decide) ?_
              have q3 : (relS i σ) = (relS (i + 1) σ) := (by show _ = relS1 (relS i σ) i; unfold relS1; rw [if_neg (fun q => c47 q.2.2)])
              rw [q3] at hC
              exact ih2 (i + 1) (by omega) (by omega) _ _ _ hC hV hS ls (lv_sub hl [2, 0] rfl)
            · refine lv_aload_n hx hb dX4_releaseTimedTasks_50 rfl (lv_at hl 0 rfl) ?_
              refine m_getN (C := RX3) (T := TX3) (N := 16) (host := "TaskKernel") hx hb hts hi_X3 hown hK hV 4 (v := .int (kI (relS i σ) 34 i)) (g_task4 hC (by first | assumption | (show i < kN (relS i σ) 62 2; omega))) rfl (by decide) kn164 (fun _ h9 => h9) dX4_releaseTimedTasks_51 ?_
              refine lv_if_le (tgt := 67) hx hb dX4_releaseTimedTasks_54 (by decide) (fun c54 => ?_) (fun c54 => ?_)
              · refine lv_aload_n hx hb dX4_releaseTimedTasks_67 rfl (lv_at hl 0 rfl) ?_
                refine lv_aload_n hx hb dX4_releaseTimedTasks_68 rfl (lv_at hl 0 rfl) ?_
                refine m_getN (C := RX3) (T := TX3) (N := 16) (host := "TaskKernel") hx hb hts hi_X3 hown hK hV 8 (v := .int (kI (relS i σ) 38 i)) (g_task8 hC (by first | assumption | (show i < kN (relS i σ) 62 2; omega))) rfl (by decide) kn140 (fun _ h9 => h9) dX4_releaseTimedTasks_69 ?_
                refine m_putN (host := "TaskKernel") (C := RX3) (T := TX3) (N := 16) (v := .int (kI (relS i σ) 38 i)) hx hb hts hi_X3 tyX3 tyX3_ok nmX3 hown hK hV hS 4 (p_task4 hC (by first | assumption | (show i < kN (relS i σ) 62 2; omega)) (kI (relS i σ) 38 i)) rfl (by decide) kn164 (fun _ h9 => h9) rfl (tyX3_ok 4 (by decide)) rfl rfl dX4_releaseTimedTasks_72 (fun h H locs hV hS hC => ?_)
                refine lv_aload_n hx hb dX4_releaseTimedTasks_75 rfl (lv_at hl 0 rfl) ?_
                refine lv_aload_n hx hb dX4_releaseTimedTasks_76 rfl (lv_at hl 1 rfl) ?_
                refine m_get (C := RX4) (T := TX4) (N := 11) hx hb hts hi_X4 hown hK hV 7 (v := .int (kI (relS i σ) 2 0)) (g_kern7 hC rfl) rfl (by decide) k43 (fun _ h9 => h9) dX4_releaseTimedTasks_77 ?_
                refine lv_aload_n hx hb dX4_releaseTimedTasks_80 rfl (lv_at hl 0 rfl) ?_
                refine m_getN (C := RX3) (T := TX3) (N := 16) (host := "TaskKernel") hx hb hts hi_X3 hown hK hV 7 (v := .int (kI (relS i σ) 37 i)) (g_task7 hC (by first | assumption | (show i < kN (relS i σ) 62 2; omega))) rfl (by decide) kn137 (fun _ h9 => h9) dX4_releaseTimedTasks_81 ?_
                refine lv_iadd hx hb dX4_releaseTimedTasks_84 ?_
                refine m_putN (host := "TaskKernel") (C := RX3) (T := TX3) (N := 16) (v := .int ((kI (relS i σ) 2 0) + (kI (relS i σ) 37 i))) hx hb hts hi_X3 tyX3 tyX3_ok nmX3 hown hK hV hS 10 (p_task10 hC (by first | assumption | (show i < kN (relS i σ) 62 2; omega)) ((kI (relS i σ) 2 0) + (kI (relS i σ) 37 i))) rfl (by decide) kn146 (fun _ h9 => h9) rfl (tyX3_ok 10 (by decide)) rfl rfl dX4_releaseTimedTasks_85 (fun h H locs hV hS hC => ?_)
                refine lv_iinc (v := nI (i + 1)) (lv' := [(1, .int (nI (i + 1))), (2, .ref (L 3 i)), (0, .ref (L 0 0))]) hx hb dX4_releaseTimedTasks_88 hl (k := 2) rfl (show nI i + Int32.ofInt 1 = _ from nI_add i 1) (by decide) rfl (fun ls hl => ?_)
                refine lv_goto (tgt := 2) hx hb dX4_releaseTimedTasks_91 (by decide) ?_
                have q4 : (sI (sI (relS i σ) 34 (va_up (kI (relS i σ) 34) i (kI (relS i σ) 38 i))) 40 (va_up (kI (sI (relS i σ) 34 (va_up (kI (relS i σ) 34) i (kI (relS i σ) 38 i))) 40) i ((kI (relS i σ) 2 0) + (kI (relS i σ) 37 i)))) = (relS (i + 1) σ) := (by show _ = relS1 (relS i σ) i; unfold relS1; rw [if_pos ⟨of_decide_eq_true c29, c36, c47⟩, if_neg (Int32.not_lt.mpr c54)]; rfl)
                rw [q4] at hC
                exact ih2 (i + 1) (by omega) (by omega) _ _ _ hC hV hS ls (lv_sub hl [2, 0] rfl)
              · refine lv_aload_n hx hb dX4_releaseTimedTasks_57 rfl (lv_at hl 0 rfl) ?_
                refine lv_dup hx hb dX4_releaseTimedTasks_58 rfl ?_
                refine m_getN (C := RX3) (T := TX3) (N := 16) (host := "TaskKernel") hx hb hts hi_X3 hown hK hV 11 (v := .int (kI (relS i σ) 41 i)) (g_task11 hC (by first | assumption | (show i < kN (relS i σ) 62 2; omega))) rfl (by decide) kn225 (fun _ h9 => h9) dX4_releaseTimedTasks_59 ?_
                refine lv_iconst (v := 1) hx hb dX4_releaseTimedTasks_62 (by decide) ?_
                refine lv_iadd hx hb dX4_releaseTimedTasks_63 ?_
                refine m_putN (host := "TaskKernel") (C := RX3) (T := TX3) (N := 16) (v := .int ((kI (relS i σ) 41 i) + 1)) hx hb hts hi_X3 tyX3 tyX3_ok nmX3 hown hK hV hS 11 (p_task11 hC (by first | assumption | (show i < kN (relS i σ) 62 2; omega)) ((kI (relS i σ) 41 i) + 1)) rfl (by decide) kn225 (fun _ h9 => h9) rfl (tyX3_ok 11 (by decide)) rfl rfl dX4_releaseTimedTasks_64 (fun h H locs hV hS hC => ?_)
                refine lv_aload_n hx hb dX4_releaseTimedTasks_67 rfl (lv_at hl 0 rfl) ?_
                refine lv_aload_n hx hb dX4_releaseTimedTasks_68 rfl (lv_at hl 0 rfl) ?_
                refine m_getN (C := RX3) (T := TX3) (N := 16) (host := "TaskKernel") hx hb hts hi_X3 hown hK hV 8 (v := .int (kI (relS i σ) 38 i)) (g_task8 hC (by first | assumption | (show i < kN (relS i σ) 62 2; omega))) rfl (by decide) kn140 (fun _ h9 => h9) dX4_releaseTimedTasks_69 ?_
                refine m_putN (host := "TaskKernel") (C := RX3) (T := TX3) (N := 16) (v := .int (kI (relS i σ) 38 i)) hx hb hts hi_X3 tyX3 tyX3_ok nmX3 hown hK hV hS 4 (p_task4 hC (by first | assumption | (show i < kN (relS i σ) 62 2; omega)) (kI (relS i σ) 38 i)) rfl (by decide) kn164 (fun _ h9 => h9) rfl (tyX3_ok 4 (by decide)) rfl rfl dX4_releaseTimedTasks_72 (fun h H locs hV hS hC => ?_)
                refine lv_aload_n hx hb dX4_releaseTimedTasks_75 rfl (lv_at hl 0 rfl) ?_
                refine lv_aload_n hx hb dX4_releaseTimedTasks_76 rfl (lv_at hl 1 rfl) ?_
                refine m_get (C := RX4) (T := TX4) (N := 11) hx hb hts hi_X4 hown hK hV 7 (v := .int (kI (relS i σ) 2 0)) (g_kern7 hC rfl) rfl (by decide) k43 (fun _ h9 => h9) dX4_releaseTimedTasks_77 ?_
                refine lv_aload_n hx hb dX4_releaseTimedTasks_80 rfl (lv_at hl 0 rfl) ?_
                refine m_getN (C := RX3) (T := TX3) (N := 16) (host := "TaskKernel") hx hb hts hi_X3 hown hK hV 7 (v := .int (kI (relS i σ) 37 i)) (g_task7 hC (by first | assumption | (show i < kN (relS i σ) 62 2; omega))) rfl (by decide) kn137 (fun _ h9 => h9) dX4_releaseTimedTasks_81 ?_
                refine lv_iadd hx hb dX4_releaseTimedTasks_84 ?_
                refine m_putN (host := "TaskKernel") (C := RX3) (T := TX3) (N := 16) (v := .int ((kI (relS i σ) 2 0) + (kI (relS i σ) 37 i))) hx hb hts hi_X3 tyX3 tyX3_ok nmX3 hown hK hV hS 10 (p_task10 hC (by first | assumption | (show i < kN (relS i σ) 62 2; omega)) ((kI (relS i σ) 2 0) + (kI (relS i σ) 37 i))) rfl (by decide) kn146 (fun _ h9 => h9) rfl (tyX3_ok 10 (by decide)) rfl rfl dX4_releaseTimedTasks_85 (fun h H locs hV hS hC => ?_)
                refine lv_iinc (v := nI (i + 1)) (lv' := [(1, .int (nI (i + 1))), (2, .ref (L 3 i)), (0, .ref (L 0 0))]) hx hb dX4_releaseTimedTasks_88 hl (k := 2) rfl (show nI i + Int32.ofInt 1 = _ from nI_add i 1) (by decide) rfl (fun ls hl => ?_)
                refine lv_goto (tgt := 2) hx hb dX4_releaseTimedTasks_91 (by decide) ?_
                have q5 : (sI (sI (sI (relS i σ) 41 (va_up (kI (relS i σ) 41) i ((kI (relS i σ) 41 i) + 1))) 34 (va_up (kI (sI (relS i σ) 41 (va_up (kI (relS i σ) 41) i ((kI (relS i σ) 41 i) + 1))) 34) i (kI (relS i σ) 38 i))) 40 (va_up (kI (sI (sI (relS i σ) 41 (va_up (kI (relS i σ) 41) i ((kI (relS i σ) 41 i) + 1))) 34 (va_up (kI (sI (relS i σ) 41 (va_up (kI (relS i σ) 41) i ((kI (relS i σ) 41 i) + 1))) 34) i (kI (relS i σ) 38 i))) 40) i ((kI (relS i σ) 2 0) + (kI (relS i σ) 37 i)))) = (relS (i + 1) σ) := (by show _ = relS1 (relS i σ) i; unfold relS1; rw [if_pos ⟨of_decide_eq_true c29, c36, c47⟩, if_pos (Int32.not_le.mp c54)]; rfl)
                rw [q5] at hC
                exact ih2 (i + 1) (by omega) (by omega) _ _ _ hC hV hS ls (lv_sub hl [2, 0] rfl)
  have q6 : σ = (relS 0 σ) := rfl
  rw [q6] at hC
  have q7 : 0 = nI 0 := rfl
  replace hl : lv_has ls 3 [(1, .int (nI 0)), (0, .ref (L 0 0))] := (congrArg (lv_has ls 3) (m_lc (congrArg Value.int q7) (m_lc rfl rfl))).mp hl
  exact lp2 ((kN σ 62 2 - 0) + 1) 0 (Nat.zero_le _) (Nat.lt_succ_self _) _ _ _ hC hV hS ls (lv_sub hl [1, 0] rfl)
