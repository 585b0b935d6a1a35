set_option maxHeartbeats 4000000 in
set_option maxRecDepth 100000 in
theorem c_X4_goesBefore {l : Launch} {D : va_G} {cs : mC} {df : Nat} {P : Nat → Prop} {h0 : mH} {L : KL} {σ : KS} {hh : mH} (sz : Nat) (hC : CRep cs df P h0 L σ hh) (a : Nat) (b : Nat) (ha : a < kN σ 62 2) (hb9 : b < kN σ 62 2) : Met l yX4_goesBefore wsX4_goesBefore ({ frames := 1, cells := 0, slots := 0, locals := 29 }) (mPre [.ref (L 3 a), .ref (L 3 b)] D cs df hh sz) (va_Qi ((fun (r : Int32) (h1 : mH) => h1 = hh ∧ r = bI (gbS σ a b))) (mB D hh sz) (mA hh sz)) 0 0 (mA hh sz) := by
  refine Met.ofW (cc := cX4_goesBefore) (maxL := 2) (ret := (some .boolean)) (by decide) rfl ?_
  intro p e s m args below meth c s₁ B0 hml hv
  obtain ⟨hargs, hsz, hV, hE⟩ := hv
  subst hsz
  have hx := B0.exec
  have hb := B0.bytes
  have hr := B0.returns
  have hlocks := B0.notSynchronized
  have hts := atoms_spec (ws := wsX4_goesBefore) B0.pre
  have hown : s.vm.findClass RX4 = some m.cls := findClass_of_methodNamed B0.named
  have hK := hE.1.1
  have hA : ∀ q : Nat, s.heap.size ≤ q → mA hh s.heap.size q := mA.top
  have hS : va_S (mA hh s.heap.size) s.heap s.heap [] := va_S.rf
  have hi_X3 : ∀ w ∈ u_ws RX3 TX3 16, w ∈ wsX4_goesBefore := by decide +kernel
  have kn219 : va_Nw (.fieldLinkNest RX4 219 "TaskKernel$Task" "urgency" "I" "TaskKernel") s := hE.1.2.1 _ (List.mem_of_getElem? (i := 25) rfl)
  have kk222 : (Cond.constant RX4 222 (2147483647)).before args s = true := hts _ (by decide +kernel)
  have kn283 : va_Nw (.fieldLinkNest RX4 283 "TaskKernel$Task" "number" "I" "TaskKernel") s := hE.1.2.1 _ (List.mem_of_getElem? (i := 11) rfl)
  have hl := lv_entry ([.ref (L 3 a), .ref (L 3 b)]) (n := 2) (by first | exact Nat.le_of_ble_eq_true rfl | simp [lg_sl, rf_cat, ct_ref, ct_int, ct_null, ct_long])
  have hent := lg_entry_eq m ([.ref (L 3 a), .ref (L 3 b)]) 2
  rw [← hargs] at hent
  rw [hent]
  generalize (lg_sl ([.ref (L 3 a), .ref (L 3 b)]) ++ List.replicate (2 - (lg_sl ([.ref (L 3 a), .ref (L 3 b)])).length) Slot.unset).toArray = ls at hl ⊢
  replace hl : lv_has ls 2 [(0, .ref (L 3 a)), (1, .ref (L 3 b))] := hl
  have hwf := hC.wf
  obtain ⟨⟨z0, z1, z2, z3, z4⟩, z5, z6, z7, z8, z9, z10, z11, z12⟩ := hwf
  refine lv_aload_n hx hb dX4_goesBefore_0 rfl (lv_at hl 0 rfl) ?_
  refine m_getN (C := RX3) (T := TX3) (N := 16) (host := "TaskKernel") hx hb hts hi_X3 hown hK hV 14 (v := .int (kI σ 44 a)) (g_task14 hC (by first | assumption | (show a < kN σ 62 2; omega))) rfl (by decide) kn219 (fun _ h9 => h9) dX4_goesBefore_1 ?_
  refine lv_aload_n hx hb dX4_goesBefore_4 rfl (lv_at hl 1 rfl) ?_
  refine m_getN (C := RX3) (T := TX3) (N := 16) (host := "TaskKernel") hx hb hts hi_X3 hown hK hV 14 (v := .int (kI σ 44 b)) (g_task14 hC (by first | assumption | (show b < kN σ 62 2; omega))) rfl (by decide) kn219 (fun _ h9 => h9) dX4_goesBefore_5 ?_
  refine lv_icmp_eq (tgt := 28) hx hb dX4_goesBefore_8 (by decide) (fun c8 => ?_) (fun c8 => ?_)
  · refine lv_aload_n hx hb dX4_goesBefore_28 rfl (lv_at hl 0 rfl) ?_
    refine m_getN (C := RX3) (T := TX3) (N := 16) (host := "TaskKernel") hx hb hts hi_X3 hown hK hV 14 (v := .int (kI σ 44 a)) (g_task14 hC (by first | assumption | (show a < kN σ 62 2; omega))) rfl (by decide) kn219 (fun _ h9 => h9) dX4_goesBefore_29 ?_
    refine lv_ldc (v := 2147483647) hx hb hown kk222 dX4_goesBefore_32 ?_
    refine lv_icmp_eq (tgt := 54) hx hb dX4_goesBefore_34 (by decide) (fun c34 => ?_) (fun c34 => ?_)
    · refine lv_aload_n hx hb dX4_goesBefore_54 rfl (lv_at hl 0 rfl) ?_
      refine lv_aload_n hx hb dX4_goesBefore_55 rfl (lv_at hl 1 rfl) ?_
      refine m_calli (va_runS (As := [.ref (L 3 a), .ref (L 3 b)]) (rest := []) ⟨hx, hb, hml, hown, hts⟩ (c_X4_goesBeforeInTheTree (l := l) (s.heap.size) hC a b (by first | assumption | omega) (by first | assumption | omega)) (va_cwS 2 hts gX4_goesBefore_X4_goesBeforeInTheTree rfl rfl rfl (by decide +kernel) ⟨by decide, by decide⟩) (m_preS hE hV hS hA) rfl rfl hl.1 rfl (lv_room (by first | exact Nat.le_of_ble_eq_true rfl | simp [rf_cat, ct_ref, ct_int, ct_null, ct_long])) dX4_goesBefore_56 ⟨by decide, by decide⟩) hV hS hA (fun r h1 H locs hV hS hp _ => ?_)
      obtain ⟨e1, e2⟩ := hp
      subst e2
      rw [e1] at hV; clear e1
      exact m_zret (v := bI (gtS σ a b)) hx hb hr hlocks (bI_narrow _) hV hS (⟨rfl, by unfold gbS; rw [if_pos c8, if_pos c34]⟩) dX4_goesBefore_59
    · refine lv_aload_n hx hb dX4_goesBefore_37 rfl (lv_at hl 0 rfl) ?_
      refine m_getN (C := RX3) (T := TX3) (N := 16) (host := "TaskKernel") hx hb hts hi_X3 hown hK hV 0 (v := .int (nI a)) (g_task0 hC (by first | assumption | (show a < kN σ 62 2; omega))) rfl (by decide) kn283 (fun _ h9 => h9) dX4_goesBefore_38 ?_
      refine lv_aload_n hx hb dX4_goesBefore_41 rfl (lv_at hl 1 rfl) ?_
      refine m_getN (C := RX3) (T := TX3) (N := 16) (host := "TaskKernel") hx hb hts hi_X3 hown hK hV 0 (v := .int (nI b)) (g_task0 hC (by first | assumption | (show b < kN σ 62 2; omega))) rfl (by decide) kn283 (fun _ h9 => h9) dX4_goesBefore_42 ?_
      refine lv_icmp_ge (tgt := 52) hx hb dX4_goesBefore_45 (by decide) (fun c45 => ?_) (fun c45 => ?_)
      · replace c45 : b ≤ a := (nI_leI (a := b) (b := a) (by omega) (by omega)).mp c45
        refine lv_iconst (v := 0) hx hb dX4_goesBefore_52 (by decide) ?_
        exact m_zret (v := 0) hx hb hr hlocks (by decide) hV hS (⟨rfl, by unfold gbS; rw [if_pos c8, if_neg c34, decide_eq_false (by omega)]; rfl⟩) dX4_goesBefore_53
      · replace c45 : ¬ b ≤ a := fun q9 => c45 ((nI_leI (a := b) (b := a) (by omega) (by omega)).mpr q9)
        refine lv_iconst (v := 1) hx hb dX4_goesBefore_48 (by decide) ?_
        refine lv_goto (tgt := 53) hx hb dX4_goesBefore_49 (by decide) ?_
        exact m_zret (v := 1) hx hb hr hlocks (by decide) hV hS (⟨rfl, by unfold gbS; rw [if_pos c8, if_neg c34, decide_eq_true (by omega)]; rfl⟩) dX4_goesBefore_53
  · refine lv_aload_n hx hb dX4_goesBefore_11 rfl (lv_at hl 0 rfl) ?_
    refine m_getN (C := RX3) (T := TX3) (N := 16) (host := "TaskKernel") hx hb hts hi_X3 hown hK hV 14 (v := .int (kI σ 44 a)) (g_task14 hC (by first | assumption | (show a < kN σ 62 2; omega))) rfl (by decide) kn219 (fun _ h9 => h9) dX4_goesBefore_12 ?_
    refine lv_aload_n hx hb dX4_goesBefore_15 rfl (lv_at hl 1 rfl) ?_
    refine m_getN (C := RX3) (T := TX3) (N := 16) (host := "TaskKernel") hx hb hts hi_X3 hown hK hV 14 (v := .int (kI σ 44 b)) (g_task14 hC (by first | assumption | (show b < kN σ 62 2; omega))) rfl (by decide) kn219 (fun _ h9 => h9) dX4_goesBefore_16 ?_
    refine lv_icmp_ge (tgt := 26) hx hb dX4_goesBefore_19 (by decide) (fun c19 => ?_) (fun c19 => ?_)
    · refine lv_iconst (v := 0) hx hb dX4_goesBefore_26 (by decide) ?_
      exact m_zret (v := 0) hx hb hr hlocks (by decide) hV hS (⟨rfl, by unfold gbS; rw [if_neg c8, decide_eq_false (Int32.not_lt.mpr c19)]; rfl⟩) dX4_goesBefore_27
    · refine lv_iconst (v := 1) hx hb dX4_goesBefore_22 (by decide) ?_
      refine lv_goto (tgt := 27) hx hb dX4_goesBefore_23 (by decide) ?_
      exact m_zret (v := 1) hx hb hr hlocks (by decide) hV hS (⟨rfl, by unfold gbS; rw [if_neg c8, decide_eq_true (Int32.not_le.mp c19)]; rfl⟩) dX4_goesBefore_27
set_option maxHeartbeats 4000000 in
set_option maxRecDepth 100000 in
theorem c_X4_pickByComparing {l : Launch} {D : va_G} {cs : mC} {df : Nat} {P : Nat → Prop} {h0 : mH} {L : KL} {σ : KS} {hh : mH} (sz : Nat) (hC : CRep cs df P h0 L σ hh)  : Met l yX4_pickByComparing wsX4_pickByComparing ({ frames := 3, cells := 0, slots := 0, locals := 64 }) (mPre [.ref (L 0 0)] D cs df hh sz) (va_Qq ((fun (r : Option Nat) (h1 : mH) => h1 = hh ∧ r = (((pcS σ (kN σ 62 2))).map (L 3)))) (mB D hh sz) (mA hh sz)) 0 0 (mA hh sz) := by
  refine Met.ofW (cc := cX4_pickByComparing) (maxL := 4) (ret := (some (.object "TaskKernel$Task"))) (by decide) rfl ?_
  intro p e s m args below meth c s₁ B0 hml hv
  obtain ⟨hargs, hsz, hV, hE⟩ := hv
  subst hsz
  have hx := B0.exec
  have hb := B0.bytes
  have hr := B0.returns
  have hlocks := B0.notSynchronized
  have hts := atoms_spec (ws := wsX4_pickByComparing) B0.pre
  have hown : s.vm.findClass RX4 = some m.cls := findClass_of_methodNamed B0.named
  have hK := hE.1.1
  have hA : ∀ q : Nat, s.heap.size ≤ q → mA hh s.heap.size q := mA.top
  have hS : va_S (mA hh s.heap.size) s.heap s.heap [] := va_S.rf
  have hi_X4 : ∀ w ∈ u_ws RX4 TX4 11, w ∈ wsX4_pickByComparing := by decide +kernel
  have k21 : (Cond.fieldLink RX4 21 "TaskKernel" "tasks" "Ljava/util/ArrayList;").before args s = true := hts _ (by decide +kernel)
  have kc121 : (Cond.classLink RX4 121 "TaskKernel$Task").before args s = true := hts _ (by decide +kernel)
  have hi_X3 : ∀ w ∈ u_ws RX3 TX3 16, w ∈ wsX4_pickByComparing := by decide +kernel
  have kn316 : va_Nw (.fieldLinkNest RX4 316 "TaskKernel$Task" "canBeChosen" "Z" "TaskKernel") s := hE.1.2.1 _ (List.mem_of_getElem? (i := 26) rfl)
  have hl := lv_entry ([.ref (L 0 0)]) (n := 4) (by first | exact Nat.le_of_ble_eq_true rfl | simp [lg_sl, rf_cat, ct_ref, ct_int, ct_null, ct_long])
  have hent := lg_entry_eq m ([.ref (L 0 0)]) 4
  rw [← hargs] at hent
  rw [hent]
  generalize (lg_sl ([.ref (L 0 0)]) ++ List.replicate (4 - (lg_sl ([.ref (L 0 0)])).length) Slot.unset).toArray = ls at hl ⊢
  replace hl : lv_has ls 4 [(0, .ref (L 0 0))] := hl
  have hwf := hC.wf
  obtain ⟨⟨z0, z1, z2, z3, z4⟩, z5, z6, z7, z8, z9, z10, z11, z12⟩ := hwf
  refine lv_null hx hb dX4_pickByComparing_0 ?_
  refine lv_astore_nN (lv' := [(1, .null), (0, .ref (L 0 0))]) hx hb dX4_pickByComparing_1 rfl hl (by decide) rfl (fun ls hl => ?_)
  refine lv_iconst (v := 0) hx hb dX4_pickByComparing_2 (by decide) ?_
  refine lv_istore_n (lv' := [(2, .int 0), (1, .null), (0, .ref (L 0 0))]) hx hb dX4_pickByComparing_3 rfl hl (by decide) rfl (fun ls hl => ?_)
  have lp4 : ∀ (fu : Nat) (i : Nat), (i ≤ kN σ 62 2) → kN σ 62 2 - i < fu → ∀ (H : Heap) (locs : List Loc), mV D hh (mA hh s.heap.size) H → va_S (mA hh s.heap.size) s.heap H locs → ∀ (ls : Array Slot), lv_has ls 4 [(0, .ref (L 0 0)), (1, va_rf (((pcS σ i)).map (L 3))), (2, .int (nI i))] → W p l e ({ frames := 3, cells := 0, slots := 0, locals := 64 } : Room) s m args below meth c H locs 0 0 (MQ below (va_Qq ((fun (r : Option Nat) (h1 : mH) => h1 = hh ∧ r = (((pcS σ (kN σ 62 2))).map (L 3)))) (mB D hh s.heap.size) (mA hh s.heap.size)) args s 0 0 (mA hh s.heap.size)) (F0 m 4 ls []) := by
    intro fu
    induction fu with
    | zero =>
      intro i hi hfu
      exact absurd hfu (Nat.not_lt_zero _)
    | succ fu ih4 =>
      intro i hi hfu H locs hV hS ls hl
      refine lv_iload_n hx hb dX4_pickByComparing_4 rfl (lv_at hl 2 rfl) ?_
      refine lv_aload_n hx hb dX4_pickByComparing_5 rfl (lv_at hl 0 rfl) ?_
      refine m_get (C := RX4) (T := TX4) (N := 11) hx hb hts hi_X4 hown hK hV 2 (v := .ref (L 5 2)) (g_kern2 hC rfl) rfl (by decide) k21 (fun _ h9 => h9) dX4_pickByComparing_6 ?_
      refine m_calli (va_runV (As := []) (rest := [.int (nI i)]) ⟨hx, hb, hml, hown, hts⟩ (l_size (H.size) hC 2 (by decide)) (cwV 0 hts gX4_pickByComparing_Jx4a65c_size_8abf5 rfl rfl rfl (by decide +kernel) ⟨by decide, by decide⟩) (m_preV (r := (RJx4a65c, TJx4a65c, 3)) hE hV hS hA (CRep.atL hC (j := 2) (by decide)) rfl) rfl rfl hl.1 rfl (lv_room (by first | exact Nat.le_of_ble_eq_true rfl | simp [rf_cat, ct_ref, ct_int, ct_null, ct_long])) dX4_pickByComparing_9 ⟨by decide, by decide⟩) hV hS hA (fun r h1 H locs hV hS hp _ => ?_)
      obtain ⟨e1, e2⟩ := hp
      subst e2
      rw [e1] at hV; clear e1
      refine lv_icmp_ge (tgt := 54) hx hb dX4_pickByComparing_12 (by decide) (fun c12 => ?_) (fun c12 => ?_)
      · replace c12 : kN σ 62 2 ≤ i := (nI_leI (a := kN σ 62 2) (b := i) (by omega) (by omega)).mp c12
        refine m_aload_nq hx hb dX4_pickByComparing_54 rfl (lv_at hl 1 rfl) ?_
        exact m_aret (v := (((pcS σ i)).map (L 3))) hx hb hr hlocks (Or.inl ⟨_, rfl⟩) hV hS (⟨rfl, by rw [show i = kN σ 62 2 by omega]⟩) dX4_pickByComparing_55
      · replace c12 : ¬ kN σ 62 2 ≤ i := fun q9 => c12 ((nI_leI (a := kN σ 62 2) (b := i) (by omega) (by omega)).mpr q9)
        refine lv_aload_n hx hb dX4_pickByComparing_15 rfl (lv_at hl 0 rfl) ?_
        refine m_get (C := RX4) (T := TX4) (N := 11) hx hb hts hi_X4 hown hK hV 2 (v := .ref (L 5 2)) (g_kern2 hC rfl) rfl (by decide) k21 (fun _ h9 => h9) dX4_pickByComparing_16 ?_
        refine lv_iload_n hx hb dX4_pickByComparing_19 rfl (lv_at hl 2 rfl) ?_
        refine m_callq (va_runV (As := [.int (nI i)]) (rest := []) ⟨hx, hb, hml, hown, hts⟩ (l_get2 (H.size) hC i (by first | assumption | omega)) (cwV 1 hts gX4_pickByComparing_Jx4a65c_get_915e3 rfl rfl rfl (by decide +kernel) ⟨by decide, by decide⟩) (m_preV (r := (RJx4a65c, TJx4a65c, 3)) hE hV hS hA (CRep.atL hC (j := 2) (by decide)) rfl) rfl rfl hl.1 rfl (lv_room (by first | exact Nat.le_of_ble_eq_true rfl | simp [rf_cat, ct_ref, ct_int, ct_null, ct_long])) dX4_pickByComparing_20 ⟨by decide, by decide⟩) hV hS hA (fun r h1 H locs hV hS hp _ => ?_)
        obtain ⟨e1, e2⟩ := hp
        subst e2
        rw [e1] at hV; clear e1
        refine m_cast (r := (RX3, TX3, 16)) hx hb hE hV (hC.at (k := 3) (i := i) (by first | assumption | (show i < kN σ 62 2; omega))) rfl hown kc121 dX4_pickByComparing_23 ?_
        refine lv_astore_n (i := 3) (lv' := [(3, .ref (L 3 i)), (0, .ref (L 0 0)), (1, va_rf (((pcS σ i)).map (L 3))), (2, .int (nI i))]) hx hb dX4_pickByComparing_26 rfl hl (by decide) (by first | rfl | simp [rf_cat, ct_ref, ct_int, ct_long]) (fun ls hl => ?_)
        refine lv_aload_n hx hb dX4_pickByComparing_27 rfl (lv_at hl 0 rfl) ?_
        refine m_getN (C := RX3) (T := TX3) (N := 16) (host := "TaskKernel") hx hb hts hi_X3 hown hK hV 15 (v := .int (bI (kB σ 45 i))) (g_task15 hC (by first | assumption | (show i < kN σ 62 2; omega))) rfl (by decide) kn316 (fun _ h9 => h9) dX4_pickByComparing_28 ?_
        refine lv_if_eq (tgt := 48) hx hb dX4_pickByComparing_31 (by decide) (fun c31 => ?_) (fun c31 => ?_)
        · replace c31 : kB σ 45 i = false := bI_0.mp c31
          refine lv_iinc (v := nI (i + 1)) (lv' := [(2, .int (nI (i + 1))), (3, .ref (L 3 i)), (0, .ref (L 0 0)), (1, va_rf (((pcS σ i)).map (L 3)))]) hx hb dX4_pickByComparing_48 hl (k := 3) rfl (show nI i + Int32.ofInt 1 = _ from nI_add i 1) (by decide) (by first | rfl | simp [rf_cat, ct_ref, ct_int, ct_long]) (fun ls hl => ?_)
          refine lv_goto (tgt := 4) hx hb dX4_pickByComparing_51 (by decide) ?_
          have q1 : (va_rf (((pcS σ i)).map (L 3)) : Value) = va_rf (((pcS σ (i + 1))).map (L 3)) := (by rw [pcS, if_neg (fun q => absurd q.1 (by rw [c31]; decide))])
          replace hl : lv_has ls 4 [(2, .int (nI (i + 1))), (3, .ref (L 3 i)), (0, .ref (L 0 0)), (1, va_rf (((pcS σ (i + 1))).map (L 3)))] := (congrArg (lv_has ls 4) (m_lc rfl (m_lc rfl (m_lc rfl (m_lc q1 rfl))))).mp hl
          exact ih4 (i + 1) (by omega) (by omega) _ _ hV hS ls (lv_sub hl [2, 3, 0] rfl)
        · replace c31 : kB σ 45 i = true := bI_1.mp c31
          refine m_aload_nq hx hb dX4_pickByComparing_34 rfl (lv_at hl 2 rfl) ?_
          refine m_ifnull_q (o := (pcS σ i)) (f := L 3) (tgt := 46) hx hb dX4_pickByComparing_35 (by decide) (fun c35 => ?_) (fun k35 c35 => ?_)
          · replace hl : lv_has ls 4 [(3, .ref (L 3 i)), (0, .ref (L 0 0)), (1, .null), (2, .int (nI i))] := by have h9 := hl; rw [c35] at h9; exact h9
            refine lv_aload_n hx hb dX4_pickByComparing_46 rfl (lv_at hl 0 rfl) ?_
            refine lv_astore_n (lv' := [(1, .ref (L 3 i)), (3, .ref (L 3 i)), (0, .ref (L 0 0)), (2, .int (nI i))]) hx hb dX4_pickByComparing_47 rfl hl (by decide) rfl (fun ls hl => ?_)
            refine lv_iinc (v := nI (i + 1)) (lv' := [(2, .int (nI (i + 1))), (1, .ref (L 3 i)), (3, .ref (L 3 i)), (0, .ref (L 0 0))]) hx hb dX4_pickByComparing_48 hl (k := 3) rfl (show nI i + Int32.ofInt 1 = _ from nI_add i 1) (by decide) rfl (fun ls hl => ?_)
            refine lv_goto (tgt := 4) hx hb dX4_pickByComparing_51 (by decide) ?_
            have q2 : (.ref (L 3 i) : Value) = va_rf (((pcS σ (i + 1))).map (L 3)) := (by rw [pcS, if_pos ⟨c31, by rw [c35]⟩]; rfl)
            replace hl : lv_has ls 4 [(2, .int (nI (i + 1))), (1, va_rf (((pcS σ (i + 1))).map (L 3))), (3, .ref (L 3 i)), (0, .ref (L 0 0))] := (congrArg (lv_has ls 4) (m_lc rfl (m_lc q2 (m_lc rfl (m_lc rfl rfl))))).mp hl
            exact ih4 (i + 1) (by omega) (by omega) _ _ hV hS ls (lv_sub hl [3, 1, 0] rfl)
          · have bk35 := pcS_lt c35
            replace hl : lv_has ls 4 [(3, .ref (L 3 i)), (0, .ref (L 0 0)), (1, .ref (L 3 k35)), (2, .int (nI i))] := by have h9 := hl; rw [c35] at h9; exact h9
            refine lv_aload_n hx hb dX4_pickByComparing_38 rfl (lv_at hl 0 rfl) ?_
            refine lv_aload_n hx hb dX4_pickByComparing_39 rfl (lv_at hl 2 rfl) ?_
            refine m_calli (va_runS (As := [.ref (L 3 i), .ref (L 3 k35)]) (rest := []) ⟨hx, hb, hml, hown, hts⟩ (c_X4_goesBefore (l := l) (H.size) hC i k35 (by first | assumption | omega) (by first | assumption | omega)) (va_cwS 2 hts gX4_pickByComparing_X4_goesBefore rfl rfl rfl (by decide +kernel) ⟨by decide, by decide⟩) (m_preS hE hV hS hA) rfl rfl hl.1 rfl (lv_room (by first | exact Nat.le_of_ble_eq_true rfl | simp [rf_cat, ct_ref, ct_int, ct_null, ct_long])) dX4_pickByComparing_40 ⟨by decide, by decide⟩) hV hS hA (fun r h1 H locs hV hS hp _ => ?_)
            obtain ⟨e1, e2⟩ := hp
            subst e2
            rw [e1] at hV; clear e1
            refine lv_if_eq (tgt := 48) hx hb dX4_pickByComparing_43 (by decide) (fun c43 => ?_) (fun c43 => ?_)
            · replace c43 : (gbS σ i k35) = false := bI_0.mp c43
              refine lv_iinc (v := nI (i + 1)) (lv' := [(2, .int (nI (i + 1))), (3, .ref (L 3 i)), (0, .ref (L 0 0)), (1, .ref (L 3 k35))]) hx hb dX4_pickByComparing_48 hl (k := 3) rfl (show nI i + Int32.ofInt 1 = _ from nI_add i 1) (by decide) rfl (fun ls hl => ?_)
              refine lv_goto (tgt := 4) hx hb dX4_pickByComparing_51 (by decide) ?_
              have q3 : (.ref (L 3 k35) : Value) = va_rf (((pcS σ (i + 1))).map (L 3)) := (by rw [pcS, if_neg (fun q => absurd q.2 (by rw [c35]; dsimp only; rw [c43]; decide)), c35]; rfl)
              replace hl : lv_has ls 4 [(2, .int (nI (i + 1))), (3, .ref (L 3 i)), (0, .ref (L 0 0)), (1, va_rf (((pcS σ (i + 1))).map (L 3)))] := (congrArg (lv_has ls 4) (m_lc rfl (m_lc rfl (m_lc rfl (m_lc q3 rfl))))).mp hl
              exact ih4 (i + 1) (by omega) (by omega) _ _ hV hS ls (lv_sub hl [2, 3, 0] rfl)
            · replace c43 : (gbS σ i k35) = true := bI_1.mp c43
              refine lv_aload_n hx hb dX4_pickByComparing_46 rfl (lv_at hl 0 rfl) ?_
              refine lv_astore_n (lv' := [(1, .ref (L 3 i)), (3, .ref (L 3 i)), (0, .ref (L 0 0)), (2, .int (nI i))]) hx hb dX4_pickByComparing_47 rfl hl (by decide) rfl (fun ls hl => ?_)
              refine lv_iinc (v := nI (i + 1)) (lv' := [(2, .int (nI (i + 1))), (1, .ref (L 3 i)), (3, .ref (L 3 i)), (0, .ref (L 0 0))]) hx hb dX4_pickByComparing_48 hl (k := 3) rfl (show nI i + Int32.ofInt 1 = _ from nI_add i 1) (by decide) rfl (fun ls hl => ?_)
              refine lv_goto (tgt := 4) hx hb dX4_pickByComparing_51 (by decide) ?_
              have q4 : (.ref (L 3 i) : Value) = va_rf (((pcS σ (i + 1))).map (L 3)) := (by rw [pcS, if_pos ⟨c31, by rw [c35]; exact c43⟩]; rfl)
              replace hl : lv_has ls 4 [(2, .int (nI (i + 1))), (1, va_rf (((pcS σ (i + 1))).map (L 3))), (3, .ref (L 3 i)), (0, .ref (L 0 0))] := (congrArg (lv_has ls 4) (m_lc rfl (m_lc q4 (m_lc rfl (m_lc rfl rfl))))).mp hl
              exact ih4 (i + 1) (by omega) (by omega) _ _ hV hS ls (lv_sub hl [3, 1, 0] rfl)
  have q5 : (.null : Value) = va_rf (((pcS σ 0)).map (L 3)) := rfl
  have q6 : 0 = nI 0 := rfl
  replace hl : lv_has ls 4 [(2, .int (nI 0)), (1, va_rf (((pcS σ 0)).map (L 3))), (0, .ref (L 0 0))] := (congrArg (lv_has ls 4) (m_lc (congrArg Value.int q6) (m_lc q5 (m_lc rfl rfl)))).mp hl
  exact lp4 ((kN σ 62 2 - 0) + 1) 0 (Nat.zero_le _) (Nat.lt_succ_self _) _ _ hV hS ls (lv_sub hl [2, 1, 0] rfl)
set_option maxHeartbeats 4000000 in
set_option maxRecDepth 100000 in
theorem c_X4_chooseForAllCores {l : Launch} {D : va_G} {cs : mC} {df : Nat} {P : Nat → Prop} {h0 : mH} {L : KL} {σ : KS} {hh : mH} (sz : Nat) (hC : CRep cs df P h0 L σ hh) (b : Bool) : Met l yX4_chooseForAllCores wsX4_chooseForAllCores ({ frames := 5, cells := 0, slots := 0, locals := 113 }) (mPre [.ref (L 0 0), .int (bI b)] D cs df hh sz) (va_Qv ((fun (h1 : mH) => CRep cs df P h0 L (choS b σ) h1)) (mB D hh sz) (mA hh sz)) 0 0 (mA hh sz) := by
  refine Met.ofW (cc := cX4_chooseForAllCores) (maxL := 7) (ret := none) (by decide) rfl ?_
  intro p e s m args below meth c s₁ B0 hml hv
  obtain ⟨hargs, hsz, hV, hE⟩ := hv
  subst hsz
  have hx := B0.exec
  have hb := B0.bytes
  have hr := B0.returns
  have hlocks := B0.notSynchronized
  have hts := atoms_spec (ws := wsX4_chooseForAllCores) B0.pre
  have hown : s.vm.findClass RX4 = some m.cls := findClass_of_methodNamed B0.named
  have hK := hE.1.1
  have hA : ∀ q : Nat, s.heap.size ≤ q → mA hh s.heap.size q := mA.top
  have hS : va_S (mA hh s.heap.size) s.heap s.heap [] := va_S.rf
  have hi_X4 : ∀ w ∈ u_ws RX4 TX4 11, w ∈ wsX4_chooseForAllCores := by decide +kernel
  have k21 : (Cond.fieldLink RX4 21 "TaskKernel" "tasks" "Ljava/util/ArrayList;").before args s = true := hts _ (by decide +kernel)
  have k12 : (Cond.fieldLink RX4 12 "TaskKernel" "cores" "Ljava/util/ArrayList;").before args s = true := hts _ (by decide +kernel)
  have kc78 : (Cond.classLink RX4 78 "TaskKernel$Core").before args s = true := hts _ (by decide +kernel)
  have k36 : (Cond.fieldLink RX4 36 "TaskKernel" "heatLimit" "I").before args s = true := hts _ (by decide +kernel)
  have kq99 : va_Nw (.methodLinkNest RX4 99 yX0_paceUnder "TaskKernel") s := hE.1.2.2.1 _ (List.mem_of_getElem? (i := 7) rfl)
  have k40 : (Cond.fieldLink RX4 40 "TaskKernel" "powerCap" "I").before args s = true := hts _ (by decide +kernel)
  have kn257 : va_Nw (.fieldLinkNest RX4 257 "TaskKernel$Core" "pick" "LTaskKernel$Task;" "TaskKernel") s := hE.1.2.1 _ (List.mem_of_getElem? (i := 10) rfl)
  have hi_X0 : ∀ w ∈ u_ws RX0 TX0 3, w ∈ wsX4_chooseForAllCores := by decide +kernel
  have kn316 : va_Nw (.fieldLinkNest RX4 316 "TaskKernel$Task" "canBeChosen" "Z" "TaskKernel") s := hE.1.2.1 _ (List.mem_of_getElem? (i := 26) rfl)
  have hi_X3 : ∀ w ∈ u_ws RX3 TX3 16, w ∈ wsX4_chooseForAllCores := by decide +kernel
  have kc121 : (Cond.classLink RX4 121 "TaskKernel$Task").before args s = true := hts _ (by decide +kernel)
  have kq187 : va_Nw (.methodLinkNest RX4 187 yX3_isReady "TaskKernel") s := hE.1.2.2.1 _ (List.mem_of_getElem? (i := 1) rfl)
  have hl := lv_entry ([.ref (L 0 0), .int (bI b)]) (n := 7) (by first | exact Nat.le_of_ble_eq_true rfl | simp [lg_sl, rf_cat, ct_ref, ct_int, ct_null, ct_long])
  have hent := lg_entry_eq m ([.ref (L 0 0), .int (bI b)]) 7
  rw [← hargs] at hent
  rw [hent]
  generalize (lg_sl ([.ref (L 0 0), .int (bI b)]) ++ List.replicate (7 - (lg_sl ([.ref (L 0 0), .int (bI b)])).length) Slot.unset).toArray = ls at hl ⊢
  replace hl : lv_has ls 7 [(0, .ref (L 0 0)), (1, .int (bI b))] := hl
  have hwf := hC.wf
  obtain ⟨⟨z0, z1, z2, z3, z4⟩, z5, z6, z7, z8, z9, z10, z11, z12⟩ := hwf
  have eu : kN (urgS σ) = kN σ := urgS_N σ
  refine lv_aload_n hx hb dX4_chooseForAllCores_0 rfl (lv_at hl 0 rfl) ?_
  refine m_callv (va_runV (As := []) (rest := []) ⟨hx, hb, hml, hown, hts⟩ (c_X4_lendUrgencies (l := l) (s.heap.size) hC ) (cwV 0 hts gX4_chooseForAllCores_X4_lendUrgencies rfl rfl rfl (by decide +kernel) ⟨by decide, by decide⟩) (m_preV (r := (RX4, TX4, 11)) hE hV hS hA (hC.at (k := 0) (i := 0) rfl) rfl) rfl rfl hl.1 rfl (lv_room (by first | exact Nat.le_of_ble_eq_true rfl | simp [rf_cat, ct_ref, ct_int, ct_null, ct_long])) dX4_chooseForAllCores_1 ⟨by decide, by decide⟩) hV hS hA (fun h H locs hV hS hp _ => ?_)
  replace hC := hp; clear hp
  refine lv_iconst (v := 0) hx hb dX4_chooseForAllCores_4 (by decide) ?_
  refine lv_istore_n (lv' := [(2, .int 0), (0, .ref (L 0 0)), (1, .int (bI b))]) hx hb dX4_chooseForAllCores_5 rfl hl (by decide) rfl (fun ls hl => ?_)
  have lp6 : ∀ (fu : Nat) (i : Nat), (i ≤ kN σ 62 2) → kN σ 62 2 - i < fu → ∀ (h : mH) (H : Heap) (locs : List Loc), CRep cs df P h0 L (rdS i (urgS σ)) h → mV D h (mA hh s.heap.size) H → va_S (mA hh s.heap.size) s.heap H locs → ∀ (ls : Array Slot), lv_has ls 7 [(0, .ref (L 0 0)), (1, .int (bI b)), (2, .int (nI i))] → W p l e ({ frames := 5, cells := 0, slots := 0, locals := 113 } : Room) s m args below meth c H locs 0 0 (MQ below (va_Qv ((fun (h1 : mH) => CRep cs df P h0 L (choS b σ) h1)) (mB D hh s.heap.size) (mA hh s.heap.size)) args s 0 0 (mA hh s.heap.size)) (F0 m 6 ls []) := by
    intro fu
    induction fu with
    | zero =>
      intro i hi hfu
      exact absurd hfu (Nat.not_lt_zero _)
    | succ fu ih6 =>
      intro i hi hfu h H locs hC hV hS ls hl
      have en : kN (rdS i (urgS σ)) 62 2 = kN σ 62 2 := by rw [rdS_N, urgS_N]
      refine lv_iload_n hx hb dX4_chooseForAllCores_6 rfl (lv_at hl 2 rfl) ?_
      refine lv_aload_n hx hb dX4_chooseForAllCores_7 rfl (lv_at hl 0 rfl) ?_
      refine m_get (C := RX4) (T := TX4) (N := 11) hx hb hts hi_X4 hown hK hV 2 (v := .ref (L 5 2)) (g_kern2 hC rfl) rfl (by decide) k21 (fun _ h9 => h9) dX4_chooseForAllCores_8 ?_
      refine m_calli (va_runV (As := []) (rest := [.int (nI i)]) ⟨hx, hb, hml, hown, hts⟩ (l_size (H.size) hC 2 (by decide)) (cwV 0 hts gX4_chooseForAllCores_Jx4a65c_size_8abf5 rfl rfl rfl (by decide +kernel) ⟨by decide, by decide⟩) (m_preV (r := (RJx4a65c, TJx4a65c, 3)) hE hV hS hA (CRep.atL hC (j := 2) (by decide)) rfl) rfl rfl hl.1 rfl (lv_room (by first | exact Nat.le_of_ble_eq_true rfl | simp [rf_cat, ct_ref, ct_int, ct_null, ct_long])) dX4_chooseForAllCores_11 ⟨by decide, by decide⟩) hV hS hA (fun r h1 H locs hV hS hp _ => ?_)
      obtain ⟨e1, e2⟩ := hp
      subst e2
      rw [e1] at hV; clear e1
      refine lv_icmp_ge (tgt := 43) hx hb dX4_chooseForAllCores_14 (by decide) (fun c14 => ?_) (fun c14 => ?_)
      · replace c14 : kN (rdS i (urgS σ)) 62 2 ≤ i := (nI_leI (a := kN (rdS i (urgS σ)) 62 2) (b := i) (by omega) (by omega)).mp c14
        refine lv_iconst (v := 0) hx hb dX4_chooseForAllCores_43 (by decide) ?_
        refine lv_istore_n (lv' := [(2, .int 0), (0, .ref (L 0 0)), (1, .int (bI b))]) hx hb dX4_chooseForAllCores_44 rfl hl (by decide) rfl (fun ls hl => ?_)
        refine lv_iconst (v := 0) hx hb dX4_chooseForAllCores_45 (by decide) ?_
        refine lv_istore_n (lv' := [(3, .int 0), (2, .int 0), (0, .ref (L 0 0)), (1, .int (bI b))]) hx hb dX4_chooseForAllCores_46 rfl hl (by decide) rfl (fun ls hl => ?_)
        have lp47 : ∀ (fu : Nat) (k : Nat), (k ≤ kN σ 62 0) → kN σ 62 0 - k < fu → ∀ (h : mH) (H : Heap) (locs : List Loc), CRep cs df P h0 L ((cofS b (cho0 σ) k).2) h → mV D h (mA hh s.heap.size) H → va_S (mA hh s.heap.size) s.heap H locs → ∀ (ls : Array Slot), lv_has ls 7 [(0, .ref (L 0 0)), (1, .int (bI b)), (2, .int ((cofS b (cho0 σ) k).1)), (3, .int (nI k))] → W p l e ({ frames := 5, cells := 0, slots := 0, locals := 113 } : Room) s m args below meth c H locs 0 0 (MQ below (va_Qv ((fun (h1 : mH) => CRep cs df P h0 L (choS b σ) h1)) (mB D hh s.heap.size) (mA hh s.heap.size)) args s 0 0 (mA hh s.heap.size)) (F0 m 47 ls []) := by
          intro fu
          induction fu with
          | zero =>
            intro k hk hfu
            exact absurd hfu (Nat.not_lt_zero _)
          | succ fu ih47 =>
            intro k hk hfu h H locs hC hV hS ls hl
            have en : kN (cofS b (cho0 σ) k).2 = kN σ := by rw [cofS_N, cho0_N]
            have en0 : kN (cofS b (cho0 σ) k).2 62 0 = kN σ 62 0 := by rw [en]
            have en2 : kN (cofS b (cho0 σ) k).2 62 2 = kN σ 62 2 := by rw [en]
            have hp1 : ∀ t, pdO (cofS b (cho0 σ) k).2 = some t → t < kN (cofS b (cho0 σ) k).2 62 2 := fun t h => pdO_lt h
            have hp2 : ∀ t, pcS (cofS b (cho0 σ) k).2 (kN (cofS b (cho0 σ) k).2 62 2) = some t → t < kN (cofS b (cho0 σ) k).2 62 2 := fun t h => pcS_lt h
            have ep : kN (pdSt (cofS b (cho0 σ) k).2) 62 2 = kN (cofS b (cho0 σ) k).2 62 2 := by rw [pdSt_N]
            have ep0 : kN (pdSt (cofS b (cho0 σ) k).2) 62 0 = kN (cofS b (cho0 σ) k).2 62 0 := by rw [pdSt_N]
            refine lv_iload_n hx hb dX4_chooseForAllCores_47 rfl (lv_at hl 3 rfl) ?_
            refine lv_aload_n hx hb dX4_chooseForAllCores_48 rfl (lv_at hl 0 rfl) ?_
            refine m_get (C := RX4) (T := TX4) (N := 11) hx hb hts hi_X4 hown hK hV 0 (v := .ref (L 5 0)) (g_kern0 hC rfl) rfl (by decide) k12 (fun _ h9 => h9) dX4_chooseForAllCores_49 ?_
            refine m_calli (va_runV (As := []) (rest := [.int (nI k)]) ⟨hx, hb, hml, hown, hts⟩ (l_size (H.size) hC 0 (by decide)) (cwV 0 hts gX4_chooseForAllCores_Jx4a65c_size_8abf5 rfl rfl rfl (by decide +kernel) ⟨by decide, by decide⟩) (m_preV (r := (RJx4a65c, TJx4a65c, 3)) hE hV hS hA (CRep.atL hC (j := 0) (by decide)) rfl) rfl rfl hl.1 rfl (lv_room (by first | exact Nat.le_of_ble_eq_true rfl | simp [rf_cat, ct_ref, ct_int, ct_null, ct_long])) dX4_chooseForAllCores_52 ⟨by decide, by decide⟩) hV hS hA (fun r h1 H locs hV hS hp _ => ?_)
            obtain ⟨e1, e2⟩ := hp
            subst e2
            rw [e1] at hV; clear e1
            refine lv_icmp_ge (tgt := 142) hx hb dX4_chooseForAllCores_55 (by decide) (fun c55 => ?_) (fun c55 => ?_)
            · replace c55 : kN ((cofS b (cho0 σ) k).2) 62 0 ≤ k := (nI_leI (a := kN ((cofS b (cho0 σ) k).2) 62 0) (b := k) (by omega) (by omega)).mp c55
              exact m_vret hx hb hr hlocks hV hS ((by rw [show k = kN σ 62 0 by omega] at hC; exact hC)) dX4_chooseForAllCores_142
            · replace c55 : ¬ kN ((cofS b (cho0 σ) k).2) 62 0 ≤ k := fun q9 => c55 ((nI_leI (a := kN ((cofS b (cho0 σ) k).2) 62 0) (b := k) (by omega) (by omega)).mpr q9)
              refine lv_aload_n hx hb dX4_chooseForAllCores_58 rfl (lv_at hl 0 rfl) ?_
              refine m_get (C := RX4) (T := TX4) (N := 11) hx hb hts hi_X4 hown hK hV 0 (v := .ref (L 5 0)) (g_kern0 hC rfl) rfl (by decide) k12 (fun _ h9 => h9) dX4_chooseForAllCores_59 ?_
              refine lv_iload_n hx hb dX4_chooseForAllCores_62 rfl (lv_at hl 3 rfl) ?_
              refine m_callq (va_runV (As := [.int (nI k)]) (rest := []) ⟨hx, hb, hml, hown, hts⟩ (l_get0 (H.size) hC k (by first | assumption | omega)) (cwV 1 hts gX4_chooseForAllCores_Jx4a65c_get_915e3 rfl rfl rfl (by decide +kernel) ⟨by decide, by decide⟩) (m_preV (r := (RJx4a65c, TJx4a65c, 3)) hE hV hS hA (CRep.atL hC (j := 0) (by decide)) rfl) rfl rfl hl.1 rfl (lv_room (by first | exact Nat.le_of_ble_eq_true rfl | simp [rf_cat, ct_ref, ct_int, ct_null, ct_long])) dX4_chooseForAllCores_63 ⟨by decide, by decide⟩) hV hS hA (fun r h1 H locs hV hS hp _ => ?_)
              obtain ⟨e1, e2⟩ := hp
              subst e2
              rw [e1] at hV; clear e1
              refine m_cast (r := (RX0, TX0, 3)) hx hb hE hV (hC.at (k := 1) (i := k) (by first | assumption | (show k < kN ((cofS b (cho0 σ) k).2) 62 0; omega))) rfl hown kc78 dX4_chooseForAllCores_66 ?_
              refine lv_astore (lv' := [(4, .ref (L 1 k)), (0, .ref (L 0 0)), (1, .int (bI b)), (2, .int ((cofS b (cho0 σ) k).1)), (3, .int (nI k))]) hx hb dX4_chooseForAllCores_69 hl (by decide) rfl (fun ls hl => ?_)
              refine lv_aload hx hb dX4_chooseForAllCores_71 (lv_at hl 0 rfl) ?_
              refine lv_aload_n hx hb dX4_chooseForAllCores_73 rfl (lv_at hl 1 rfl) ?_
              refine m_get (C := RX4) (T := TX4) (N := 11) hx hb hts hi_X4 hown hK hV 5 (v := .int (kI (cofS b (cho0 σ) k).2 0 0)) (g_kern5 hC rfl) rfl (by decide) k36 (fun _ h9 => h9) dX4_chooseForAllCores_74 ?_
              refine m_calli (va_runVN (As := [.int (kI (cofS b (cho0 σ) k).2 0 0)]) (rest := []) ⟨hx, hb, hml, hown, hts⟩ (c_X0_paceUnder (l := l) (H.size) hC k (kI (cofS b (cho0 σ) k).2 0 0) (by first | assumption | omega)) ⟨va_cnB 1 hts gX4_chooseForAllCores_X0_paceUnder_n99 rfl rfl rfl kq99 (hts (.initialized RX0) (by decide +kernel)) (by decide +kernel) ⟨by decide, by decide⟩, hts (.instanceMethod yX0_paceUnder) (by decide +kernel), hts (.selects RX0 yX0_paceUnder yX0_paceUnder) (by decide +kernel)⟩ (m_preV (r := (RX0, TX0, 3)) hE hV hS hA (hC.at (k := 1) (i := k) (by first | assumption | (show k < kN ((cofS b (cho0 σ) k).2) 62 0; omega))) rfl) rfl rfl hl.1 rfl (lv_room (by first | exact Nat.le_of_ble_eq_true rfl | simp [rf_cat, ct_ref, ct_int, ct_null, ct_long])) dX4_chooseForAllCores_77 ⟨by decide, by decide⟩) hV hS hA (fun r h1 H locs hV hS hp _ => ?_)
              obtain ⟨e1, e2⟩ := hp
              subst e2
              rw [e1] at hV; clear e1
              refine lv_istore (lv' := [(5, .int (paceS (kI ((cofS b (cho0 σ) k).2) 10 k) (kI ((cofS b (cho0 σ) k).2) 11 k) (kI (cofS b (cho0 σ) k).2 0 0))), (4, .ref (L 1 k)), (0, .ref (L 0 0)), (1, .int (bI b)), (2, .int ((cofS b (cho0 σ) k).1)), (3, .int (nI k))]) hx hb dX4_chooseForAllCores_80 hl (by decide) rfl (fun ls hl => ?_)
              refine lv_null hx hb dX4_chooseForAllCores_82 ?_
              refine lv_astoreN (lv' := [(6, .null), (5, .int (paceS (kI ((cofS b (cho0 σ) k).2) 10 k) (kI ((cofS b (cho0 σ) k).2) 11 k) (kI (cofS b (cho0 σ) k).2 0 0))), (4, .ref (L 1 k)), (0, .ref (L 0 0)), (1, .int (bI b)), (2, .int ((cofS b (cho0 σ) k).1)), (3, .int (nI k))]) hx hb dX4_chooseForAllCores_83 hl (by decide) rfl (fun ls hl => ?_)
              refine lv_iload_n hx hb dX4_chooseForAllCores_85 rfl (lv_at hl 5 rfl) ?_
              refine lv_iload hx hb dX4_chooseForAllCores_86 (lv_at hl 1 rfl) ?_
              refine lv_iadd hx hb dX4_chooseForAllCores_88 ?_
              refine lv_aload_n hx hb dX4_chooseForAllCores_89 rfl (lv_at hl 3 rfl) ?_
              refine m_get (C := RX4) (T := TX4) (N := 11) hx hb hts hi_X4 hown hK hV 6 (v := .int (kI (cofS b (cho0 σ) k).2 1 0)) (g_kern6 hC rfl) rfl (by decide) k40 (fun _ h9 => h9) dX4_chooseForAllCores_90 ?_
              refine lv_icmp_gt (tgt := 113) hx hb dX4_chooseForAllCores_93 (by decide) (fun c93 => ?_) (fun c93 => ?_)
              · refine lv_aload hx hb dX4_chooseForAllCores_113 (lv_at hl 2 rfl) ?_
                refine lv_aloadN hx hb dX4_chooseForAllCores_115 (lv_at hl 0 rfl) ?_
                refine m_putN (host := "TaskKernel") (C := RX0) (T := TX0) (N := 3) (v := va_rf ((none).map (L 3))) hx hb hts hi_X0 tyX0 tyX0_ok nmX0 hown hK hV hS 2 (p_core2 hC (by first | assumption | (show k < kN ((cofS b (cho0 σ) k).2) 62 0; omega)) none (fun _ z => nomatch z)) rfl (by decide) kn257 (fun _ h9 => h9) rfl (tyX0_ok 2 (by decide)) (rf_narrow _ _) (rf_fits _ _) dX4_chooseForAllCores_117 (fun h H locs hV hS hC => ?_)
                refine lv_aloadN hx hb dX4_chooseForAllCores_120 (lv_at hl 0 rfl) ?_
                refine lv_ifnullN (tgt := 136) hx hb dX4_chooseForAllCores_122 (by decide) ?_
                refine lv_iinc (v := nI (k + 1)) (lv' := [(3, .int (nI (k + 1))), (6, .null), (5, .int (paceS (kI ((cofS b (cho0 σ) k).2) 10 k) (kI ((cofS b (cho0 σ) k).2) 11 k) (kI (cofS b (cho0 σ) k).2 0 0))), (4, .ref (L 1 k)), (0, .ref (L 0 0)), (1, .int (bI b)), (2, .int ((cofS b (cho0 σ) k).1))]) hx hb dX4_chooseForAllCores_136 hl (k := 6) rfl (show nI k + Int32.ofInt 1 = _ from nI_add k 1) (by decide) rfl (fun ls hl => ?_)
                refine lv_goto (tgt := 47) hx hb dX4_chooseForAllCores_139 (by decide) ?_
                have w9 := (rfl : cofS b (cho0 σ) (k + 1) = cof1 b (cofS b (cho0 σ) k) k).trans (cof1_a c93)
                have q1 : (sO (cofS b (cho0 σ) k).2 12 (va_up (kO (cofS b (cho0 σ) k).2 12) k none)) = (cofS b (cho0 σ) (k + 1)).2 := (by rw [w9] <;> rfl)
                rw [q1] at hC
                have q2 : ((cofS b (cho0 σ) k).1) = ((cofS b (cho0 σ) (k + 1)).1) := (by rw [w9])
                replace hl : lv_has ls 7 [(3, .int (nI (k + 1))), (6, .null), (5, .int (paceS (kI ((cofS b (cho0 σ) k).2) 10 k) (kI ((cofS b (cho0 σ) k).2) 11 k) (kI (cofS b (cho0 σ) k).2 0 0))), (4, .ref (L 1 k)), (0, .ref (L 0 0)), (1, .int (bI b)), (2, .int ((cofS b (cho0 σ) (k + 1)).1))] := (congrArg (lv_has ls 7) (m_lc rfl (m_lc rfl (m_lc rfl (m_lc rfl (m_lc rfl (m_lc rfl (m_lc (congrArg Value.int q2) rfl)))))))).mp hl
                exact ih47 (k + 1) (by omega) (by omega) _ _ _ hC hV hS ls (lv_sub hl [4, 5, 6, 0] rfl)
              · refine lv_iload_n hx hb dX4_chooseForAllCores_96 rfl (lv_at hl 4 rfl) ?_
                refine lv_if_eq (tgt := 107) hx hb dX4_chooseForAllCores_97 (by decide) (fun c97 => ?_) (fun c97 => ?_)
                · replace c97 : b = false := bI_0.mp c97
                  refine lv_aload_n hx hb dX4_chooseForAllCores_107 rfl (lv_at hl 3 rfl) ?_
                  refine m_callq (va_runV (As := []) (rest := []) ⟨hx, hb, hml, hown, hts⟩ (c_X4_pickByComparing (l := l) (H.size) hC ) (cwV 0 hts gX4_chooseForAllCores_X4_pickByComparing rfl rfl rfl (by decide +kernel) ⟨by decide, by decide⟩) (m_preV (r := (RX4, TX4, 11)) hE hV hS hA (hC.at (k := 0) (i := 0) rfl) rfl) rfl rfl hl.1 rfl (lv_room (by first | exact Nat.le_of_ble_eq_true rfl | simp [rf_cat, ct_ref, ct_int, ct_null, ct_long])) dX4_chooseForAllCores_108 ⟨by decide, by decide⟩) hV hS hA (fun r h1 H locs hV hS hp _ => ?_)
                  obtain ⟨e1, e2⟩ := hp
                  subst e2
                  rw [e1] at hV; clear e1
                  refine m_astore_q (lv' := [(6, va_rf (((pcS ((cofS b (cho0 σ) k).2) (kN ((cofS b (cho0 σ) k).2) 62 2))).map (L 3))), (5, .int (paceS (kI ((cofS b (cho0 σ) k).2) 10 k) (kI ((cofS b (cho0 σ) k).2) 11 k) (kI (cofS b (cho0 σ) k).2 0 0))), (4, .ref (L 1 k)), (0, .ref (L 0 0)), (1, .int (bI b)), (2, .int ((cofS b (cho0 σ) k).1)), (3, .int (nI k))]) hx hb dX4_chooseForAllCores_111 hl (by decide) (by first | rfl | simp [rf_cat, ct_ref, ct_int, ct_long]) (fun ls hl => ?_)
                  refine lv_aload hx hb dX4_chooseForAllCores_113 (lv_at hl 2 rfl) ?_
                  refine m_aload_q hx hb dX4_chooseForAllCores_115 (lv_at hl 0 rfl) ?_
                  refine m_putN (host := "TaskKernel") (C := RX0) (T := TX0) (N := 3) (v := va_rf (((pcS ((cofS b (cho0 σ) k).2) (kN ((cofS b (cho0 σ) k).2) 62 2))).map (L 3))) hx hb hts hi_X0 tyX0 tyX0_ok nmX0 hown hK hV hS 2 (p_core2 hC (by first | assumption | (show k < kN ((cofS b (cho0 σ) k).2) 62 0; omega)) (pcS ((cofS b (cho0 σ) k).2) (kN ((cofS b (cho0 σ) k).2) 62 2)) hp2) rfl (by decide) kn257 (fun _ h9 => h9) rfl (tyX0_ok 2 (by decide)) (rf_narrow _ _) (rf_fits _ _) dX4_chooseForAllCores_117 (fun h H locs hV hS hC => ?_)
                  refine m_aload_q hx hb dX4_chooseForAllCores_120 (lv_at hl 0 rfl) ?_
                  refine m_ifnull_q (o := (pcS ((cofS b (cho0 σ) k).2) (kN ((cofS b (cho0 σ) k).2) 62 2))) (f := L 3) (tgt := 136) hx hb dX4_chooseForAllCores_122 (by decide) (fun c122 => ?_) (fun k122 c122 => ?_)
                  · replace hl : lv_has ls 7 [(6, .null), (5, .int (paceS (kI ((cofS b (cho0 σ) k).2) 10 k) (kI ((cofS b (cho0 σ) k).2) 11 k) (kI (cofS b (cho0 σ) k).2 0 0))), (4, .ref (L 1 k)), (0, .ref (L 0 0)), (1, .int (bI b)), (2, .int ((cofS b (cho0 σ) k).1)), (3, .int (nI k))] := by have h9 := hl; rw [c122] at h9; exact h9
                    refine lv_iinc (v := nI (k + 1)) (lv' := [(3, .int (nI (k + 1))), (6, .null), (5, .int (paceS (kI ((cofS b (cho0 σ) k).2) 10 k) (kI ((cofS b (cho0 σ) k).2) 11 k) (kI (cofS b (cho0 σ) k).2 0 0))), (4, .ref (L 1 k)), (0, .ref (L 0 0)), (1, .int (bI b)), (2, .int ((cofS b (cho0 σ) k).1))]) hx hb dX4_chooseForAllCores_136 hl (k := 6) rfl (show nI k + Int32.ofInt 1 = _ from nI_add k 1) (by decide) rfl (fun ls hl => ?_)
                    refine lv_goto (tgt := 47) hx hb dX4_chooseForAllCores_139 (by decide) ?_
                    have w9 := (rfl : cofS b (cho0 σ) (k + 1) = cof1 b (cofS b (cho0 σ) k) k).trans (cof1_b (show ¬ kI (cofS b (cho0 σ) k).2 1 0 < (cofS b (cho0 σ) k).1 + paceS (kI (cofS b (cho0 σ) k).2 10 k) (kI (cofS b (cho0 σ) k).2 11 k) (kI (cofS b (cho0 σ) k).2 0 0) from c93) (by unfold pickS; rw [if_neg (by rw [c97]; decide)]; exact c122))
                    have q3 : (sO (cofS b (cho0 σ) k).2 12 (va_up (kO (cofS b (cho0 σ) k).2 12) k (pcS ((cofS b (cho0 σ) k).2) (kN ((cofS b (cho0 σ) k).2) 62 2)))) = (cofS b (cho0 σ) (k + 1)).2 := (by rw [w9, c122]; unfold pickSt; rw [if_neg (by rw [c97]; decide)] <;> rfl)
                    rw [q3] at hC
                    have q4 : ((cofS b (cho0 σ) k).1) = ((cofS b (cho0 σ) (k + 1)).1) := (by rw [w9])
                    replace hl : lv_has ls 7 [(3, .int (nI (k + 1))), (6, .null), (5, .int (paceS (kI ((cofS b (cho0 σ) k).2) 10 k) (kI ((cofS b (cho0 σ) k).2) 11 k) (kI (cofS b (cho0 σ) k).2 0 0))), (4, .ref (L 1 k)), (0, .ref (L 0 0)), (1, .int (bI b)), (2, .int ((cofS b (cho0 σ) (k + 1)).1))] := (congrArg (lv_has ls 7) (m_lc rfl (m_lc rfl (m_lc rfl (m_lc rfl (m_lc rfl (m_lc rfl (m_lc (congrArg Value.int q4) rfl)))))))).mp hl
                    exact ih47 (k + 1) (by omega) (by omega) _ _ _ hC hV hS ls (lv_sub hl [4, 5, 6, 0] rfl)
                  · have bk122 := hp2 k122 c122
                    replace hl : lv_has ls 7 [(6, .ref (L 3 k122)), (5, .int (paceS (kI ((cofS b (cho0 σ) k).2) 10 k) (kI ((cofS b (cho0 σ) k).2) 11 k) (kI (cofS b (cho0 σ) k).2 0 0))), (4, .ref (L 1 k)), (0, .ref (L 0 0)), (1, .int (bI b)), (2, .int ((cofS b (cho0 σ) k).1)), (3, .int (nI k))] := by have h9 := hl; rw [c122] at h9; exact h9
                    refine lv_aload hx hb dX4_chooseForAllCores_125 (lv_at hl 0 rfl) ?_
                    refine lv_iconst (v := 0) hx hb dX4_chooseForAllCores_127 (by decide) ?_
                    refine m_putN (host := "TaskKernel") (C := RX3) (T := TX3) (N := 16) (v := .int (bI false)) hx hb hts hi_X3 tyX3 tyX3_ok nmX3 hown hK hV hS 15 (p_task15 hC (by first | assumption | (show k122 < kN ((cofS b (cho0 σ) k).2) 62 2; omega)) false) rfl (by decide) kn316 (fun _ h9 => h9) rfl (tyX3_ok 15 (by decide)) (bI_narrow _) (bI_fits _) dX4_chooseForAllCores_128 (fun h H locs hV hS hC => ?_)
                    refine lv_iload_n hx hb dX4_chooseForAllCores_131 rfl (lv_at hl 5 rfl) ?_
                    refine lv_iload hx hb dX4_chooseForAllCores_132 (lv_at hl 1 rfl) ?_
                    refine lv_iadd hx hb dX4_chooseForAllCores_134 ?_
                    refine lv_istore_n (lv' := [(2, .int (((cofS b (cho0 σ) k).1) + (paceS (kI ((cofS b (cho0 σ) k).2) 10 k) (kI ((cofS b (cho0 σ) k).2) 11 k) (kI (cofS b (cho0 σ) k).2 0 0)))), (6, .ref (L 3 k122)), (5, .int (paceS (kI ((cofS b (cho0 σ) k).2) 10 k) (kI ((cofS b (cho0 σ) k).2) 11 k) (kI (cofS b (cho0 σ) k).2 0 0))), (4, .ref (L 1 k)), (0, .ref (L 0 0)), (1, .int (bI b)), (3, .int (nI k))]) hx hb dX4_chooseForAllCores_135 rfl hl (by decide) rfl (fun ls hl => ?_)
                    refine lv_iinc (v := nI (k + 1)) (lv' := [(3, .int (nI (k + 1))), (2, .int (((cofS b (cho0 σ) k).1) + (paceS (kI ((cofS b (cho0 σ) k).2) 10 k) (kI ((cofS b (cho0 σ) k).2) 11 k) (kI (cofS b (cho0 σ) k).2 0 0)))), (6, .ref (L 3 k122)), (5, .int (paceS (kI ((cofS b (cho0 σ) k).2) 10 k) (kI ((cofS b (cho0 σ) k).2) 11 k) (kI (cofS b (cho0 σ) k).2 0 0))), (4, .ref (L 1 k)), (0, .ref (L 0 0)), (1, .int (bI b))]) hx hb dX4_chooseForAllCores_136 hl (k := 6) rfl (show nI k + Int32.ofInt 1 = _ from nI_add k 1) (by decide) rfl (fun ls hl => ?_)
                    refine lv_goto (tgt := 47) hx hb dX4_chooseForAllCores_139 (by decide) ?_
                    have w9 := (rfl : cofS b (cho0 σ) (k + 1) = cof1 b (cofS b (cho0 σ) k) k).trans (cof1_c (show ¬ kI (cofS b (cho0 σ) k).2 1 0 < (cofS b (cho0 σ) k).1 + paceS (kI (cofS b (cho0 σ) k).2 10 k) (kI (cofS b (cho0 σ) k).2 11 k) (kI (cofS b (cho0 σ) k).2 0 0) from c93) (by unfold pickS; rw [if_neg (by rw [c97]; decide)]; exact c122))
                    have q5 : (sB (sO (cofS b (cho0 σ) k).2 12 (va_up (kO (cofS b (cho0 σ) k).2 12) k (pcS ((cofS b (cho0 σ) k).2) (kN ((cofS b (cho0 σ) k).2) 62 2)))) 45 (va_up (kB (sO (cofS b (cho0 σ) k).2 12 (va_up (kO (cofS b (cho0 σ) k).2 12) k (pcS ((cofS b (cho0 σ) k).2) (kN ((cofS b (cho0 σ) k).2) 62 2)))) 45) k122 false)) = (cofS b (cho0 σ) (k + 1)).2 := (by rw [w9, c122]; unfold pickSt; rw [if_neg (by rw [c97]; decide)] <;> rfl)
                    rw [q5] at hC
                    have q6 : (((cofS b (cho0 σ) k).1) + (paceS (kI ((cofS b (cho0 σ) k).2) 10 k) (kI ((cofS b (cho0 σ) k).2) 11 k) (kI (cofS b (cho0 σ) k).2 0 0))) = ((cofS b (cho0 σ) (k + 1)).1) := (by rw [w9])
                    replace hl : lv_has ls 7 [(3, .int (nI (k + 1))), (2, .int ((cofS b (cho0 σ) (k + 1)).1)), (6, .ref (L 3 k122)), (5, .int (paceS (kI ((cofS b (cho0 σ) k).2) 10 k) (kI ((cofS b (cho0 σ) k).2) 11 k) (kI (cofS b (cho0 σ) k).2 0 0))), (4, .ref (L 1 k)), (0, .ref (L 0 0)), (1, .int (bI b))] := (congrArg (lv_has ls 7) (m_lc rfl (m_lc (congrArg Value.int q6) (m_lc rfl (m_lc rfl (m_lc rfl (m_lc rfl (m_lc rfl rfl)))))))).mp hl
                    exact ih47 (k + 1) (by omega) (by omega) _ _ _ hC hV hS ls (lv_sub hl [5, 6, 1, 0] rfl)
                · replace c97 : b = true := bI_1.mp c97
                  refine lv_aload_n hx hb dX4_chooseForAllCores_100 rfl (lv_at hl 3 rfl) ?_
                  refine m_callq (va_runV (As := []) (rest := []) ⟨hx, hb, hml, hown, hts⟩ (c_X4_pickDownTheTree (l := l) (H.size) hC ) (cwV 0 hts gX4_chooseForAllCores_X4_pickDownTheTree rfl rfl rfl (by decide +kernel) ⟨by decide, by decide⟩) (m_preV (r := (RX4, TX4, 11)) hE hV hS hA (hC.at (k := 0) (i := 0) rfl) rfl) rfl rfl hl.1 rfl (lv_room (by first | exact Nat.le_of_ble_eq_true rfl | simp [rf_cat, ct_ref, ct_int, ct_null, ct_long])) dX4_chooseForAllCores_101 ⟨by decide, by decide⟩) hV hS hA (fun r h H locs hV hS hp _ => ?_)
                  obtain ⟨hC, e2⟩ := hp
                  subst e2
                  refine lv_goto (tgt := 111) hx hb dX4_chooseForAllCores_104 (by decide) ?_
                  refine m_astore_q (lv' := [(6, va_rf (((pdO ((cofS b (cho0 σ) k).2))).map (L 3))), (5, .int (paceS (kI ((cofS b (cho0 σ) k).2) 10 k) (kI ((cofS b (cho0 σ) k).2) 11 k) (kI (cofS b (cho0 σ) k).2 0 0))), (4, .ref (L 1 k)), (0, .ref (L 0 0)), (1, .int (bI b)), (2, .int ((cofS b (cho0 σ) k).1)), (3, .int (nI k))]) hx hb dX4_chooseForAllCores_111 hl (by decide) (by first | rfl | simp [rf_cat, ct_ref, ct_int, ct_long]) (fun ls hl => ?_)
                  refine lv_aload hx hb dX4_chooseForAllCores_113 (lv_at hl 2 rfl) ?_
                  refine m_aload_q hx hb dX4_chooseForAllCores_115 (lv_at hl 0 rfl) ?_
                  refine m_putN (host := "TaskKernel") (C := RX0) (T := TX0) (N := 3) (v := va_rf (((pdO ((cofS b (cho0 σ) k).2))).map (L 3))) hx hb hts hi_X0 tyX0 tyX0_ok nmX0 hown hK hV hS 2 (p_core2 hC (by first | assumption | (show k < kN (pdSt ((cofS b (cho0 σ) k).2)) 62 0; omega)) (pdO ((cofS b (cho0 σ) k).2)) (fun t z => ep ▸ hp1 t z)) rfl (by decide) kn257 (fun _ h9 => h9) rfl (tyX0_ok 2 (by decide)) (rf_narrow _ _) (rf_fits _ _) dX4_chooseForAllCores_117 (fun h H locs hV hS hC => ?_)
                  refine m_aload_q hx hb dX4_chooseForAllCores_120 (lv_at hl 0 rfl) ?_
                  refine m_ifnull_q (o := (pdO ((cofS b (cho0 σ) k).2))) (f := L 3) (tgt := 136) hx hb dX4_chooseForAllCores_122 (by decide) (fun c122 => ?_) (fun k122 c122 => ?_)
                  · replace hl : lv_has ls 7 [(6, .null), (5, .int (paceS (kI ((cofS b (cho0 σ) k).2) 10 k) (kI ((cofS b (cho0 σ) k).2) 11 k) (kI (cofS b (cho0 σ) k).2 0 0))), (4, .ref (L 1 k)), (0, .ref (L 0 0)), (1, .int (bI b)), (2, .int ((cofS b (cho0 σ) k).1)), (3, .int (nI k))] := by have h9 := hl; rw [c122] at h9; exact h9
                    refine lv_iinc (v := nI (k + 1)) (lv' := [(3, .int (nI (k + 1))), (6, .null), (5, .int (paceS (kI ((cofS b (cho0 σ) k).2) 10 k) (kI ((cofS b (cho0 σ) k).2) 11 k) (kI (cofS b (cho0 σ) k).2 0 0))), (4, .ref (L 1 k)), (0, .ref (L 0 0)), (1, .int (bI b)), (2, .int ((cofS b (cho0 σ) k).1))]) hx hb dX4_chooseForAllCores_136 hl (k := 6) rfl (show nI k + Int32.ofInt 1 = _ from nI_add k 1) (by decide) rfl (fun ls hl => ?_)
                    refine lv_goto (tgt := 47) hx hb dX4_chooseForAllCores_139 (by decide) ?_
                    have w9 := (rfl : cofS b (cho0 σ) (k + 1) = cof1 b (cofS b (cho0 σ) k) k).trans (cof1_b (show ¬ kI (cofS b (cho0 σ) k).2 1 0 < (cofS b (cho0 σ) k).1 + paceS (kI (cofS b (cho0 σ) k).2 10 k) (kI (cofS b (cho0 σ) k).2 11 k) (kI (cofS b (cho0 σ) k).2 0 0) from c93) (by unfold pickS; rw [if_pos c97]; exact c122))
                    have q7 : (sO (pdSt ((cofS b (cho0 σ) k).2)) 12 (va_up (kO (pdSt ((cofS b (cho0 σ) k).2)) 12) k (pdO ((cofS b (cho0 σ) k).2)))) = (cofS b (cho0 σ) (k + 1)).2 := (by rw [w9, c122]; unfold pickSt; rw [if_pos c97] <;> rfl)
                    rw [q7] at hC
                    have q8 : ((cofS b (cho0 σ) k).1) = ((cofS b (cho0 σ) (k + 1)).1) := (by rw [w9])
                    replace hl : lv_has ls 7 [(3, .int (nI (k + 1))), (6, .null), (5, .int (paceS (kI ((cofS b (cho0 σ) k).2) 10 k) (kI ((cofS b (cho0 σ) k).2) 11 k) (kI (cofS b (cho0 σ) k).2 0 0))), (4, .ref (L 1 k)), (0, .ref (L 0 0)), (1, .int (bI b)), (2, .int ((cofS b (cho0 σ) (k + 1)).1))] := (congrArg (lv_has ls 7) (m_lc rfl (m_lc rfl (m_lc rfl (m_lc rfl (m_lc rfl (m_lc rfl (m_lc (congrArg Value.int q8) rfl)))))))).mp hl
                    exact ih47 (k + 1) (by omega) (by omega) _ _ _ hC hV hS ls (lv_sub hl [4, 5, 6, 0] rfl)
                  · have bk122 := hp1 k122 c122
                    replace hl : lv_has ls 7 [(6, .ref (L 3 k122)), (5, .int (paceS (kI ((cofS b (cho0 σ) k).2) 10 k) (kI ((cofS b (cho0 σ) k).2) 11 k) (kI (cofS b (cho0 σ) k).2 0 0))), (4, .ref (L 1 k)), (0, .ref (L 0 0)), (1, .int (bI b)), (2, .int ((cofS b (cho0 σ) k).1)), (3, .int (nI k))] := by have h9 := hl; rw [c122] at h9; exact h9
                    refine lv_aload hx hb dX4_chooseForAllCores_125 (lv_at hl 0 rfl) ?_
                    refine lv_iconst (v := 0) hx hb dX4_chooseForAllCores_127 (by decide) ?_
                    refine m_putN (host := "TaskKernel") (C := RX3) (T := TX3) (N := 16) (v := .int (bI false)) hx hb hts hi_X3 tyX3 tyX3_ok nmX3 hown hK hV hS 15 (p_task15 hC (by first | assumption | (show k122 < kN (pdSt ((cofS b (cho0 σ) k).2)) 62 2; omega)) false) rfl (by decide) kn316 (fun _ h9 => h9) rfl (tyX3_ok 15 (by decide)) (bI_narrow _) (bI_fits _) dX4_chooseForAllCores_128 (fun h H locs hV hS hC => ?_)
                    refine lv_iload_n hx hb dX4_chooseForAllCores_131 rfl (lv_at hl 5 rfl) ?_
                    refine lv_iload hx hb dX4_chooseForAllCores_132 (lv_at hl 1 rfl) ?_
                    refine lv_iadd hx hb dX4_chooseForAllCores_134 ?_
                    refine lv_istore_n (lv' := [(2, .int (((cofS b (cho0 σ) k).1) + (paceS (kI ((cofS b (cho0 σ) k).2) 10 k) (kI ((cofS b (cho0 σ) k).2) 11 k) (kI (cofS b (cho0 σ) k).2 0 0)))), (6, .ref (L 3 k122)), (5, .int (paceS (kI ((cofS b (cho0 σ) k).2) 10 k) (kI ((cofS b (cho0 σ) k).2) 11 k) (kI (cofS b (cho0 σ) k).2 0 0))), (4, .ref (L 1 k)), (0, .ref (L 0 0)), (1, .int (bI b)), (3, .int (nI k))]) hx hb dX4_chooseForAllCores_135 rfl hl (by decide) rfl (fun ls hl => ?_)
                    refine lv_iinc (v := nI (k + 1)) (lv' := [(3, .int (nI (k + 1))), (2, .int (((cofS b (cho0 σ) k).1) + (paceS (kI ((cofS b (cho0 σ) k).2) 10 k) (kI ((cofS b (cho0 σ) k).2) 11 k) (kI (cofS b (cho0 σ) k).2 0 0)))), (6, .ref (L 3 k122)), (5, .int (paceS (kI ((cofS b (cho0 σ) k).2) 10 k) (kI ((cofS b (cho0 σ) k).2) 11 k) (kI (cofS b (cho0 σ) k).2 0 0))), (4, .ref (L 1 k)), (0, .ref (L 0 0)), (1, .int (bI b))]) hx hb dX4_chooseForAllCores_136 hl (k := 6) rfl (show nI k + Int32.ofInt 1 = _ from nI_add k 1) (by decide) rfl (fun ls hl => ?_)
                    refine lv_goto (tgt := 47) hx hb dX4_chooseForAllCores_139 (by decide) ?_
                    have w9 := (rfl : cofS b (cho0 σ) (k + 1) = cof1 b (cofS b (cho0 σ) k) k).trans (cof1_c (show ¬ kI (cofS b (cho0 σ) k).2 1 0 < (cofS b (cho0 σ) k).1 + paceS (kI (cofS b (cho0 σ) k).2 10 k) (kI (cofS b (cho0 σ) k).2 11 k) (kI (cofS b (cho0 σ) k).2 0 0) from c93) (by unfold pickS; rw [if_pos c97]; exact c122))
                    have q9 : (sB (sO (pdSt ((cofS b (cho0 σ) k).2)) 12 (va_up (kO (pdSt ((cofS b (cho0 σ) k).2)) 12) k (pdO ((cofS b (cho0 σ) k).2)))) 45 (va_up (kB (sO (pdSt ((cofS b (cho0 σ) k).2)) 12 (va_up (kO (pdSt ((cofS b (cho0 σ) k).2)) 12) k (pdO ((cofS b (cho0 σ) k).2)))) 45) k122 false)) = (cofS b (cho0 σ) (k + 1)).2 := (by rw [w9, c122]; unfold pickSt; rw [if_pos c97] <;> rfl)
                    rw [q9] at hC
                    have q10 : (((cofS b (cho0 σ) k).1) + (paceS (kI ((cofS b (cho0 σ) k).2) 10 k) (kI ((cofS b (cho0 σ) k).2) 11 k) (kI (cofS b (cho0 σ) k).2 0 0))) = ((cofS b (cho0 σ) (k + 1)).1) := (by rw [w9])
                    replace hl : lv_has ls 7 [(3, .int (nI (k + 1))), (2, .int ((cofS b (cho0 σ) (k + 1)).1)), (6, .ref (L 3 k122)), (5, .int (paceS (kI ((cofS b (cho0 σ) k).2) 10 k) (kI ((cofS b (cho0 σ) k).2) 11 k) (kI (cofS b (cho0 σ) k).2 0 0))), (4, .ref (L 1 k)), (0, .ref (L 0 0)), (1, .int (bI b))] := (congrArg (lv_has ls 7) (m_lc rfl (m_lc (congrArg Value.int q10) (m_lc rfl (m_lc rfl (m_lc rfl (m_lc rfl (m_lc rfl rfl)))))))).mp hl
                    exact ih47 (k + 1) (by omega) (by omega) _ _ _ hC hV hS ls (lv_sub hl [5, 6, 1, 0] rfl)
        have q11 : (rdS i (urgS σ)) = (cofS b (cho0 σ) 0).2 := (by rw [show i = kN σ 62 2 by omega]; rfl)
        rw [q11] at hC
        have q12 : 0 = ((cofS b (cho0 σ) 0).1) := rfl
        have q13 : 0 = nI 0 := rfl
        replace hl : lv_has ls 7 [(3, .int (nI 0)), (2, .int ((cofS b (cho0 σ) 0).1)), (0, .ref (L 0 0)), (1, .int (bI b))] := (congrArg (lv_has ls 7) (m_lc (congrArg Value.int q13) (m_lc (congrArg Value.int q12) (m_lc rfl (m_lc rfl rfl))))).mp hl
        exact lp47 ((kN σ 62 0 - 0) + 1) 0 (Nat.zero_le _) (Nat.lt_succ_self _) _ _ _ hC hV hS ls (lv_sub hl [2, 3, 1, 0] rfl)
      · replace c14 : ¬ kN (rdS i (urgS σ)) 62 2 ≤ i := fun q9 => c14 ((nI_leI (a := kN (rdS i (urgS σ)) 62 2) (b := i) (by omega) (by omega)).mpr q9)
        refine lv_aload_n hx hb dX4_chooseForAllCores_17 rfl (lv_at hl 0 rfl) ?_
        refine m_get (C := RX4) (T := TX4) (N := 11) hx hb hts hi_X4 hown hK hV 2 (v := .ref (L 5 2)) (g_kern2 hC rfl) rfl (by decide) k21 (fun _ h9 => h9) dX4_chooseForAllCores_18 ?_
        refine lv_iload_n hx hb dX4_chooseForAllCores_21 rfl (lv_at hl 2 rfl) ?_
        refine m_callq (va_runV (As := [.int (nI i)]) (rest := []) ⟨hx, hb, hml, hown, hts⟩ (l_get2 (H.size) hC i (by first | assumption | omega)) (cwV 1 hts gX4_chooseForAllCores_Jx4a65c_get_915e3 rfl rfl rfl (by decide +kernel) ⟨by decide, by decide⟩) (m_preV (r := (RJx4a65c, TJx4a65c, 3)) hE hV hS hA (CRep.atL hC (j := 2) (by decide)) rfl) rfl rfl hl.1 rfl (lv_room (by first | exact Nat.le_of_ble_eq_true rfl | simp [rf_cat, ct_ref, ct_int, ct_null, ct_long])) dX4_chooseForAllCores_22 ⟨by decide, by decide⟩) hV hS hA (fun r h1 H locs hV hS hp _ => ?_)
        obtain ⟨e1, e2⟩ := hp
        subst e2
        rw [e1] at hV; clear e1
        refine m_cast (r := (RX3, TX3, 16)) hx hb hE hV (hC.at (k := 3) (i := i) (by first | assumption | (show i < kN (rdS i (urgS σ)) 62 2; omega))) rfl hown kc121 dX4_chooseForAllCores_25 ?_
        refine lv_astore_n (lv' := [(3, .ref (L 3 i)), (0, .ref (L 0 0)), (1, .int (bI b)), (2, .int (nI i))]) hx hb dX4_chooseForAllCores_28 rfl hl (by decide) rfl (fun ls hl => ?_)
        refine lv_aload_n hx hb dX4_chooseForAllCores_29 rfl (lv_at hl 0 rfl) ?_
        refine lv_aload_n hx hb dX4_chooseForAllCores_30 rfl (lv_at hl 0 rfl) ?_
        refine m_calli (va_runVN (As := []) (rest := [.ref (L 3 i)]) ⟨hx, hb, hml, hown, hts⟩ (c_X3_isReady (l := l) (H.size) hC i (by first | assumption | omega)) ⟨va_cnB 0 hts gX4_chooseForAllCores_X3_isReady_n187 rfl rfl rfl kq187 (hts (.initialized RX3) (by decide +kernel)) (by decide +kernel) ⟨by decide, by decide⟩, hts (.instanceMethod yX3_isReady) (by decide +kernel), hts (.selects RX3 yX3_isReady yX3_isReady) (by decide +kernel)⟩ (m_preV (r := (RX3, TX3, 16)) hE hV hS hA (hC.at (k := 3) (i := i) (by first | assumption | (show i < kN (rdS i (urgS σ)) 62 2; omega))) rfl) rfl rfl hl.1 rfl (lv_room (by first | exact Nat.le_of_ble_eq_true rfl | simp [rf_cat, ct_ref, ct_int, ct_null, ct_long])) dX4_chooseForAllCores_31 ⟨by decide, by decide⟩) hV hS hA (fun r h1 H locs hV hS hp _ => ?_)
        obtain ⟨e1, e2⟩ := hp
        subst e2
        rw [e1] at hV; clear e1
        refine m_putN (host := "TaskKernel") (C := RX3) (T := TX3) (N := 16) (v := .int (bI (readyS (rdS i (urgS σ)) i))) hx hb hts hi_X3 tyX3 tyX3_ok nmX3 hown hK hV hS 15 (p_task15 hC (by first | assumption | (show i < kN (rdS i (urgS σ)) 62 2; omega)) (readyS (rdS i (urgS σ)) i)) rfl (by decide) kn316 (fun _ h9 => h9) rfl (tyX3_ok 15 (by decide)) (bI_narrow _) (bI_fits _) dX4_chooseForAllCores_34 (fun h H locs hV hS hC => ?_)
        refine lv_iinc (v := nI (i + 1)) (lv' := [(2, .int (nI (i + 1))), (3, .ref (L 3 i)), (0, .ref (L 0 0)), (1, .int (bI b))]) hx hb dX4_chooseForAllCores_37 hl (k := 3) rfl (show nI i + Int32.ofInt 1 = _ from nI_add i 1) (by decide) rfl (fun ls hl => ?_)
        refine lv_goto (tgt := 6) hx hb dX4_chooseForAllCores_40 (by decide) ?_
        have q14 : (sB (rdS i (urgS σ)) 45 (va_up (kB (rdS i (urgS σ)) 45) i (readyS (rdS i (urgS σ)) i))) = (rdS (i + 1) (urgS σ)) := rfl
        rw [q14] at hC
        exact ih6 (i + 1) (by omega) (by omega) _ _ _ hC hV hS ls (lv_sub hl [2, 3, 0] rfl)
  have q15 : (urgS σ) = (rdS 0 (urgS σ)) := rfl
  rw [q15] at hC
  have q16 : 0 = nI 0 := rfl
  replace hl : lv_has ls 7 [(2, .int (nI 0)), (0, .ref (L 0 0)), (1, .int (bI b))] := (congrArg (lv_has ls 7) (m_lc (congrArg Value.int q16) (m_lc rfl (m_lc rfl rfl)))).mp hl
  exact lp6 ((kN σ 62 2 - 0) + 1) 0 (Nat.zero_le _) (Nat.lt_succ_self _) _ _ _ hC hV hS ls (lv_sub hl [1, 2, 0] rfl)
set_option maxHeartbeats 4000000 in
set_option maxRecDepth 100000 in
theorem c_X4_choice {l : Launch} (hfl : l.stackTraces = false) {D : va_G} {cs : mC} {df : Nat} {P : Nat → Prop} {h0 : mH} {L : KL} {σ : KS} {hh : mH} (sz : Nat) (hC : CRep cs df P h0 L σ hh) (x0 : Int32) : vx_Met l yX4_choice wsX4_choice ({ frames := 6, cells := 1, slots := 6, locals := 139 }) (mPre [.ref (L 0 0), .int x0] D cs df hh sz) (va_Qi ((fun (r : Int32) (h1 : mH) => ∃ t, inR x0 (kN σ 62 0) = some t ∧ CRep cs df P h0 L (choS true σ) h1 ∧ r = oI (kO (choS true σ) 12 t))) (mB D hh sz) (mA hh sz)) (mX D hh sz (fun E h1 => E = "java/lang/IndexOutOfBoundsException" ∧ h1 = hh ∧ inR x0 (kN σ 62 0) = none)) 1 6 (mA hh sz) := by
  refine vx_ofW (cc := cX4_choice) (maxL := 3) (ret := (some .int)) (by decide) rfl ?_
  intro p e s m args below meth c s₁ B0 hml hnx hv
  obtain ⟨hargs, hsz, hV, hE⟩ := hv
  subst hsz
  have hx := B0.exec
  have hb := B0.bytes
  have hr := B0.returns
  have hlocks := B0.notSynchronized
  have hts := atoms_spec (ws := wsX4_choice) B0.pre
  have hown : s.vm.findClass RX4 = some m.cls := findClass_of_methodNamed B0.named
  have hK := hE.1.1
  have hA : ∀ q : Nat, s.heap.size ≤ q → mA hh s.heap.size q := mA.top
  have hS : va_S (mA hh s.heap.size) s.heap s.heap [] := va_S.rf
  have hi_X0 : ∀ w ∈ u_ws RX0 TX0 3, w ∈ wsX4_choice := by decide +kernel
  have kn257 : va_Nw (.fieldLinkNest RX4 257 "TaskKernel$Core" "pick" "LTaskKernel$Task;" "TaskKernel") s := hE.1.2.1 _ (List.mem_of_getElem? (i := 10) rfl)
  have kc91 : (Cond.classLink RX4 91 "java/lang/IndexOutOfBoundsException").before args s = true := hts _ (by decide +kernel)
  have hl := lv_entry ([.ref (L 0 0), .int x0]) (n := 3) (by first | exact Nat.le_of_ble_eq_true rfl | simp [lg_sl, rf_cat, ct_ref, ct_int, ct_null, ct_long])
  have hent := lg_entry_eq m ([.ref (L 0 0), .int x0]) 3
  rw [← hargs] at hent
  rw [hent]
  generalize (lg_sl ([.ref (L 0 0), .int x0]) ++ List.replicate (3 - (lg_sl ([.ref (L 0 0), .int x0])).length) Slot.unset).toArray = ls at hl ⊢
  replace hl : lv_has ls 3 [(0, .ref (L 0 0)), (1, .int x0)] := hl
  have hwf := hC.wf
  obtain ⟨⟨z0, z1, z2, z3, z4⟩, z5, z6, z7, z8, z9, z10, z11, z12⟩ := hwf
  have en0 : kN (choS true σ) 62 0 = kN σ 62 0 := by rw [choS_N]
  refine lv_aload_n hx hb dX4_choice_0 rfl (lv_at hl 0 rfl) ?_
  refine lv_iload_n hx hb dX4_choice_1 rfl (lv_at hl 1 rfl) ?_
  refine m_callq (va_runV (As := [.int x0]) (rest := []) ⟨hx, hb, hml, hown, hts⟩ (c_X4_coreAt (l := l) (s.heap.size) hC x0) (cwV 1 hts gX4_choice_X4_coreAt rfl rfl rfl (by decide +kernel) ⟨by decide, by decide⟩) (m_preV (r := (RX4, TX4, 11)) hE hV hS hA (hC.at (k := 0) (i := 0) rfl) rfl) rfl rfl hl.1 rfl (lv_room (by first | exact Nat.le_of_ble_eq_true rfl | simp [rf_cat, ct_ref, ct_int, ct_null, ct_long])) dX4_choice_2 ⟨by decide, by decide⟩) hV hS hA (fun r h1 H locs hV hS hp _ => ?_)
  obtain ⟨e1, e2⟩ := hp
  subst e2
  rw [e1] at hV; clear e1
  refine m_astore_nq (i := 2) (lv' := [(2, va_rf (((inR x0 (kN σ 62 0))).map (L 1))), (0, .ref (L 0 0)), (1, .int x0)]) hx hb dX4_choice_5 rfl hl (by decide) (by first | rfl | simp [rf_cat, ct_ref, ct_int, ct_long]) (fun ls hl => ?_)
  refine m_aload_nq hx hb dX4_choice_6 rfl (lv_at hl 0 rfl) ?_
  refine m_ifnonnull_q (o := (inR x0 (kN σ 62 0))) (f := L 1) (tgt := 20) hx hb dX4_choice_7 (by decide) (fun k7 c7 => ?_) (fun c7 => ?_)
  · have bk7 := (inR_some c7).2
    replace hl : lv_has ls 3 [(2, .ref (L 1 k7)), (0, .ref (L 0 0)), (1, .int x0)] := by have h9 := hl; rw [c7] at h9; exact h9
    refine lv_aload_n hx hb dX4_choice_20 rfl (lv_at hl 1 rfl) ?_
    refine lv_iconst (v := 1) hx hb dX4_choice_21 (by decide) ?_
    refine m_callv (va_runV (As := [.int 1]) (rest := []) ⟨hx, hb, hml, hown, hts⟩ (c_X4_chooseForAllCores (l := l) (H.size) hC true) (cwV 1 hts gX4_choice_X4_chooseForAllCores rfl rfl rfl (by decide +kernel) ⟨by decide, by decide⟩) (m_preV (r := (RX4, TX4, 11)) hE hV hS hA (hC.at (k := 0) (i := 0) rfl) rfl) rfl rfl hl.1 rfl (lv_room (by first | exact Nat.le_of_ble_eq_true rfl | simp [rf_cat, ct_ref, ct_int, ct_null, ct_long])) dX4_choice_22 ⟨by decide, by decide⟩) hV hS hA (fun h H locs hV hS hp _ => ?_)
    replace hC := hp; clear hp
    refine lv_aload_n hx hb dX4_choice_25 rfl (lv_at hl 0 rfl) ?_
    refine m_getN (C := RX0) (T := TX0) (N := 3) (host := "TaskKernel") hx hb hts hi_X0 hown hK hV 2 (v := va_rf ((kO (choS true σ) 12 k7).map (L 3))) (g_core2 hC (by first | assumption | (show k7 < kN (choS true σ) 62 0; omega))) rfl (by decide) kn257 (fun _ h9 => h9) dX4_choice_26 ?_
    refine m_calli (va_runS (As := [va_rf ((kO (choS true σ) 12 k7).map (L 3))]) (rest := []) ⟨hx, hb, hml, hown, hts⟩ (c_X4_numberOf (l := l) (H.size) hC (kO (choS true σ) 12 k7) (hC.wf.2.2.2.1 k7 (by omega))) (va_cwS 1 hts gX4_choice_X4_numberOf rfl rfl rfl (by decide +kernel) ⟨by decide, by decide⟩) (m_preS hE hV hS hA) rfl rfl hl.1 rfl (lv_room (by first | exact Nat.le_of_ble_eq_true rfl | simp [rf_cat, ct_ref, ct_int, ct_null, ct_long])) dX4_choice_29 ⟨by decide, by decide⟩) hV hS hA (fun r h1 H locs hV hS hp _ => ?_)
    obtain ⟨e1, e2⟩ := hp
    subst e2
    rw [e1] at hV; clear e1
    refine W.widen (k := 1) (n := 6) (by decide) (by first | decide | omega) ?_
    exact vx_ret (m_iret (v := oI (kO (choS true σ) 12 k7)) hx hb hr hlocks hV hS (⟨k7, c7, hC, rfl⟩) dX4_choice_32)
  · replace hl : lv_has ls 3 [(2, .null), (0, .ref (L 0 0)), (1, .int x0)] := by have h9 := hl; rw [c7] at h9; exact h9
    exact m_throw hx hb hfl (own := RX4) (cls := "java/lang/IndexOutOfBoundsException") (text := "there is no such core") (names := ["java/lang/RuntimeException", "java/lang/Exception"]) (ik := 91) (is := 93) (ic := 95) hown (by decide) (by decide) kc91 (hts _ (by decide +kernel)) (hE.1.2.2.2.1 _ (List.mem_of_getElem? (i := 0) rfl)) (m_hat hE (by decide +kernel) hts) (by decide +kernel) hE hV hS (by rw [hml]; exact hl.1) dX4_choice_10 dX4_choice_13 dX4_choice_14 dX4_choice_16 dX4_choice_19 hnx (by decide) (by decide) (by decide) (by decide) hlocks (⟨rfl, rfl, c7⟩) (by decide) (by decide)
set_option maxHeartbeats 4000000 in
set_option maxRecDepth 100000 in
theorem c_X4_choiceByComparing {l : Launch} (hfl : l.stackTraces = false) {D : va_G} {cs : mC} {df : Nat} {P : Nat → Prop} {h0 : mH} {L : KL} {σ : KS} {hh : mH} (sz : Nat) (hC : CRep cs df P h0 L σ hh) (x0 : Int32) : vx_Met l yX4_choiceByComparing wsX4_choiceByComparing ({ frames := 6, cells := 1, slots := 6, locals := 139 }) (mPre [.ref (L 0 0), .int x0] D cs df hh sz) (va_Qi ((fun (r : Int32) (h1 : mH) => ∃ t, inR x0 (kN σ 62 0) = some t ∧ CRep cs df P h0 L (choS false σ) h1 ∧ r = oI (kO (choS false σ) 12 t))) (mB D hh sz) (mA hh sz)) (mX D hh sz (fun E h1 => E = "java/lang/IndexOutOfBoundsException" ∧ h1 = hh ∧ inR x0 (kN σ 62 0) = none)) 1 6 (mA hh sz) := by
  refine vx_ofW (cc := cX4_choiceByComparing) (maxL := 3) (ret := (some .int)) (by decide) rfl ?_
  intro p e s m args below meth c s₁ B0 hml hnx hv
  obtain ⟨hargs, hsz, hV, hE⟩ := hv
  subst hsz
  have hx := B0.exec
  have hb := B0.bytes
  have hr := B0.returns
  have hlocks := B0.notSynchronized
  have hts := atoms_spec (ws := wsX4_choiceByComparing) B0.pre
  have hown : s.vm.findClass RX4 = some m.cls := findClass_of_methodNamed B0.named
  have hK := hE.1.1
  have hA : ∀ q : Nat, s.heap.size ≤ q → mA hh s.heap.size q := mA.top
  have hS : va_S (mA hh s.heap.size) s.heap s.heap [] := va_S.rf
  have hi_X0 : ∀ w ∈ u_ws RX0 TX0 3, w ∈ wsX4_choiceByComparing := by decide +kernel
  have kn257 : va_Nw (.fieldLinkNest RX4 257 "TaskKernel$Core" "pick" "LTaskKernel$Task;" "TaskKernel") s := hE.1.2.1 _ (List.mem_of_getElem? (i := 10) rfl)
  have kc91 : (Cond.classLink RX4 91 "java/lang/IndexOutOfBoundsException").before args s = true := hts _ (by decide +kernel)
  have hl := lv_entry ([.ref (L 0 0), .int x0]) (n := 3) (by first | exact Nat.le_of_ble_eq_true rfl | simp [lg_sl, rf_cat, ct_ref, ct_int, ct_null, ct_long])
  have hent := lg_entry_eq m ([.ref (L 0 0), .int x0]) 3
  rw [← hargs] at hent
  rw [hent]
  generalize (lg_sl ([.ref (L 0 0), .int x0]) ++ List.replicate (3 - (lg_sl ([.ref (L 0 0), .int x0])).length) Slot.unset).toArray = ls at hl ⊢
  replace hl : lv_has ls 3 [(0, .ref (L 0 0)), (1, .int x0)] := hl
  have hwf := hC.wf
  obtain ⟨⟨z0, z1, z2, z3, z4⟩, z5, z6, z7, z8, z9, z10, z11, z12⟩ := hwf
  have en0 : kN (choS false σ) 62 0 = kN σ 62 0 := by rw [choS_N]
  refine lv_aload_n hx hb dX4_choiceByComparing_0 rfl (lv_at hl 0 rfl) ?_
  refine lv_iload_n hx hb dX4_choiceByComparing_1 rfl (lv_at hl 1 rfl) ?_
  refine m_callq (va_runV (As := [.int x0]) (rest := []) ⟨hx, hb, hml, hown, hts⟩ (c_X4_coreAt (l := l) (s.heap.size) hC x0) (cwV 1 hts gX4_choiceByComparing_X4_coreAt rfl rfl rfl (by decide +kernel) ⟨by decide, by decide⟩) (m_preV (r := (RX4, TX4, 11)) hE hV hS hA (hC.at (k := 0) (i := 0) rfl) rfl) rfl rfl hl.1 rfl (lv_room (by first | exact Nat.le_of_ble_eq_true rfl | simp [rf_cat, ct_ref, ct_int, ct_null, ct_long])) dX4_choiceByComparing_2 ⟨by decide, by decide⟩) hV hS hA (fun r h1 H locs hV hS hp _ => ?_)
  obtain ⟨e1, e2⟩ := hp
  subst e2
  rw [e1] at hV; clear e1
  refine m_astore_nq (i := 2) (lv' := [(2, va_rf (((inR x0 (kN σ 62 0))).map (L 1))), (0, .ref (L 0 0)), (1, .int x0)]) hx hb dX4_choiceByComparing_5 rfl hl (by decide) (by first | rfl | simp [rf_cat, ct_ref, ct_int, ct_long]) (fun ls hl => ?_)
  refine m_aload_nq hx hb dX4_choiceByComparing_6 rfl (lv_at hl 0 rfl) ?_
  refine m_ifnonnull_q (o := (inR x0 (kN σ 62 0))) (f := L 1) (tgt := 20) hx hb dX4_choiceByComparing_7 (by decide) (fun k7 c7 => ?_) (fun c7 => ?_)
  · have bk7 := (inR_some c7).2
    replace hl : lv_has ls 3 [(2, .ref (L 1 k7)), (0, .ref (L 0 0)), (1, .int x0)] := by have h9 := hl; rw [c7] at h9; exact h9
    refine lv_aload_n hx hb dX4_choiceByComparing_20 rfl (lv_at hl 1 rfl) ?_
    refine lv_iconst (v := 0) hx hb dX4_choiceByComparing_21 (by decide) ?_
    refine m_callv (va_runV (As := [.int 0]) (rest := []) ⟨hx, hb, hml, hown, hts⟩ (c_X4_chooseForAllCores (l := l) (H.size) hC false) (cwV 1 hts gX4_choiceByComparing_X4_chooseForAllCores rfl rfl rfl (by decide +kernel) ⟨by decide, by decide⟩) (m_preV (r := (RX4, TX4, 11)) hE hV hS hA (hC.at (k := 0) (i := 0) rfl) rfl) rfl rfl hl.1 rfl (lv_room (by first | exact Nat.le_of_ble_eq_true rfl | simp [rf_cat, ct_ref, ct_int, ct_null, ct_long])) dX4_choiceByComparing_22 ⟨by decide, by decide⟩) hV hS hA (fun h H locs hV hS hp _ => ?_)
    replace hC := hp; clear hp
    refine lv_aload_n hx hb dX4_choiceByComparing_25 rfl (lv_at hl 0 rfl) ?_
    refine m_getN (C := RX0) (T := TX0) (N := 3) (host := "TaskKernel") hx hb hts hi_X0 hown hK hV 2 (v := va_rf ((kO (choS false σ) 12 k7).map (L 3))) (g_core2 hC (by first | assumption | (show k7 < kN (choS false σ) 62 0; omega))) rfl (by decide) kn257 (fun _ h9 => h9) dX4_choiceByComparing_26 ?_
    refine m_calli (va_runS (As := [va_rf ((kO (choS false σ) 12 k7).map (L 3))]) (rest := []) ⟨hx, hb, hml, hown, hts⟩ (c_X4_numberOf (l := l) (H.size) hC (kO (choS false σ) 12 k7) (hC.wf.2.2.2.1 k7 (by omega))) (va_cwS 1 hts gX4_choiceByComparing_X4_numberOf rfl rfl rfl (by decide +kernel) ⟨by decide, by decide⟩) (m_preS hE hV hS hA) rfl rfl hl.1 rfl (lv_room (by first | exact Nat.le_of_ble_eq_true rfl | simp [rf_cat, ct_ref, ct_int, ct_null, ct_long])) dX4_choiceByComparing_29 ⟨by decide, by decide⟩) hV hS hA (fun r h1 H locs hV hS hp _ => ?_)
    obtain ⟨e1, e2⟩ := hp
    subst e2
    rw [e1] at hV; clear e1
    refine W.widen (k := 1) (n := 6) (by decide) (by first | decide | omega) ?_
    exact vx_ret (m_iret (v := oI (kO (choS false σ) 12 k7)) hx hb hr hlocks hV hS (⟨k7, c7, hC, rfl⟩) dX4_choiceByComparing_32)
  · replace hl : lv_has ls 3 [(2, .null), (0, .ref (L 0 0)), (1, .int x0)] := by have h9 := hl; rw [c7] at h9; exact h9
    exact m_throw hx hb hfl (own := RX4) (cls := "java/lang/IndexOutOfBoundsException") (text := "there is no such core") (names := ["java/lang/RuntimeException", "java/lang/Exception"]) (ik := 91) (is := 93) (ic := 95) hown (by decide) (by decide) kc91 (hts _ (by decide +kernel)) (hE.1.2.2.2.1 _ (List.mem_of_getElem? (i := 0) rfl)) (m_hat hE (by decide +kernel) hts) (by decide +kernel) hE hV hS (by rw [hml]; exact hl.1) dX4_choiceByComparing_10 dX4_choiceByComparing_13 dX4_choiceByComparing_14 dX4_choiceByComparing_16 dX4_choiceByComparing_19 hnx (by decide) (by decide) (by decide) (by decide) hlocks (⟨rfl, rfl, c7⟩) (by decide) (by decide)
