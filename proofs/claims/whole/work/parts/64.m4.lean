set_option maxHeartbeats 4000000 in
set_option maxRecDepth 100000 in
theorem c_X5_hasUnder {l : Launch} {D : va_G} {cs : mC} {df : Nat} {P : Nat → Prop} {h0 : mH} {B : Nat → Nat} {μ : KS} {hh : mH} (sz : Nat) (hM : DRep cs P h0 B μ hh) (g9 : Nat) (hg9 : g9 < kN μ 9 0) : Met l yX5_hasUnder wsX5_hasUnder ({ frames := 1, cells := 0, slots := 0, locals := 23 }) (mPre [.ref (B 100), .int (nI g9)] D cs df hh sz) (va_Qi ((fun (r : Int32) (h1 : mH) => h1 = hh ∧ r = bI (huM μ g9 (kN μ 24 0)))) (mB D hh sz) (mA hh sz)) 0 0 (mA hh sz) := by
  refine Met.ofW (cc := cX5_hasUnder) (maxL := 4) (ret := (some .boolean)) (by decide) rfl ?_
  intro p e s m args below meth c s₁ B0 hml hv
  obtain ⟨hargs, hsz, hV, hE⟩ := hv
  subst hsz
  have hx := B0.exec
  have hb := B0.bytes
  have hr := B0.returns
  have hlocks := B0.notSynchronized
  have hts := atoms_spec (ws := wsX5_hasUnder) B0.pre
  have hown : s.vm.findClass RX5 = some m.cls := findClass_of_methodNamed B0.named
  have hK := hE.1.1
  have hA : ∀ q : Nat, s.heap.size ≤ q → mA hh s.heap.size q := mA.top
  have hS : va_S (mA hh s.heap.size) s.heap s.heap [] := va_S.rf
  have hi_X5 : ∀ w ∈ u_ws RX5 TX5 34, w ∈ wsX5_hasUnder := by decide +kernel
  have k117 : (Cond.fieldLink RX5 117 "TaskKernelModel" "tasks" "I").before args s = true := hts _ (by decide +kernel)
  have k88 : (Cond.fieldLink RX5 88 "TaskKernelModel" "isIn" "[Z").before args s = true := hts _ (by decide +kernel)
  have k36 : (Cond.fieldLink RX5 36 "TaskKernelModel" "groupOf" "[I").before args s = true := hts _ (by decide +kernel)
  have hl := lv_entry ([.ref (B 100), .int (nI g9)]) (n := 4) (by first | exact Nat.le_of_ble_eq_true rfl | simp [lg_sl, rf_cat, ct_ref, ct_int, ct_null, ct_long])
  have hent := lg_entry_eq m ([.ref (B 100), .int (nI g9)]) 4
  rw [← hargs] at hent
  rw [hent]
  generalize (lg_sl ([.ref (B 100), .int (nI g9)]) ++ List.replicate (4 - (lg_sl ([.ref (B 100), .int (nI g9)])).length) Slot.unset).toArray = ls at hl ⊢
  replace hl : lv_has ls 4 [(0, .ref (B 100)), (1, .int (nI g9))] := hl
  have hwf := hM.wf
  obtain ⟨⟨y0, y1, y2, y3⟩, y4, y5, y6, y7⟩ := hwf
  refine lv_iconst (v := 0) hx hb dX5_hasUnder_0 (by decide) ?_
  refine lv_istore_n (lv' := [(2, .int 0), (0, .ref (B 100)), (1, .int (nI g9))]) hx hb dX5_hasUnder_1 rfl hl (by decide) rfl (fun ls hl => ?_)
  refine lv_iconst (v := 0) hx hb dX5_hasUnder_2 (by decide) ?_
  refine lv_istore_n (lv' := [(3, .int 0), (2, .int 0), (0, .ref (B 100)), (1, .int (nI g9))]) hx hb dX5_hasUnder_3 rfl hl (by decide) rfl (fun ls hl => ?_)
  have lp4 : ∀ (fu : Nat) (i : Nat), (i ≤ kN μ 24 0) → kN μ 24 0 - i < fu → ∀ (H : Heap) (locs : List Loc), mV D hh (mA hh s.heap.size) H → va_S (mA hh s.heap.size) s.heap H locs → ∀ (ls : Array Slot), lv_has ls 4 [(0, .ref (B 100)), (1, .int (nI g9)), (2, .int (bI (huM μ g9 i))), (3, .int (nI i))] → W p l e ({ frames := 1, cells := 0, slots := 0, locals := 23 } : Room) s m args below meth c H locs 0 0 (MQ below (va_Qi ((fun (r : Int32) (h1 : mH) => h1 = hh ∧ r = bI (huM μ g9 (kN μ 24 0)))) (mB D hh s.heap.size) (mA hh s.heap.size)) args s 0 0 (mA hh s.heap.size)) (F0 m 4 ls []) := by
    intro fu
    induction fu with
    | zero =>
      intro i hi hfu
      exact absurd hfu (Nat.not_lt_zero _)
    | succ fu ih4 =>
      intro i hi hfu H locs hV hS ls hl
      refine lv_iload_n hx hb dX5_hasUnder_4 rfl (lv_at hl 3 rfl) ?_
      refine lv_aload_n hx hb dX5_hasUnder_5 rfl (lv_at hl 0 rfl) ?_
      refine m_get (C := RX5) (T := TX5) (N := 34) hx hb hts hi_X5 hown hK hV 24 (v := .int (nI (kN μ 24 0))) (by have z9 := g_m24 hM; exact z9) rfl (by decide) k117 (fun _ h9 => h9) dX5_hasUnder_6 ?_
      refine lv_icmp_ge (tgt := 51) hx hb dX5_hasUnder_9 (by decide) (fun c9 => ?_) (fun c9 => ?_)
      · replace c9 : kN μ 24 0 ≤ i := (nI_leI (a := kN μ 24 0) (b := i) (by omega) (by omega)).mp c9
        refine lv_iload_n hx hb dX5_hasUnder_51 rfl (lv_at hl 2 rfl) ?_
        exact m_zret (v := bI (huM μ g9 i)) hx hb hr hlocks (bI_narrow _) hV hS (⟨rfl, by rw [show i = kN μ 24 0 by omega]⟩) dX5_hasUnder_52
      · replace c9 : ¬ kN μ 24 0 ≤ i := fun q9 => c9 ((nI_leI (a := kN μ 24 0) (b := i) (by omega) (by omega)).mpr q9)
        refine lv_iload_n hx hb dX5_hasUnder_12 rfl (lv_at hl 2 rfl) ?_
        refine lv_if_ne (tgt := 39) hx hb dX5_hasUnder_13 (by decide) (fun c13 => ?_) (fun c13 => ?_)
        · replace c13 : (huM μ g9 i) = true := bI_1.mp c13
          refine lv_iconst (v := 1) hx hb dX5_hasUnder_39 (by decide) ?_
          refine lv_goto (tgt := 44) hx hb dX5_hasUnder_40 (by decide) ?_
          refine lv_istore_n (lv' := [(2, .int 1), (0, .ref (B 100)), (1, .int (nI g9)), (3, .int (nI i))]) hx hb dX5_hasUnder_44 rfl hl (by decide) rfl (fun ls hl => ?_)
          refine lv_iinc (v := nI (i + 1)) (lv' := [(3, .int (nI (i + 1))), (2, .int 1), (0, .ref (B 100)), (1, .int (nI g9))]) hx hb dX5_hasUnder_45 hl (k := 3) rfl (show nI i + Int32.ofInt 1 = _ from nI_add i 1) (by decide) rfl (fun ls hl => ?_)
          refine lv_goto (tgt := 4) hx hb dX5_hasUnder_48 (by decide) ?_
          have q1 : 1 = bI (huM μ g9 (i + 1)) := (by rw [huM, c13]; rfl)
          replace hl : lv_has ls 4 [(3, .int (nI (i + 1))), (2, .int (bI (huM μ g9 (i + 1)))), (0, .ref (B 100)), (1, .int (nI g9))] := (congrArg (lv_has ls 4) (m_lc rfl (m_lc (congrArg Value.int q1) (m_lc rfl (m_lc rfl rfl))))).mp hl
          exact ih4 (i + 1) (by omega) (by omega) _ _ hV hS ls (lv_sub hl [2, 3, 1, 0] rfl)
        · replace c13 : (huM μ g9 i) = false := bI_0.mp c13
          refine lv_aload_n hx hb dX5_hasUnder_16 rfl (lv_at hl 0 rfl) ?_
          refine m_get (C := RX5) (T := TX5) (N := 34) hx hb hts hi_X5 hown hK hV 32 (v := .ref (B 32)) (g_m32 hM) rfl (by decide) k88 (fun _ h9 => h9) dX5_hasUnder_17 ?_
          refine lv_iload_n hx hb dX5_hasUnder_20 rfl (lv_at hl 3 rfl) ?_
          refine m_zald hx hb hK hV 2 (i := nI i) (x := bI (kB μ 32 i)) (a_m32 hM) rfl (vp_in_nI (by omega) (by omega)) (by rw [nI_clamp (by omega)] <;> first | rfl | (show oI (va_up _ _ _ _) = _; rw [vu_s] <;> rfl) | (show va_up _ _ _ _ = _; rw [vu_s] <;> rfl)) dX5_hasUnder_21 ?_
          refine lv_if_eq (tgt := 43) hx hb dX5_hasUnder_22 (by decide) (fun c22 => ?_) (fun c22 => ?_)
          · replace c22 : kB μ 32 i = false := bI_0.mp c22
            refine lv_iconst (v := 0) hx hb dX5_hasUnder_43 (by decide) ?_
            refine lv_istore_n (lv' := [(2, .int 0), (0, .ref (B 100)), (1, .int (nI g9)), (3, .int (nI i))]) hx hb dX5_hasUnder_44 rfl hl (by decide) rfl (fun ls hl => ?_)
            refine lv_iinc (v := nI (i + 1)) (lv' := [(3, .int (nI (i + 1))), (2, .int 0), (0, .ref (B 100)), (1, .int (nI g9))]) hx hb dX5_hasUnder_45 hl (k := 3) rfl (show nI i + Int32.ofInt 1 = _ from nI_add i 1) (by decide) rfl (fun ls hl => ?_)
            refine lv_goto (tgt := 4) hx hb dX5_hasUnder_48 (by decide) ?_
            have q2 : 0 = bI (huM μ g9 (i + 1)) := (by rw [huM, c13, c22]; rfl)
            replace hl : lv_has ls 4 [(3, .int (nI (i + 1))), (2, .int (bI (huM μ g9 (i + 1)))), (0, .ref (B 100)), (1, .int (nI g9))] := (congrArg (lv_has ls 4) (m_lc rfl (m_lc (congrArg Value.int q2) (m_lc rfl (m_lc rfl rfl))))).mp hl
            exact ih4 (i + 1) (by omega) (by omega) _ _ hV hS ls (lv_sub hl [2, 3, 1, 0] rfl)
          · replace c22 : kB μ 32 i = true := bI_1.mp c22
            refine lv_aload_n hx hb dX5_hasUnder_25 rfl (lv_at hl 0 rfl) ?_
            refine lv_aload_n hx hb dX5_hasUnder_26 rfl (lv_at hl 0 rfl) ?_
            refine m_get (C := RX5) (T := TX5) (N := 34) hx hb hts hi_X5 hown hK hV 10 (v := .ref (B 10)) (g_m10 hM) rfl (by decide) k36 (fun _ h9 => h9) dX5_hasUnder_27 ?_
            refine lv_iload_n hx hb dX5_hasUnder_30 rfl (lv_at hl 3 rfl) ?_
            refine m_iald hx hb hK hV 0 (i := nI i) (x := nI (kN μ 10 i)) (a_m10 hM) rfl (vp_in_nI (by omega) (by omega)) (by rw [nI_clamp (by omega)] <;> first | rfl | (show oI (va_up _ _ _ _) = _; rw [vu_s] <;> rfl) | (show va_up _ _ _ _ = _; rw [vu_s] <;> rfl)) dX5_hasUnder_31 ?_
            refine lv_iload_n hx hb dX5_hasUnder_32 rfl (lv_at hl 1 rfl) ?_
            refine m_calli (va_runV (As := [.int (nI (kN μ 10 i)), .int (nI g9)]) (rest := []) ⟨hx, hb, hml, hown, hts⟩ (c_X5_isUnder (l := l) (H.size) hM (kN μ 10 i) g9 (y5 i (by omega)) (by omega)) (cwV 2 hts gX5_hasUnder_X5_isUnder rfl rfl rfl (by decide +kernel) ⟨by decide, by decide⟩) (m_preV (r := (RX5, TX5, 34)) hE hV hS hA (hM.at 100 (by decide)) rfl) rfl rfl hl.1 rfl (lv_room (by first | exact Nat.le_of_ble_eq_true rfl | simp [rf_cat, ct_ref, ct_int, ct_null, ct_long])) dX5_hasUnder_33 ⟨by decide, by decide⟩) hV hS hA (fun r h1 H locs hV hS hp _ => ?_)
            obtain ⟨e1, e2⟩ := hp
            subst e2
            rw [e1] at hV; clear e1
            refine lv_if_eq (tgt := 43) hx hb dX5_hasUnder_36 (by decide) (fun c36 => ?_) (fun c36 => ?_)
            · replace c36 : (iuM μ g9 6 (kN μ 10 i)) = false := bI_0.mp c36
              refine lv_iconst (v := 0) hx hb dX5_hasUnder_43 (by decide) ?_
              refine lv_istore_n (lv' := [(2, .int 0), (0, .ref (B 100)), (1, .int (nI g9)), (3, .int (nI i))]) hx hb dX5_hasUnder_44 rfl hl (by decide) rfl (fun ls hl => ?_)
              refine lv_iinc (v := nI (i + 1)) (lv' := [(3, .int (nI (i + 1))), (2, .int 0), (0, .ref (B 100)), (1, .int (nI g9))]) hx hb dX5_hasUnder_45 hl (k := 3) rfl (show nI i + Int32.ofInt 1 = _ from nI_add i 1) (by decide) rfl (fun ls hl => ?_)
              refine lv_goto (tgt := 4) hx hb dX5_hasUnder_48 (by decide) ?_
              have q3 : 0 = bI (huM μ g9 (i + 1)) := (by rw [huM, c13, c22, c36]; rfl)
              replace hl : lv_has ls 4 [(3, .int (nI (i + 1))), (2, .int (bI (huM μ g9 (i + 1)))), (0, .ref (B 100)), (1, .int (nI g9))] := (congrArg (lv_has ls 4) (m_lc rfl (m_lc (congrArg Value.int q3) (m_lc rfl (m_lc rfl rfl))))).mp hl
              exact ih4 (i + 1) (by omega) (by omega) _ _ hV hS ls (lv_sub hl [2, 3, 1, 0] rfl)
            · replace c36 : (iuM μ g9 6 (kN μ 10 i)) = true := bI_1.mp c36
              refine lv_iconst (v := 1) hx hb dX5_hasUnder_39 (by decide) ?_
              refine lv_goto (tgt := 44) hx hb dX5_hasUnder_40 (by decide) ?_
              refine lv_istore_n (lv' := [(2, .int 1), (0, .ref (B 100)), (1, .int (nI g9)), (3, .int (nI i))]) hx hb dX5_hasUnder_44 rfl hl (by decide) rfl (fun ls hl => ?_)
              refine lv_iinc (v := nI (i + 1)) (lv' := [(3, .int (nI (i + 1))), (2, .int 1), (0, .ref (B 100)), (1, .int (nI g9))]) hx hb dX5_hasUnder_45 hl (k := 3) rfl (show nI i + Int32.ofInt 1 = _ from nI_add i 1) (by decide) rfl (fun ls hl => ?_)
              refine lv_goto (tgt := 4) hx hb dX5_hasUnder_48 (by decide) ?_
              have q4 : 1 = bI (huM μ g9 (i + 1)) := (by rw [huM, c13, c22, c36]; rfl)
              replace hl : lv_has ls 4 [(3, .int (nI (i + 1))), (2, .int (bI (huM μ g9 (i + 1)))), (0, .ref (B 100)), (1, .int (nI g9))] := (congrArg (lv_has ls 4) (m_lc rfl (m_lc (congrArg Value.int q4) (m_lc rfl (m_lc rfl rfl))))).mp hl
              exact ih4 (i + 1) (by omega) (by omega) _ _ hV hS ls (lv_sub hl [2, 3, 1, 0] rfl)
  have q5 : 0 = bI (huM μ g9 0) := rfl
  have q6 : 0 = nI 0 := rfl
  replace hl : lv_has ls 4 [(3, .int (nI 0)), (2, .int (bI (huM μ g9 0))), (0, .ref (B 100)), (1, .int (nI g9))] := (congrArg (lv_has ls 4) (m_lc (congrArg Value.int q6) (m_lc (congrArg Value.int q5) (m_lc rfl (m_lc rfl rfl))))).mp hl
  exact lp4 ((kN μ 24 0 - 0) + 1) 0 (Nat.zero_le _) (Nat.lt_succ_self _) _ _ hV hS ls (lv_sub hl [2, 3, 1, 0] rfl)
set_option maxHeartbeats 4000000 in
set_option maxRecDepth 100000 in
theorem c_X5_down_1 {l : Launch} {D : va_G} {cs : mC} {df : Nat} {P : Nat → Prop} {h0 : mH} {B : Nat → Nat} {μ : KS} {hh : mH} (sz : Nat) (hM : DRep cs P h0 B μ hh) (p9 : Nat) (hp9 : p9 < kN μ 9 0) (hd : kN μ 9 0 ≤ p9 + 1) : Met l yX5_down wsX5_down ({ frames := 2, cells := 0, slots := 0, locals := 46 }) (mPre [.ref (B 100), .int (nI p9)] D cs df hh sz) (va_Qi ((fun (r : Int32) (h1 : mH) => h1 = hh ∧ r = oI (dnM μ 1 p9))) (mB D hh sz) (mA hh sz)) 0 0 (mA hh sz) := by
  refine Met.ofW (cc := cX5_down) (maxL := 6) (ret := (some .int)) (by decide) rfl ?_
  intro p e s m args below meth c s₁ B0 hml hv
  obtain ⟨hargs, hsz, hV, hE⟩ := hv
  subst hsz
  have hx := B0.exec
  have hb := B0.bytes
  have hr := B0.returns
  have hlocks := B0.notSynchronized
  have hts := atoms_spec (ws := wsX5_down) B0.pre
  have hown : s.vm.findClass RX5 = some m.cls := findClass_of_methodNamed B0.named
  have hK := hE.1.1
  have hA : ∀ q : Nat, s.heap.size ≤ q → mA hh s.heap.size q := mA.top
  have hS : va_S (mA hh s.heap.size) s.heap s.heap [] := va_S.rf
  have kk115 : (Cond.constantLong RX5 115 (-1)).before args s = true := hts _ (by decide +kernel)
  have hi_X5 : ∀ w ∈ u_ws RX5 TX5 34, w ∈ wsX5_down := by decide +kernel
  have k33 : (Cond.fieldLink RX5 33 "TaskKernelModel" "groups" "I").before args s = true := hts _ (by decide +kernel)
  have k117 : (Cond.fieldLink RX5 117 "TaskKernelModel" "tasks" "I").before args s = true := hts _ (by decide +kernel)
  have k88 : (Cond.fieldLink RX5 88 "TaskKernelModel" "isIn" "[Z").before args s = true := hts _ (by decide +kernel)
  have k36 : (Cond.fieldLink RX5 36 "TaskKernelModel" "groupOf" "[I").before args s = true := hts _ (by decide +kernel)
  have k42 : (Cond.fieldLink RX5 42 "TaskKernelModel" "times" "[J").before args s = true := hts _ (by decide +kernel)
  have k23 : (Cond.fieldLink RX5 23 "TaskKernelModel" "parents" "[I").before args s = true := hts _ (by decide +kernel)
  have k29 : (Cond.fieldLink RX5 29 "TaskKernelModel" "groupTimes" "[J").before args s = true := hts _ (by decide +kernel)
  have hl := lv_entry ([.ref (B 100), .int (nI p9)]) (n := 6) (by first | exact Nat.le_of_ble_eq_true rfl | simp [lg_sl, rf_cat, ct_ref, ct_int, ct_null, ct_long])
  have hent := lg_entry_eq m ([.ref (B 100), .int (nI p9)]) 6
  rw [← hargs] at hent
  rw [hent]
  generalize (lg_sl ([.ref (B 100), .int (nI p9)]) ++ List.replicate (6 - (lg_sl ([.ref (B 100), .int (nI p9)])).length) Slot.unset).toArray = ls at hl ⊢
  replace hl : lv_has ls 6 [(0, .ref (B 100)), (1, .int (nI p9))] := hl
  have hwf := hM.wf
  obtain ⟨⟨y0, y1, y2, y3⟩, y4, y5, y6, y7⟩ := hwf
  refine lv_ldc2 (v := (-1)) hx hb hown kk115 dX5_down_0 ?_
  refine lv_lstore_n (lv' := [(2, .long (-1)), (0, .ref (B 100)), (1, .int (nI p9))]) hx hb dX5_down_3 rfl hl (by decide) rfl (fun ls hl => ?_)
  refine lv_iconst (v := (-1)) hx hb dX5_down_4 (by decide) ?_
  refine lv_istore (lv' := [(4, .int (-1)), (2, .long (-1)), (0, .ref (B 100)), (1, .int (nI p9))]) hx hb dX5_down_5 hl (by decide) rfl (fun ls hl => ?_)
  refine lv_iconst (v := 1) hx hb dX5_down_7 (by decide) ?_
  refine lv_istore (lv' := [(5, .int 1), (4, .int (-1)), (2, .long (-1)), (0, .ref (B 100)), (1, .int (nI p9))]) hx hb dX5_down_8 hl (by decide) rfl (fun ls hl => ?_)
  have lp10 : ∀ (fu : Nat) (j : Nat), (j + 1 ≤ kN μ 9 0) → kN μ 9 0 - j < fu → ∀ (H : Heap) (locs : List Loc), mV D hh (mA hh s.heap.size) H → va_S (mA hh s.heap.size) s.heap H locs → ∀ (ls : Array Slot), lv_has ls 6 [(0, .ref (B 100)), (1, .int (nI p9)), (2, .long ((dnG μ p9 j).1)), (4, .int (oI ((dnG μ p9 j).2))), (5, .int (nI (j + 1)))] → W p l e ({ frames := 2, cells := 0, slots := 0, locals := 46 } : Room) s m args below meth c H locs 0 0 (MQ below (va_Qi ((fun (r : Int32) (h1 : mH) => h1 = hh ∧ r = oI (dnM μ 1 p9))) (mB D hh s.heap.size) (mA hh s.heap.size)) args s 0 0 (mA hh s.heap.size)) (F0 m 10 ls []) := by
    intro fu
    induction fu with
    | zero =>
      intro j hj hfu
      exact absurd hfu (Nat.not_lt_zero _)
    | succ fu ih10 =>
      intro j hj hfu H locs hV hS ls hl
      refine lv_iload hx hb dX5_down_10 (lv_at hl 4 rfl) ?_
      refine lv_aload_n hx hb dX5_down_12 rfl (lv_at hl 0 rfl) ?_
      refine m_get (C := RX5) (T := TX5) (N := 34) hx hb hts hi_X5 hown hK hV 9 (v := .int (nI (kN μ 9 0))) (by have z9 := g_m9 hM; exact z9) rfl (by decide) k33 (fun _ h9 => h9) dX5_down_13 ?_
      refine lv_icmp_ge (tgt := 78) hx hb dX5_down_16 (by decide) (fun c16 => ?_) (fun c16 => ?_)
      · replace c16 : kN μ 9 0 ≤ (j + 1) := (nI_leI (a := kN μ 9 0) (b := (j + 1)) (by omega) (by omega)).mp c16
        refine lv_iconst (v := 0) hx hb dX5_down_78 (by decide) ?_
        refine lv_istore (lv' := [(5, .int 0), (0, .ref (B 100)), (1, .int (nI p9)), (2, .long ((dnG μ p9 j).1)), (4, .int (oI ((dnG μ p9 j).2)))]) hx hb dX5_down_79 hl (by decide) rfl (fun ls hl => ?_)
        have lp81 : ∀ (fu : Nat) (i : Nat), (i ≤ kN μ 24 0) → kN μ 24 0 - i < fu → ∀ (H : Heap) (locs : List Loc), mV D hh (mA hh s.heap.size) H → va_S (mA hh s.heap.size) s.heap H locs → ∀ (ls : Array Slot), lv_has ls 6 [(0, .ref (B 100)), (1, .int (nI p9)), (2, .long ((dnT μ p9 i).1)), (4, .int (oI ((dnT μ p9 i).2))), (5, .int (nI i))] → W p l e ({ frames := 2, cells := 0, slots := 0, locals := 46 } : Room) s m args below meth c H locs 0 0 (MQ below (va_Qi ((fun (r : Int32) (h1 : mH) => h1 = hh ∧ r = oI (dnM μ 1 p9))) (mB D hh s.heap.size) (mA hh s.heap.size)) args s 0 0 (mA hh s.heap.size)) (F0 m 81 ls []) := by
          intro fu
          induction fu with
          | zero =>
            intro i hi hfu
            exact absurd hfu (Nat.not_lt_zero _)
          | succ fu ih81 =>
            intro i hi hfu H locs hV hS ls hl
            refine lv_iload hx hb dX5_down_81 (lv_at hl 4 rfl) ?_
            refine lv_aload_n hx hb dX5_down_83 rfl (lv_at hl 0 rfl) ?_
            refine m_get (C := RX5) (T := TX5) (N := 34) hx hb hts hi_X5 hown hK hV 24 (v := .int (nI (kN μ 24 0))) (by have z9 := g_m24 hM; exact z9) rfl (by decide) k117 (fun _ h9 => h9) dX5_down_84 ?_
            refine lv_icmp_ge (tgt := 147) hx hb dX5_down_87 (by decide) (fun c87 => ?_) (fun c87 => ?_)
            · replace c87 : kN μ 24 0 ≤ i := (nI_leI (a := kN μ 24 0) (b := i) (by omega) (by omega)).mp c87
              rw [show i = kN μ 24 0 by omega] at hl
              replace hl : lv_has ls 6 [(0, .ref (B 100)), (1, .int (nI p9)), (4, .int (oI (dnE μ p9)))] := lv_sub hl [0, 1, 3] rfl
              rcases e9 : dnE μ p9 with _ | mb
              · replace hl : lv_has ls 6 [(0, .ref (B 100)), (1, .int (nI p9)), (4, .int (-1))] := by have h9 := hl; rw [e9] at h9; exact h9
                refine lv_iload hx hb dX5_down_147 (lv_at hl 2 rfl) ?_
                refine lv_bipush (v := 100) hx hb dX5_down_149 (by decide) ?_
                refine lv_icmp_lt (tgt := 166) hx hb dX5_down_151 (by decide) (fun c151 => ?_) (fun c151 => (absurd (by decide) c151))
                refine lv_iload hx hb dX5_down_166 (lv_at hl 2 rfl) ?_
                exact m_iret (v := (-1)) hx hb hr hlocks hV hS (⟨rfl, by (conv => rhs; rw [dnM, e9]); try rfl⟩) dX5_down_168
              · replace hl : lv_has ls 6 [(0, .ref (B 100)), (1, .int (nI p9)), (4, .int (nI mb))] := by have h9 := hl; rw [e9] at h9; exact h9
                have bm := dnT_lt y1 e9
                refine lv_iload hx hb dX5_down_147 (lv_at hl 2 rfl) ?_
                refine lv_bipush (v := 100) hx hb dX5_down_149 (by decide) ?_
                refine lv_icmp_lt (tgt := 166) hx hb dX5_down_151 (by decide) (fun c151 => ?_) (fun c151 => ?_)
                · replace c151 : mb < 100 := (nI_ltI (a := mb) (b := 100) (by omega) (by omega)).mp c151
                  refine lv_iload hx hb dX5_down_166 (lv_at hl 2 rfl) ?_
                  exact m_iret (v := nI mb) hx hb hr hlocks hV hS (⟨rfl, by (conv => rhs; rw [dnM, e9]; dsimp only; rw [if_neg (by omega)]); try rfl⟩) dX5_down_168
                · replace c151 : ¬ mb < 100 := fun q9 => c151 ((nI_ltI (a := mb) (b := 100) (by omega) (by omega)).mpr q9)
                  exact absurd (y4 (mb - 100) (by omega) (by omega)) (by omega)
            · replace c87 : ¬ kN μ 24 0 ≤ i := fun q9 => c87 ((nI_leI (a := kN μ 24 0) (b := i) (by omega) (by omega)).mpr q9)
              refine lv_aload_n hx hb dX5_down_90 rfl (lv_at hl 0 rfl) ?_
              refine m_get (C := RX5) (T := TX5) (N := 34) hx hb hts hi_X5 hown hK hV 32 (v := .ref (B 32)) (g_m32 hM) rfl (by decide) k88 (fun _ h9 => h9) dX5_down_91 ?_
              refine lv_iload hx hb dX5_down_94 (lv_at hl 4 rfl) ?_
              refine m_zald hx hb hK hV 2 (i := nI i) (x := bI (kB μ 32 i)) (a_m32 hM) rfl (vp_in_nI (by omega) (by omega)) (by rw [nI_clamp (by omega)] <;> first | rfl | (show oI (va_up _ _ _ _) = _; rw [vu_s] <;> rfl) | (show va_up _ _ _ _ = _; rw [vu_s] <;> rfl)) dX5_down_96 ?_
              refine lv_if_eq (tgt := 141) hx hb dX5_down_97 (by decide) (fun c97 => ?_) (fun c97 => ?_)
              · replace c97 : kB μ 32 i = false := bI_0.mp c97
                refine lv_iinc (v := nI (i + 1)) (lv' := [(5, .int (nI (i + 1))), (0, .ref (B 100)), (1, .int (nI p9)), (2, .long ((dnT μ p9 i).1)), (4, .int (oI ((dnT μ p9 i).2)))]) hx hb dX5_down_141 hl (k := 4) rfl (show nI i + Int32.ofInt 1 = _ from nI_add i 1) (by decide) rfl (fun ls hl => ?_)
                refine lv_goto (tgt := 81) hx hb dX5_down_144 (by decide) ?_
                have q1 : ((dnT μ p9 i).1) = ((dnT μ p9 (i + 1)).1) := (by rw [dnT, if_neg (fun q => absurd q.1 (by rw [c97]; decide))])
                have q2 : oI ((dnT μ p9 i).2) = oI ((dnT μ p9 (i + 1)).2) := (by rw [dnT, if_neg (fun q => absurd q.1 (by rw [c97]; decide))])
                replace hl : lv_has ls 6 [(5, .int (nI (i + 1))), (0, .ref (B 100)), (1, .int (nI p9)), (2, .long ((dnT μ p9 (i + 1)).1)), (4, .int (oI ((dnT μ p9 (i + 1)).2)))] := (congrArg (lv_has ls 6) (m_lc rfl (m_lc rfl (m_lc rfl (m_lc (congrArg Value.long q1) (m_lc (congrArg Value.int q2) rfl)))))).mp hl
                exact ih81 (i + 1) (by omega) (by omega) _ _ hV hS ls (lv_sub hl [1, 2, 3, 4, 0] rfl)
              · replace c97 : kB μ 32 i = true := bI_1.mp c97
                refine lv_aload_n hx hb dX5_down_100 rfl (lv_at hl 0 rfl) ?_
                refine m_get (C := RX5) (T := TX5) (N := 34) hx hb hts hi_X5 hown hK hV 10 (v := .ref (B 10)) (g_m10 hM) rfl (by decide) k36 (fun _ h9 => h9) dX5_down_101 ?_
                refine lv_iload hx hb dX5_down_104 (lv_at hl 4 rfl) ?_
                refine m_iald hx hb hK hV 0 (i := nI i) (x := nI (kN μ 10 i)) (a_m10 hM) rfl (vp_in_nI (by omega) (by omega)) (by rw [nI_clamp (by omega)] <;> first | rfl | (show oI (va_up _ _ _ _) = _; rw [vu_s] <;> rfl) | (show va_up _ _ _ _ = _; rw [vu_s] <;> rfl)) dX5_down_106 ?_
                refine lv_iload_n hx hb dX5_down_107 rfl (lv_at hl 1 rfl) ?_
                have b108 := y5 i (by omega)
                refine lv_icmp_ne (tgt := 141) hx hb dX5_down_108 (by decide) (fun c108 => ?_) (fun c108 => ?_)
                · replace c108 : ¬ kN μ 10 i = p9 := fun q9 => c108 ((nI_eq (a := kN μ 10 i) (b := p9) (by omega) (by omega)).mpr q9)
                  refine lv_iinc (v := nI (i + 1)) (lv' := [(5, .int (nI (i + 1))), (0, .ref (B 100)), (1, .int (nI p9)), (2, .long ((dnT μ p9 i).1)), (4, .int (oI ((dnT μ p9 i).2)))]) hx hb dX5_down_141 hl (k := 4) rfl (show nI i + Int32.ofInt 1 = _ from nI_add i 1) (by decide) rfl (fun ls hl => ?_)
                  refine lv_goto (tgt := 81) hx hb dX5_down_144 (by decide) ?_
                  have q3 : ((dnT μ p9 i).1) = ((dnT μ p9 (i + 1)).1) := (by rw [dnT, if_neg (fun q => c108 q.2.1)])
                  have q4 : oI ((dnT μ p9 i).2) = oI ((dnT μ p9 (i + 1)).2) := (by rw [dnT, if_neg (fun q => c108 q.2.1)])
                  replace hl : lv_has ls 6 [(5, .int (nI (i + 1))), (0, .ref (B 100)), (1, .int (nI p9)), (2, .long ((dnT μ p9 (i + 1)).1)), (4, .int (oI ((dnT μ p9 (i + 1)).2)))] := (congrArg (lv_has ls 6) (m_lc rfl (m_lc rfl (m_lc rfl (m_lc (congrArg Value.long q3) (m_lc (congrArg Value.int q4) rfl)))))).mp hl
                  exact ih81 (i + 1) (by omega) (by omega) _ _ hV hS ls (lv_sub hl [1, 2, 3, 4, 0] rfl)
                · replace c108 : kN μ 10 i = p9 := (nI_eq (a := kN μ 10 i) (b := p9) (by omega) (by omega)).mp c108
                  refine lv_lload_n hx hb dX5_down_111 rfl (lv_at hl 2 rfl) ?_
                  refine lv_lconst (v := 0) hx hb dX5_down_112 (by decide) ?_
                  refine m_lcmp_lt (tgt := 129) hx hb dX5_down_113 dX5_down_114 (by decide) (fun c114 => ?_) (fun c114 => ?_)
                  · refine lv_aload_n hx hb dX5_down_129 rfl (lv_at hl 0 rfl) ?_
                    refine m_get (C := RX5) (T := TX5) (N := 34) hx hb hts hi_X5 hown hK hV 12 (v := .ref (B 12)) (g_m12 hM) rfl (by decide) k42 (fun _ h9 => h9) dX5_down_130 ?_
                    refine lv_iload hx hb dX5_down_133 (lv_at hl 4 rfl) ?_
                    refine m_lald hx hb hK hV 1 (i := nI i) (x := (kW μ 12 i)) (a_m12 hM) rfl (vp_in_nI (by omega) (by omega)) (by rw [nI_clamp (by omega)] <;> first | rfl | (show oI (va_up _ _ _ _) = _; rw [vu_s] <;> rfl) | (show va_up _ _ _ _ = _; rw [vu_s] <;> rfl)) dX5_down_135 ?_
                    refine lv_lstore_n (lv' := [(2, .long (kW μ 12 i)), (0, .ref (B 100)), (1, .int (nI p9)), (4, .int (oI ((dnT μ p9 i).2))), (5, .int (nI i))]) hx hb dX5_down_136 rfl hl (by decide) rfl (fun ls hl => ?_)
                    refine lv_iload hx hb dX5_down_137 (lv_at hl 4 rfl) ?_
                    refine lv_istore (lv' := [(4, .int (nI i)), (2, .long (kW μ 12 i)), (0, .ref (B 100)), (1, .int (nI p9)), (5, .int (nI i))]) hx hb dX5_down_139 hl (by decide) rfl (fun ls hl => ?_)
                    refine lv_iinc (v := nI (i + 1)) (lv' := [(5, .int (nI (i + 1))), (4, .int (nI i)), (2, .long (kW μ 12 i)), (0, .ref (B 100)), (1, .int (nI p9))]) hx hb dX5_down_141 hl (k := 4) rfl (show nI i + Int32.ofInt 1 = _ from nI_add i 1) (by decide) rfl (fun ls hl => ?_)
                    refine lv_goto (tgt := 81) hx hb dX5_down_144 (by decide) ?_
                    have q5 : (kW μ 12 i) = ((dnT μ p9 (i + 1)).1) := (by rw [dnT, if_pos ⟨c97, c108, Or.inl c114⟩])
                    have q6 : nI i = oI ((dnT μ p9 (i + 1)).2) := (by rw [dnT, if_pos ⟨c97, c108, Or.inl c114⟩]; rfl)
                    replace hl : lv_has ls 6 [(5, .int (nI (i + 1))), (4, .int (oI ((dnT μ p9 (i + 1)).2))), (2, .long ((dnT μ p9 (i + 1)).1)), (0, .ref (B 100)), (1, .int (nI p9))] := (congrArg (lv_has ls 6) (m_lc rfl (m_lc (congrArg Value.int q6) (m_lc (congrArg Value.long q5) (m_lc rfl (m_lc rfl rfl)))))).mp hl
                    exact ih81 (i + 1) (by omega) (by omega) _ _ hV hS ls (lv_sub hl [3, 4, 2, 1, 0] rfl)
                  · refine lv_aload_n hx hb dX5_down_117 rfl (lv_at hl 0 rfl) ?_
                    refine m_get (C := RX5) (T := TX5) (N := 34) hx hb hts hi_X5 hown hK hV 12 (v := .ref (B 12)) (g_m12 hM) rfl (by decide) k42 (fun _ h9 => h9) dX5_down_118 ?_
                    refine lv_iload hx hb dX5_down_121 (lv_at hl 4 rfl) ?_
                    refine m_lald hx hb hK hV 1 (i := nI i) (x := (kW μ 12 i)) (a_m12 hM) rfl (vp_in_nI (by omega) (by omega)) (by rw [nI_clamp (by omega)] <;> first | rfl | (show oI (va_up _ _ _ _) = _; rw [vu_s] <;> rfl) | (show va_up _ _ _ _ = _; rw [vu_s] <;> rfl)) dX5_down_123 ?_
                    refine lv_lload_n hx hb dX5_down_124 rfl (lv_at hl 2 rfl) ?_
                    refine m_lcmp_ge (tgt := 141) hx hb dX5_down_125 dX5_down_126 (by decide) (fun c126 => ?_) (fun c126 => ?_)
                    · refine lv_iinc (v := nI (i + 1)) (lv' := [(5, .int (nI (i + 1))), (0, .ref (B 100)), (1, .int (nI p9)), (2, .long ((dnT μ p9 i).1)), (4, .int (oI ((dnT μ p9 i).2)))]) hx hb dX5_down_141 hl (k := 4) rfl (show nI i + Int32.ofInt 1 = _ from nI_add i 1) (by decide) rfl (fun ls hl => ?_)
                      refine lv_goto (tgt := 81) hx hb dX5_down_144 (by decide) ?_
                      have q7 : ((dnT μ p9 i).1) = ((dnT μ p9 (i + 1)).1) := (by rw [dnT, if_neg (fun q => q.2.2.elim c114 (Int64.not_lt.mpr c126))])
                      have q8 : oI ((dnT μ p9 i).2) = oI ((dnT μ p9 (i + 1)).2) := (by rw [dnT, if_neg (fun q => q.2.2.elim c114 (Int64.not_lt.mpr c126))])
                      replace hl : lv_has ls 6 [(5, .int (nI (i + 1))), (0, .ref (B 100)), (1, .int (nI p9)), (2, .long ((dnT μ p9 (i + 1)).1)), (4, .int (oI ((dnT μ p9 (i + 1)).2)))] := (congrArg (lv_has ls 6) (m_lc rfl (m_lc rfl (m_lc rfl (m_lc (congrArg Value.long q7) (m_lc (congrArg Value.int q8) rfl)))))).mp hl
                      exact ih81 (i + 1) (by omega) (by omega) _ _ hV hS ls (lv_sub hl [1, 2, 3, 4, 0] rfl)
                    · refine lv_aload_n hx hb dX5_down_129 rfl (lv_at hl 0 rfl) ?_
                      refine m_get (C := RX5) (T := TX5) (N := 34) hx hb hts hi_X5 hown hK hV 12 (v := .ref (B 12)) (g_m12 hM) rfl (by decide) k42 (fun _ h9 => h9) dX5_down_130 ?_
                      refine lv_iload hx hb dX5_down_133 (lv_at hl 4 rfl) ?_
                      refine m_lald hx hb hK hV 1 (i := nI i) (x := (kW μ 12 i)) (a_m12 hM) rfl (vp_in_nI (by omega) (by omega)) (by rw [nI_clamp (by omega)] <;> first | rfl | (show oI (va_up _ _ _ _) = _; rw [vu_s] <;> rfl) | (show va_up _ _ _ _ = _; rw [vu_s] <;> rfl)) dX5_down_135 ?_
                      refine lv_lstore_n (lv' := [(2, .long (kW μ 12 i)), (0, .ref (B 100)), (1, .int (nI p9)), (4, .int (oI ((dnT μ p9 i).2))), (5, .int (nI i))]) hx hb dX5_down_136 rfl hl (by decide) rfl (fun ls hl => ?_)
                      refine lv_iload hx hb dX5_down_137 (lv_at hl 4 rfl) ?_
                      refine lv_istore (lv' := [(4, .int (nI i)), (2, .long (kW μ 12 i)), (0, .ref (B 100)), (1, .int (nI p9)), (5, .int (nI i))]) hx hb dX5_down_139 hl (by decide) rfl (fun ls hl => ?_)
                      refine lv_iinc (v := nI (i + 1)) (lv' := [(5, .int (nI (i + 1))), (4, .int (nI i)), (2, .long (kW μ 12 i)), (0, .ref (B 100)), (1, .int (nI p9))]) hx hb dX5_down_141 hl (k := 4) rfl (show nI i + Int32.ofInt 1 = _ from nI_add i 1) (by decide) rfl (fun ls hl => ?_)
                      refine lv_goto (tgt := 81) hx hb dX5_down_144 (by decide) ?_
                      have q9 : (kW μ 12 i) = ((dnT μ p9 (i + 1)).1) := (by rw [dnT, if_pos ⟨c97, c108, Or.inr (Int64.not_le.mp c126)⟩])
                      have q10 : nI i = oI ((dnT μ p9 (i + 1)).2) := (by rw [dnT, if_pos ⟨c97, c108, Or.inr (Int64.not_le.mp c126)⟩]; rfl)
                      replace hl : lv_has ls 6 [(5, .int (nI (i + 1))), (4, .int (oI ((dnT μ p9 (i + 1)).2))), (2, .long ((dnT μ p9 (i + 1)).1)), (0, .ref (B 100)), (1, .int (nI p9))] := (congrArg (lv_has ls 6) (m_lc rfl (m_lc (congrArg Value.int q10) (m_lc (congrArg Value.long q9) (m_lc rfl (m_lc rfl rfl)))))).mp hl
                      exact ih81 (i + 1) (by omega) (by omega) _ _ hV hS ls (lv_sub hl [3, 4, 2, 1, 0] rfl)
        have q11 : ((dnG μ p9 j).1) = ((dnT μ p9 0).1) := (by rw [show j = kN μ 9 0 - 1 by omega]; rfl)
        have q12 : oI ((dnG μ p9 j).2) = oI ((dnT μ p9 0).2) := (by rw [show j = kN μ 9 0 - 1 by omega]; rfl)
        have q13 : 0 = nI 0 := rfl
        replace hl : lv_has ls 6 [(5, .int (nI 0)), (0, .ref (B 100)), (1, .int (nI p9)), (2, .long ((dnT μ p9 0).1)), (4, .int (oI ((dnT μ p9 0).2)))] := (congrArg (lv_has ls 6) (m_lc (congrArg Value.int q13) (m_lc rfl (m_lc rfl (m_lc (congrArg Value.long q11) (m_lc (congrArg Value.int q12) rfl)))))).mp hl
        exact lp81 ((kN μ 24 0 - 0) + 1) 0 (Nat.zero_le _) (Nat.lt_succ_self _) _ _ hV hS ls (lv_sub hl [1, 2, 3, 4, 0] rfl)
      · replace c16 : ¬ kN μ 9 0 ≤ (j + 1) := fun q9 => c16 ((nI_leI (a := kN μ 9 0) (b := (j + 1)) (by omega) (by omega)).mpr q9)
        refine lv_aload_n hx hb dX5_down_19 rfl (lv_at hl 0 rfl) ?_
        refine m_get (C := RX5) (T := TX5) (N := 34) hx hb hts hi_X5 hown hK hV 6 (v := .ref (B 6)) (g_m6 hM) rfl (by decide) k23 (fun _ h9 => h9) dX5_down_20 ?_
        refine lv_iload hx hb dX5_down_23 (lv_at hl 4 rfl) ?_
        refine m_iald hx hb hK hV 0 (i := nI (j + 1)) (x := nI (kN μ 6 (j + 1))) (a_m6 hM) rfl (vp_in_nI (by omega) (by omega)) (by rw [nI_clamp (by omega)] <;> first | rfl | (show oI (va_up _ _ _ _) = _; rw [vu_s] <;> rfl) | (show va_up _ _ _ _ = _; rw [vu_s] <;> rfl)) dX5_down_25 ?_
        refine lv_iload_n hx hb dX5_down_26 rfl (lv_at hl 1 rfl) ?_
        have b27 := y4 (j + 1) (by omega) (by omega)
        refine lv_icmp_ne (tgt := 72) hx hb dX5_down_27 (by decide) (fun c27 => ?_) (fun c27 => ?_)
        · replace c27 : ¬ kN μ 6 (j + 1) = p9 := fun q9 => c27 ((nI_eq (a := kN μ 6 (j + 1)) (b := p9) (by omega) (by omega)).mpr q9)
          refine lv_iinc (v := nI ((j + 1) + 1)) (lv' := [(5, .int (nI ((j + 1) + 1))), (0, .ref (B 100)), (1, .int (nI p9)), (2, .long ((dnG μ p9 j).1)), (4, .int (oI ((dnG μ p9 j).2)))]) hx hb dX5_down_72 hl (k := 4) rfl (show nI (j + 1) + Int32.ofInt 1 = _ from nI_add (j + 1) 1) (by decide) rfl (fun ls hl => ?_)
          refine lv_goto (tgt := 10) hx hb dX5_down_75 (by decide) ?_
          have q14 : ((dnG μ p9 j).1) = ((dnG μ p9 (j + 1)).1) := (by rw [dnG, if_neg (fun q => c27 q.1)])
          have q15 : oI ((dnG μ p9 j).2) = oI ((dnG μ p9 (j + 1)).2) := (by rw [dnG, if_neg (fun q => c27 q.1)])
          replace hl : lv_has ls 6 [(5, .int (nI ((j + 1) + 1))), (0, .ref (B 100)), (1, .int (nI p9)), (2, .long ((dnG μ p9 (j + 1)).1)), (4, .int (oI ((dnG μ p9 (j + 1)).2)))] := (congrArg (lv_has ls 6) (m_lc rfl (m_lc rfl (m_lc rfl (m_lc (congrArg Value.long q14) (m_lc (congrArg Value.int q15) rfl)))))).mp hl
          exact ih10 (j + 1) (by omega) (by omega) _ _ hV hS ls (lv_sub hl [1, 2, 3, 4, 0] rfl)
        · replace c27 : kN μ 6 (j + 1) = p9 := (nI_eq (a := kN μ 6 (j + 1)) (b := p9) (by omega) (by omega)).mp c27
          refine lv_aload_n hx hb dX5_down_30 rfl (lv_at hl 0 rfl) ?_
          refine lv_iload hx hb dX5_down_31 (lv_at hl 4 rfl) ?_
          refine m_calli (va_runV (As := [.int (nI (j + 1))]) (rest := []) ⟨hx, hb, hml, hown, hts⟩ (c_X5_hasUnder (l := l) (H.size) hM (j + 1) (by omega)) (cwV 1 hts gX5_down_X5_hasUnder rfl rfl rfl (by decide +kernel) ⟨by decide, by decide⟩) (m_preV (r := (RX5, TX5, 34)) hE hV hS hA (hM.at 100 (by decide)) rfl) rfl rfl hl.1 rfl (lv_room (by first | exact Nat.le_of_ble_eq_true rfl | simp [rf_cat, ct_ref, ct_int, ct_null, ct_long])) dX5_down_33 ⟨by decide, by decide⟩) hV hS hA (fun r h1 H locs hV hS hp _ => ?_)
          obtain ⟨e1, e2⟩ := hp
          subst e2
          rw [e1] at hV; clear e1
          refine lv_if_eq (tgt := 72) hx hb dX5_down_36 (by decide) (fun c36 => ?_) (fun c36 => ?_)
          · replace c36 : (huM μ (j + 1) (kN μ 24 0)) = false := bI_0.mp c36
            refine lv_iinc (v := nI ((j + 1) + 1)) (lv' := [(5, .int (nI ((j + 1) + 1))), (0, .ref (B 100)), (1, .int (nI p9)), (2, .long ((dnG μ p9 j).1)), (4, .int (oI ((dnG μ p9 j).2)))]) hx hb dX5_down_72 hl (k := 4) rfl (show nI (j + 1) + Int32.ofInt 1 = _ from nI_add (j + 1) 1) (by decide) rfl (fun ls hl => ?_)
            refine lv_goto (tgt := 10) hx hb dX5_down_75 (by decide) ?_
            have q16 : ((dnG μ p9 j).1) = ((dnG μ p9 (j + 1)).1) := (by rw [dnG, if_neg (fun q => absurd q.2.1 (by rw [c36]; decide))])
            have q17 : oI ((dnG μ p9 j).2) = oI ((dnG μ p9 (j + 1)).2) := (by rw [dnG, if_neg (fun q => absurd q.2.1 (by rw [c36]; decide))])
            replace hl : lv_has ls 6 [(5, .int (nI ((j + 1) + 1))), (0, .ref (B 100)), (1, .int (nI p9)), (2, .long ((dnG μ p9 (j + 1)).1)), (4, .int (oI ((dnG μ p9 (j + 1)).2)))] := (congrArg (lv_has ls 6) (m_lc rfl (m_lc rfl (m_lc rfl (m_lc (congrArg Value.long q16) (m_lc (congrArg Value.int q17) rfl)))))).mp hl
            exact ih10 (j + 1) (by omega) (by omega) _ _ hV hS ls (lv_sub hl [1, 2, 3, 4, 0] rfl)
          · replace c36 : (huM μ (j + 1) (kN μ 24 0)) = true := bI_1.mp c36
            refine lv_lload_n hx hb dX5_down_39 rfl (lv_at hl 2 rfl) ?_
            refine lv_lconst (v := 0) hx hb dX5_down_40 (by decide) ?_
            refine m_lcmp_lt (tgt := 57) hx hb dX5_down_41 dX5_down_42 (by decide) (fun c42 => ?_) (fun c42 => ?_)
            · refine lv_aload_n hx hb dX5_down_57 rfl (lv_at hl 0 rfl) ?_
              refine m_get (C := RX5) (T := TX5) (N := 34) hx hb hts hi_X5 hown hK hV 8 (v := .ref (B 8)) (g_m8 hM) rfl (by decide) k29 (fun _ h9 => h9) dX5_down_58 ?_
              refine lv_iload hx hb dX5_down_61 (lv_at hl 4 rfl) ?_
              refine m_lald hx hb hK hV 1 (i := nI (j + 1)) (x := (kW μ 8 (j + 1))) (a_m8 hM) rfl (vp_in_nI (by omega) (by omega)) (by rw [nI_clamp (by omega)] <;> first | rfl | (show oI (va_up _ _ _ _) = _; rw [vu_s] <;> rfl) | (show va_up _ _ _ _ = _; rw [vu_s] <;> rfl)) dX5_down_63 ?_
              refine lv_lstore_n (lv' := [(2, .long (kW μ 8 (j + 1))), (0, .ref (B 100)), (1, .int (nI p9)), (4, .int (oI ((dnG μ p9 j).2))), (5, .int (nI (j + 1)))]) hx hb dX5_down_64 rfl hl (by decide) rfl (fun ls hl => ?_)
              refine lv_bipush (v := 100) hx hb dX5_down_65 (by decide) ?_
              refine lv_iload hx hb dX5_down_67 (lv_at hl 4 rfl) ?_
              refine lv_iadd hx hb dX5_down_69 ?_
              refine m_topi (y := nI (100 + (j + 1))) (nI_add 100 (j + 1)) ?_
              refine lv_istore (lv' := [(4, .int (nI (100 + (j + 1)))), (2, .long (kW μ 8 (j + 1))), (0, .ref (B 100)), (1, .int (nI p9)), (5, .int (nI (j + 1)))]) hx hb dX5_down_70 hl (by decide) rfl (fun ls hl => ?_)
              refine lv_iinc (v := nI ((j + 1) + 1)) (lv' := [(5, .int (nI ((j + 1) + 1))), (4, .int (nI (100 + (j + 1)))), (2, .long (kW μ 8 (j + 1))), (0, .ref (B 100)), (1, .int (nI p9))]) hx hb dX5_down_72 hl (k := 4) rfl (show nI (j + 1) + Int32.ofInt 1 = _ from nI_add (j + 1) 1) (by decide) rfl (fun ls hl => ?_)
              refine lv_goto (tgt := 10) hx hb dX5_down_75 (by decide) ?_
              have q18 : (kW μ 8 (j + 1)) = ((dnG μ p9 (j + 1)).1) := (by rw [dnG, if_pos ⟨c27, c36, Or.inl c42⟩])
              have q19 : nI (100 + (j + 1)) = oI ((dnG μ p9 (j + 1)).2) := (by rw [dnG, if_pos ⟨c27, c36, Or.inl c42⟩]; rfl)
              replace hl : lv_has ls 6 [(5, .int (nI ((j + 1) + 1))), (4, .int (oI ((dnG μ p9 (j + 1)).2))), (2, .long ((dnG μ p9 (j + 1)).1)), (0, .ref (B 100)), (1, .int (nI p9))] := (congrArg (lv_has ls 6) (m_lc rfl (m_lc (congrArg Value.int q19) (m_lc (congrArg Value.long q18) (m_lc rfl (m_lc rfl rfl)))))).mp hl
              exact ih10 (j + 1) (by omega) (by omega) _ _ hV hS ls (lv_sub hl [3, 4, 2, 1, 0] rfl)
            · refine lv_aload_n hx hb dX5_down_45 rfl (lv_at hl 0 rfl) ?_
              refine m_get (C := RX5) (T := TX5) (N := 34) hx hb hts hi_X5 hown hK hV 8 (v := .ref (B 8)) (g_m8 hM) rfl (by decide) k29 (fun _ h9 => h9) dX5_down_46 ?_
              refine lv_iload hx hb dX5_down_49 (lv_at hl 4 rfl) ?_
              refine m_lald hx hb hK hV 1 (i := nI (j + 1)) (x := (kW μ 8 (j + 1))) (a_m8 hM) rfl (vp_in_nI (by omega) (by omega)) (by rw [nI_clamp (by omega)] <;> first | rfl | (show oI (va_up _ _ _ _) = _; rw [vu_s] <;> rfl) | (show va_up _ _ _ _ = _; rw [vu_s] <;> rfl)) dX5_down_51 ?_
              refine lv_lload_n hx hb dX5_down_52 rfl (lv_at hl 2 rfl) ?_
              refine m_lcmp_ge (tgt := 72) hx hb dX5_down_53 dX5_down_54 (by decide) (fun c54 => ?_) (fun c54 => ?_)
              · refine lv_iinc (v := nI ((j + 1) + 1)) (lv' := [(5, .int (nI ((j + 1) + 1))), (0, .ref (B 100)), (1, .int (nI p9)), (2, .long ((dnG μ p9 j).1)), (4, .int (oI ((dnG μ p9 j).2)))]) hx hb dX5_down_72 hl (k := 4) rfl (show nI (j + 1) + Int32.ofInt 1 = _ from nI_add (j + 1) 1) (by decide) rfl (fun ls hl => ?_)
                refine lv_goto (tgt := 10) hx hb dX5_down_75 (by decide) ?_
                have q20 : ((dnG μ p9 j).1) = ((dnG μ p9 (j + 1)).1) := (by rw [dnG, if_neg (fun q => q.2.2.elim c42 (Int64.not_lt.mpr c54))])
                have q21 : oI ((dnG μ p9 j).2) = oI ((dnG μ p9 (j + 1)).2) := (by rw [dnG, if_neg (fun q => q.2.2.elim c42 (Int64.not_lt.mpr c54))])
                replace hl : lv_has ls 6 [(5, .int (nI ((j + 1) + 1))), (0, .ref (B 100)), (1, .int (nI p9)), (2, .long ((dnG μ p9 (j + 1)).1)), (4, .int (oI ((dnG μ p9 (j + 1)).2)))] := (congrArg (lv_has ls 6) (m_lc rfl (m_lc rfl (m_lc rfl (m_lc (congrArg Value.long q20) (m_lc (congrArg Value.int q21) rfl)))))).mp hl
                exact ih10 (j + 1) (by omega) (by omega) _ _ hV hS ls (lv_sub hl [1, 2, 3, 4, 0] rfl)
              · refine lv_aload_n hx hb dX5_down_57 rfl (lv_at hl 0 rfl) ?_
                refine m_get (C := RX5) (T := TX5) (N := 34) hx hb hts hi_X5 hown hK hV 8 (v := .ref (B 8)) (g_m8 hM) rfl (by decide) k29 (fun _ h9 => h9) dX5_down_58 ?_
                refine lv_iload hx hb dX5_down_61 (lv_at hl 4 rfl) ?_
                refine m_lald hx hb hK hV 1 (i := nI (j + 1)) (x := (kW μ 8 (j + 1))) (a_m8 hM) rfl (vp_in_nI (by omega) (by omega)) (by rw [nI_clamp (by omega)] <;> first | rfl | (show oI (va_up _ _ _ _) = _; rw [vu_s] <;> rfl) | (show va_up _ _ _ _ = _; rw [vu_s] <;> rfl)) dX5_down_63 ?_
                refine lv_lstore_n (lv' := [(2, .long (kW μ 8 (j + 1))), (0, .ref (B 100)), (1, .int (nI p9)), (4, .int (oI ((dnG μ p9 j).2))), (5, .int (nI (j + 1)))]) hx hb dX5_down_64 rfl hl (by decide) rfl (fun ls hl => ?_)
                refine lv_bipush (v := 100) hx hb dX5_down_65 (by decide) ?_
                refine lv_iload hx hb dX5_down_67 (lv_at hl 4 rfl) ?_
                refine lv_iadd hx hb dX5_down_69 ?_
                refine m_topi (y := nI (100 + (j + 1))) (nI_add 100 (j + 1)) ?_
                refine lv_istore (lv' := [(4, .int (nI (100 + (j + 1)))), (2, .long (kW μ 8 (j + 1))), (0, .ref (B 100)), (1, .int (nI p9)), (5, .int (nI (j + 1)))]) hx hb dX5_down_70 hl (by decide) rfl (fun ls hl => ?_)
                refine lv_iinc (v := nI ((j + 1) + 1)) (lv' := [(5, .int (nI ((j + 1) + 1))), (4, .int (nI (100 + (j + 1)))), (2, .long (kW μ 8 (j + 1))), (0, .ref (B 100)), (1, .int (nI p9))]) hx hb dX5_down_72 hl (k := 4) rfl (show nI (j + 1) + Int32.ofInt 1 = _ from nI_add (j + 1) 1) (by decide) rfl (fun ls hl => ?_)
                refine lv_goto (tgt := 10) hx hb dX5_down_75 (by decide) ?_
                have q22 : (kW μ 8 (j + 1)) = ((dnG μ p9 (j + 1)).1) := (by rw [dnG, if_pos ⟨c27, c36, Or.inr (Int64.not_le.mp c54)⟩])
                have q23 : nI (100 + (j + 1)) = oI ((dnG μ p9 (j + 1)).2) := (by rw [dnG, if_pos ⟨c27, c36, Or.inr (Int64.not_le.mp c54)⟩]; rfl)
                replace hl : lv_has ls 6 [(5, .int (nI ((j + 1) + 1))), (4, .int (oI ((dnG μ p9 (j + 1)).2))), (2, .long ((dnG μ p9 (j + 1)).1)), (0, .ref (B 100)), (1, .int (nI p9))] := (congrArg (lv_has ls 6) (m_lc rfl (m_lc (congrArg Value.int q23) (m_lc (congrArg Value.long q22) (m_lc rfl (m_lc rfl rfl)))))).mp hl
                exact ih10 (j + 1) (by omega) (by omega) _ _ hV hS ls (lv_sub hl [3, 4, 2, 1, 0] rfl)
  have q24 : (-1) = ((dnG μ p9 0).1) := rfl
  have q25 : (-1) = oI ((dnG μ p9 0).2) := rfl
  have q26 : 1 = nI (0 + 1) := rfl
  replace hl : lv_has ls 6 [(5, .int (nI (0 + 1))), (4, .int (oI ((dnG μ p9 0).2))), (2, .long ((dnG μ p9 0).1)), (0, .ref (B 100)), (1, .int (nI p9))] := (congrArg (lv_has ls 6) (m_lc (congrArg Value.int q26) (m_lc (congrArg Value.int q25) (m_lc (congrArg Value.long q24) (m_lc rfl (m_lc rfl rfl)))))).mp hl
  exact lp10 ((kN μ 9 0 - 0) + 1) 0 (by omega) (Nat.lt_succ_self _) _ _ hV hS ls (lv_sub hl [3, 4, 2, 1, 0] rfl)
set_option maxHeartbeats 4000000 in
set_option maxRecDepth 100000 in
theorem c_X5_down_2 {l : Launch} {D : va_G} {cs : mC} {df : Nat} {P : Nat → Prop} {h0 : mH} {B : Nat → Nat} {μ : KS} {hh : mH} (sz : Nat) (hM : DRep cs P h0 B μ hh) (p9 : Nat) (hp9 : p9 < kN μ 9 0) (hd : kN μ 9 0 ≤ p9 + 2) : Met l yX5_down wsX5_down ({ frames := 3, cells := 0, slots := 0, locals := 71 }) (mPre [.ref (B 100), .int (nI p9)] D cs df hh sz) (va_Qi ((fun (r : Int32) (h1 : mH) => h1 = hh ∧ r = oI (dnM μ 2 p9))) (mB D hh sz) (mA hh sz)) 0 0 (mA hh sz) := by
  refine Met.ofW (cc := cX5_down) (maxL := 6) (ret := (some .int)) (by decide) rfl ?_
  intro p e s m args below meth c s₁ B0 hml hv
  obtain ⟨hargs, hsz, hV, hE⟩ := hv
  subst hsz
  have hx := B0.exec
  have hb := B0.bytes
  have hr := B0.returns
  have hlocks := B0.notSynchronized
  have hts := atoms_spec (ws := wsX5_down) B0.pre
  have hown : s.vm.findClass RX5 = some m.cls := findClass_of_methodNamed B0.named
  have hK := hE.1.1
  have hA : ∀ q : Nat, s.heap.size ≤ q → mA hh s.heap.size q := mA.top
  have hS : va_S (mA hh s.heap.size) s.heap s.heap [] := va_S.rf
  have kk115 : (Cond.constantLong RX5 115 (-1)).before args s = true := hts _ (by decide +kernel)
  have hi_X5 : ∀ w ∈ u_ws RX5 TX5 34, w ∈ wsX5_down := by decide +kernel
  have k33 : (Cond.fieldLink RX5 33 "TaskKernelModel" "groups" "I").before args s = true := hts _ (by decide +kernel)
  have k117 : (Cond.fieldLink RX5 117 "TaskKernelModel" "tasks" "I").before args s = true := hts _ (by decide +kernel)
  have k88 : (Cond.fieldLink RX5 88 "TaskKernelModel" "isIn" "[Z").before args s = true := hts _ (by decide +kernel)
  have k36 : (Cond.fieldLink RX5 36 "TaskKernelModel" "groupOf" "[I").before args s = true := hts _ (by decide +kernel)
  have k42 : (Cond.fieldLink RX5 42 "TaskKernelModel" "times" "[J").before args s = true := hts _ (by decide +kernel)
  have k23 : (Cond.fieldLink RX5 23 "TaskKernelModel" "parents" "[I").before args s = true := hts _ (by decide +kernel)
  have k29 : (Cond.fieldLink RX5 29 "TaskKernelModel" "groupTimes" "[J").before args s = true := hts _ (by decide +kernel)
  have hl := lv_entry ([.ref (B 100), .int (nI p9)]) (n := 6) (by first | exact Nat.le_of_ble_eq_true rfl | simp [lg_sl, rf_cat, ct_ref, ct_int, ct_null, ct_long])
  have hent := lg_entry_eq m ([.ref (B 100), .int (nI p9)]) 6
  rw [← hargs] at hent
  rw [hent]
  generalize (lg_sl ([.ref (B 100), .int (nI p9)]) ++ List.replicate (6 - (lg_sl ([.ref (B 100), .int (nI p9)])).length) Slot.unset).toArray = ls at hl ⊢
  replace hl : lv_has ls 6 [(0, .ref (B 100)), (1, .int (nI p9))] := hl
  have hwf := hM.wf
  obtain ⟨⟨y0, y1, y2, y3⟩, y4, y5, y6, y7⟩ := hwf
  refine lv_ldc2 (v := (-1)) hx hb hown kk115 dX5_down_0 ?_
  refine lv_lstore_n (lv' := [(2, .long (-1)), (0, .ref (B 100)), (1, .int (nI p9))]) hx hb dX5_down_3 rfl hl (by decide) rfl (fun ls hl => ?_)
  refine lv_iconst (v := (-1)) hx hb dX5_down_4 (by decide) ?_
  refine lv_istore (lv' := [(4, .int (-1)), (2, .long (-1)), (0, .ref (B 100)), (1, .int (nI p9))]) hx hb dX5_down_5 hl (by decide) rfl (fun ls hl => ?_)
  refine lv_iconst (v := 1) hx hb dX5_down_7 (by decide) ?_
  refine lv_istore (lv' := [(5, .int 1), (4, .int (-1)), (2, .long (-1)), (0, .ref (B 100)), (1, .int (nI p9))]) hx hb dX5_down_8 hl (by decide) rfl (fun ls hl => ?_)
  have lp10 : ∀ (fu : Nat) (j : Nat), (j + 1 ≤ kN μ 9 0) → kN μ 9 0 - j < fu → ∀ (H : Heap) (locs : List Loc), mV D hh (mA hh s.heap.size) H → va_S (mA hh s.heap.size) s.heap H locs → ∀ (ls : Array Slot), lv_has ls 6 [(0, .ref (B 100)), (1, .int (nI p9)), (2, .long ((dnG μ p9 j).1)), (4, .int (oI ((dnG μ p9 j).2))), (5, .int (nI (j + 1)))] → W p l e ({ frames := 3, cells := 0, slots := 0, locals := 71 } : Room) s m args below meth c H locs 0 0 (MQ below (va_Qi ((fun (r : Int32) (h1 : mH) => h1 = hh ∧ r = oI (dnM μ 2 p9))) (mB D hh s.heap.size) (mA hh s.heap.size)) args s 0 0 (mA hh s.heap.size)) (F0 m 10 ls []) := by
    intro fu
    induction fu with
    | zero =>
      intro j hj hfu
      exact absurd hfu (Nat.not_lt_zero _)
    | succ fu ih10 =>
      intro j hj hfu H locs hV hS ls hl
      refine lv_iload hx hb dX5_down_10 (lv_at hl 4 rfl) ?_
      refine lv_aload_n hx hb dX5_down_12 rfl (lv_at hl 0 rfl) ?_
      refine m_get (C := RX5) (T := TX5) (N := 34) hx hb hts hi_X5 hown hK hV 9 (v := .int (nI (kN μ 9 0))) (by have z9 := g_m9 hM; exact z9) rfl (by decide) k33 (fun _ h9 => h9) dX5_down_13 ?_
      refine lv_icmp_ge (tgt := 78) hx hb dX5_down_16 (by decide) (fun c16 => ?_) (fun c16 => ?_)
      · replace c16 : kN μ 9 0 ≤ (j + 1) := (nI_leI (a := kN μ 9 0) (b := (j + 1)) (by omega) (by omega)).mp c16
        refine lv_iconst (v := 0) hx hb dX5_down_78 (by decide) ?_
        refine lv_istore (lv' := [(5, .int 0), (0, .ref (B 100)), (1, .int (nI p9)), (2, .long ((dnG μ p9 j).1)), (4, .int (oI ((dnG μ p9 j).2)))]) hx hb dX5_down_79 hl (by decide) rfl (fun ls hl => ?_)
        have lp81 : ∀ (fu : Nat) (i : Nat), (i ≤ kN μ 24 0) → kN μ 24 0 - i < fu → ∀ (H : Heap) (locs : List Loc), mV D hh (mA hh s.heap.size) H → va_S (mA hh s.heap.size) s.heap H locs → ∀ (ls : Array Slot), lv_has ls 6 [(0, .ref (B 100)), (1, .int (nI p9)), (2, .long ((dnT μ p9 i).1)), (4, .int (oI ((dnT μ p9 i).2))), (5, .int (nI i))] → W p l e ({ frames := 3, cells := 0, slots := 0, locals := 71 } : Room) s m args below meth c H locs 0 0 (MQ below (va_Qi ((fun (r : Int32) (h1 : mH) => h1 = hh ∧ r = oI (dnM μ 2 p9))) (mB D hh s.heap.size) (mA hh s.heap.size)) args s 0 0 (mA hh s.heap.size)) (F0 m 81 ls []) := by
          intro fu
          induction fu with
          | zero =>
            intro i hi hfu
            exact absurd hfu (Nat.not_lt_zero _)
          | succ fu ih81 =>
            intro i hi hfu H locs hV hS ls hl
            refine lv_iload hx hb dX5_down_81 (lv_at hl 4 rfl) ?_
            refine lv_aload_n hx hb dX5_down_83 rfl (lv_at hl 0 rfl) ?_
            refine m_get (C := RX5) (T := TX5) (N := 34) hx hb hts hi_X5 hown hK hV 24 (v := .int (nI (kN μ 24 0))) (by have z9 := g_m24 hM; exact z9) rfl (by decide) k117 (fun _ h9 => h9) dX5_down_84 ?_
            refine lv_icmp_ge (tgt := 147) hx hb dX5_down_87 (by decide) (fun c87 => ?_) (fun c87 => ?_)
            · replace c87 : kN μ 24 0 ≤ i := (nI_leI (a := kN μ 24 0) (b := i) (by omega) (by omega)).mp c87
              rw [show i = kN μ 24 0 by omega] at hl
              replace hl : lv_has ls 6 [(0, .ref (B 100)), (1, .int (nI p9)), (4, .int (oI (dnE μ p9)))] := lv_sub hl [0, 1, 3] rfl
              rcases e9 : dnE μ p9 with _ | mb
              · replace hl : lv_has ls 6 [(0, .ref (B 100)), (1, .int (nI p9)), (4, .int (-1))] := by have h9 := hl; rw [e9] at h9; exact h9
                refine lv_iload hx hb dX5_down_147 (lv_at hl 2 rfl) ?_
                refine lv_bipush (v := 100) hx hb dX5_down_149 (by decide) ?_
                refine lv_icmp_lt (tgt := 166) hx hb dX5_down_151 (by decide) (fun c151 => ?_) (fun c151 => (absurd (by decide) c151))
                refine lv_iload hx hb dX5_down_166 (lv_at hl 2 rfl) ?_
                exact m_iret (v := (-1)) hx hb hr hlocks hV hS (⟨rfl, by (conv => rhs; rw [dnM, e9]); try rfl⟩) dX5_down_168
              · replace hl : lv_has ls 6 [(0, .ref (B 100)), (1, .int (nI p9)), (4, .int (nI mb))] := by have h9 := hl; rw [e9] at h9; exact h9
                have bm := dnT_lt y1 e9
                refine lv_iload hx hb dX5_down_147 (lv_at hl 2 rfl) ?_
                refine lv_bipush (v := 100) hx hb dX5_down_149 (by decide) ?_
                refine lv_icmp_lt (tgt := 166) hx hb dX5_down_151 (by decide) (fun c151 => ?_) (fun c151 => ?_)
                · replace c151 : mb < 100 := (nI_ltI (a := mb) (b := 100) (by omega) (by omega)).mp c151
                  refine lv_iload hx hb dX5_down_166 (lv_at hl 2 rfl) ?_
                  exact m_iret (v := nI mb) hx hb hr hlocks hV hS (⟨rfl, by (conv => rhs; rw [dnM, e9]; dsimp only; rw [if_neg (by omega)]); try rfl⟩) dX5_down_168
                · replace c151 : ¬ mb < 100 := fun q9 => c151 ((nI_ltI (a := mb) (b := 100) (by omega) (by omega)).mpr q9)
                  refine lv_aload_n hx hb dX5_down_154 rfl (lv_at hl 0 rfl) ?_
                  refine lv_iload hx hb dX5_down_155 (lv_at hl 2 rfl) ?_
                  refine lv_bipush (v := 100) hx hb dX5_down_157 (by decide) ?_
                  refine lv_isub hx hb dX5_down_159 ?_
                  refine m_topi (y := nI (mb - 100)) (pk_sub (a := mb) (b := 100) (by omega)) ?_
                  refine m_calli (va_runV (As := [.int (nI (mb - 100))]) (rest := []) ⟨hx, hb, hml, hown, hts⟩ (c_X5_down_1 (l := l) (H.size) hM (mb - 100) (by omega) (by have z9 := y4 (mb - 100) (by omega) (by omega); omega)) (cwV 1 hts gX5_down_X5_down rfl rfl rfl (by decide +kernel) ⟨by decide, by decide⟩) (m_preV (r := (RX5, TX5, 34)) hE hV hS hA (hM.at 100 (by decide)) rfl) rfl rfl hl.1 rfl (lv_room (by first | exact Nat.le_of_ble_eq_true rfl | simp [rf_cat, ct_ref, ct_int, ct_null, ct_long])) dX5_down_160 ⟨by decide, by decide⟩) hV hS hA (fun r h1 H locs hV hS hp _ => ?_)
                  obtain ⟨e1, e2⟩ := hp
                  subst e2
                  rw [e1] at hV; clear e1
                  refine lv_goto (tgt := 168) hx hb dX5_down_163 (by decide) ?_
                  exact m_iret (v := oI (dnM μ 1 (mb - 100))) hx hb hr hlocks hV hS (⟨rfl, by (conv => rhs; rw [dnM, e9]; dsimp only; rw [if_pos (by omega)]); try rfl⟩) dX5_down_168
            · replace c87 : ¬ kN μ 24 0 ≤ i := fun q9 => c87 ((nI_leI (a := kN μ 24 0) (b := i) (by omega) (by omega)).mpr q9)
              refine lv_aload_n hx hb dX5_down_90 rfl (lv_at hl 0 rfl) ?_
              refine m_get (C := RX5) (T := TX5) (N := 34) hx hb hts hi_X5 hown hK hV 32 (v := .ref (B 32)) (g_m32 hM) rfl (by decide) k88 (fun _ h9 => h9) dX5_down_91 ?_
              refine lv_iload hx hb dX5_down_94 (lv_at hl 4 rfl) ?_
              refine m_zald hx hb hK hV 2 (i := nI i) (x := bI (kB μ 32 i)) (a_m32 hM) rfl (vp_in_nI (by omega) (by omega)) (by rw [nI_clamp (by omega)] <;> first | rfl | (show oI (va_up _ _ _ _) = _; rw [vu_s] <;> rfl) | (show va_up _ _ _ _ = _; rw [vu_s] <;> rfl)) dX5_down_96 ?_
              refine lv_if_eq (tgt := 141) hx hb dX5_down_97 (by decide) (fun c97 => ?_) (fun c97 => ?_)
              · replace c97 : kB μ 32 i = false := bI_0.mp c97
                refine lv_iinc (v := nI (i + 1)) (lv' := [(5, .int (nI (i + 1))), (0, .ref (B 100)), (1, .int (nI p9)), (2, .long ((dnT μ p9 i).1)), (4, .int (oI ((dnT μ p9 i).2)))]) hx hb dX5_down_141 hl (k := 4) rfl (show nI i + Int32.ofInt 1 = _ from nI_add i 1) (by decide) rfl (fun ls hl => ?_)
                refine lv_goto (tgt := 81) hx hb dX5_down_144 (by decide) ?_
                have q1 : ((dnT μ p9 i).1) = ((dnT μ p9 (i + 1)).1) := (by rw [dnT, if_neg (fun q => absurd q.1 (by rw [c97]; decide))])
                have q2 : oI ((dnT μ p9 i).2) = oI ((dnT μ p9 (i + 1)).2) := (by rw [dnT, if_neg (fun q => absurd q.1 (by rw [c97]; decide))])
                replace hl : lv_has ls 6 [(5, .int (nI (i + 1))), (0, .ref (B 100)), (1, .int (nI p9)), (2, .long ((dnT μ p9 (i + 1)).1)), (4, .int (oI ((dnT μ p9 (i + 1)).2)))] := (congrArg (lv_has ls 6) (m_lc rfl (m_lc rfl (m_lc rfl (m_lc (congrArg Value.long q1) (m_lc (congrArg Value.int q2) rfl)))))).mp hl
                exact ih81 (i + 1) (by omega) (by omega) _ _ hV hS ls (lv_sub hl [1, 2, 3, 4, 0] rfl)
              · replace c97 : kB μ 32 i = true := bI_1.mp c97
                refine lv_aload_n hx hb dX5_down_100 rfl (lv_at hl 0 rfl) ?_
                refine m_get (C := RX5) (T := TX5) (N := 34) hx hb hts hi_X5 hown hK hV 10 (v := .ref (B 10)) (g_m10 hM) rfl (by decide) k36 (fun _ h9 => h9) dX5_down_101 ?_
                refine lv_iload hx hb dX5_down_104 (lv_at hl 4 rfl) ?_
                refine m_iald hx hb hK hV 0 (i := nI i) (x := nI (kN μ 10 i)) (a_m10 hM) rfl (vp_in_nI (by omega) (by omega)) (by rw [nI_clamp (by omega)] <;> first | rfl | (show oI (va_up _ _ _ _) = _; rw [vu_s] <;> rfl) | (show va_up _ _ _ _ = _; rw [vu_s] <;> rfl)) dX5_down_106 ?_
                refine lv_iload_n hx hb dX5_down_107 rfl (lv_at hl 1 rfl) ?_
                have b108 := y5 i (by omega)
                refine lv_icmp_ne (tgt := 141) hx hb dX5_down_108 (by decide) (fun c108 => ?_) (fun c108 => ?_)
                · replace c108 : ¬ kN μ 10 i = p9 := fun q9 => c108 ((nI_eq (a := kN μ 10 i) (b := p9) (by omega) (by omega)).mpr q9)
                  refine lv_iinc (v := nI (i + 1)) (lv' := [(5, .int (nI (i + 1))), (0, .ref (B 100)), (1, .int (nI p9)), (2, .long ((dnT μ p9 i).1)), (4, .int (oI ((dnT μ p9 i).2)))]) hx hb dX5_down_141 hl (k := 4) rfl (show nI i + Int32.ofInt 1 = _ from nI_add i 1) (by decide) rfl (fun ls hl => ?_)
                  refine lv_goto (tgt := 81) hx hb dX5_down_144 (by decide) ?_
                  have q3 : ((dnT μ p9 i).1) = ((dnT μ p9 (i + 1)).1) := (by rw [dnT, if_neg (fun q => c108 q.2.1)])
                  have q4 : oI ((dnT μ p9 i).2) = oI ((dnT μ p9 (i + 1)).2) := (by rw [dnT, if_neg (fun q => c108 q.2.1)])
                  replace hl : lv_has ls 6 [(5, .int (nI (i + 1))), (0, .ref (B 100)), (1, .int (nI p9)), (2, .long ((dnT μ p9 (i + 1)).1)), (4, .int (oI ((dnT μ p9 (i + 1)).2)))] := (congrArg (lv_has ls 6) (m_lc rfl (m_lc rfl (m_lc rfl (m_lc (congrArg Value.long q3) (m_lc (congrArg Value.int q4) rfl)))))).mp hl
                  exact ih81 (i + 1) (by omega) (by omega) _ _ hV hS ls (lv_sub hl [1, 2, 3, 4, 0] rfl)
                · replace c108 : kN μ 10 i = p9 := (nI_eq (a := kN μ 10 i) (b := p9) (by omega) (by omega)).mp c108
                  refine lv_lload_n hx hb dX5_down_111 rfl (lv_at hl 2 rfl) ?_
                  refine lv_lconst (v := 0) hx hb dX5_down_112 (by decide) ?_
                  refine m_lcmp_lt (tgt := 129) hx hb dX5_down_113 dX5_down_114 (by decide) (fun c114 => ?_) (fun c114 => ?_)
                  · refine lv_aload_n hx hb dX5_down_129 rfl (lv_at hl 0 rfl) ?_
                    refine m_get (C := RX5) (T := TX5) (N := 34) hx hb hts hi_X5 hown hK hV 12 (v := .ref (B 12)) (g_m12 hM) rfl (by decide) k42 (fun _ h9 => h9) dX5_down_130 ?_
                    refine lv_iload hx hb dX5_down_133 (lv_at hl 4 rfl) ?_
                    refine m_lald hx hb hK hV 1 (i := nI i) (x := (kW μ 12 i)) (a_m12 hM) rfl (vp_in_nI (by omega) (by omega)) (by rw [nI_clamp (by omega)] <;> first | rfl | (show oI (va_up _ _ _ _) = _; rw [vu_s] <;> rfl) | (show va_up _ _ _ _ = _; rw [vu_s] <;> rfl)) dX5_down_135 ?_
                    refine lv_lstore_n (lv' := [(2, .long (kW μ 12 i)), (0, .ref (B 100)), (1, .int (nI p9)), (4, .int (oI ((dnT μ p9 i).2))), (5, .int (nI i))]) hx hb dX5_down_136 rfl hl (by decide) rfl (fun ls hl => ?_)
                    refine lv_iload hx hb dX5_down_137 (lv_at hl 4 rfl) ?_
                    refine lv_istore (lv' := [(4, .int (nI i)), (2, .long (kW μ 12 i)), (0, .ref (B 100)), (1, .int (nI p9)), (5, .int (nI i))]) hx hb dX5_down_139 hl (by decide) rfl (fun ls hl => ?_)
                    refine lv_iinc (v := nI (i + 1)) (lv' := [(5, .int (nI (i + 1))), (4, .int (nI i)), (2, .long (kW μ 12 i)), (0, .ref (B 100)), (1, .int (nI p9))]) hx hb dX5_down_141 hl (k := 4) rfl (show nI i + Int32.ofInt 1 = _ from nI_add i 1) (by decide) rfl (fun ls hl => ?_)
                    refine lv_goto (tgt := 81) hx hb dX5_down_144 (by decide) ?_
                    have q5 : (kW μ 12 i) = ((dnT μ p9 (i + 1)).1) := (by rw [dnT, if_pos ⟨c97, c108, Or.inl c114⟩])
                    have q6 : nI i = oI ((dnT μ p9 (i + 1)).2) := (by rw [dnT, if_pos ⟨c97, c108, Or.inl c114⟩]; rfl)
                    replace hl : lv_has ls 6 [(5, .int (nI (i + 1))), (4, .int (oI ((dnT μ p9 (i + 1)).2))), (2, .long ((dnT μ p9 (i + 1)).1)), (0, .ref (B 100)), (1, .int (nI p9))] := (congrArg (lv_has ls 6) (m_lc rfl (m_lc (congrArg Value.int q6) (m_lc (congrArg Value.long q5) (m_lc rfl (m_lc rfl rfl)))))).mp hl
                    exact ih81 (i + 1) (by omega) (by omega) _ _ hV hS ls (lv_sub hl [3, 4, 2, 1, 0] rfl)
                  · refine lv_aload_n hx hb dX5_down_117 rfl (lv_at hl 0 rfl) ?_
                    refine m_get (C := RX5) (T := TX5) (N := 34) hx hb hts hi_X5 hown hK hV 12 (v := .ref (B 12)) (g_m12 hM) rfl (by decide) k42 (fun _ h9 => h9) dX5_down_118 ?_
                    refine lv_iload hx hb dX5_down_121 (lv_at hl 4 rfl) ?_
                    refine m_lald hx hb hK hV 1 (i := nI i) (x := (kW μ 12 i)) (a_m12 hM) rfl (vp_in_nI (by omega) (by omega)) (by rw [nI_clamp (by omega)] <;> first | rfl | (show oI (va_up _ _ _ _) = _; rw [vu_s] <;> rfl) | (show va_up _ _ _ _ = _; rw [vu_s] <;> rfl)) dX5_down_123 ?_
                    refine lv_lload_n hx hb dX5_down_124 rfl (lv_at hl 2 rfl) ?_
                    refine m_lcmp_ge (tgt := 141) hx hb dX5_down_125 dX5_down_126 (by decide) (fun c126 => ?_) (fun c126 => ?_)
                    · refine lv_iinc (v := nI (i + 1)) (lv' := [(5, .int (nI (i + 1))), (0, .ref (B 100)), (1, .int (nI p9)), (2, .long ((dnT μ p9 i).1)), (4, .int (oI ((dnT μ p9 i).2)))]) hx hb dX5_down_141 hl (k := 4) rfl (show nI i + Int32.ofInt 1 = _ from nI_add i 1) (by decide) rfl (fun ls hl => ?_)
                      refine lv_goto (tgt := 81) hx hb dX5_down_144 (by decide) ?_
                      have q7 : ((dnT μ p9 i).1) = ((dnT μ p9 (i + 1)).1) := (by rw [dnT, if_neg (fun q => q.2.2.elim c114 (Int64.not_lt.mpr c126))])
                      have q8 : oI ((dnT μ p9 i).2) = oI ((dnT μ p9 (i + 1)).2) := (by rw [dnT, if_neg (fun q => q.2.2.elim c114 (Int64.not_lt.mpr c126))])
                      replace hl : lv_has ls 6 [(5, .int (nI (i + 1))), (0, .ref (B 100)), (1, .int (nI p9)), (2, .long ((dnT μ p9 (i + 1)).1)), (4, .int (oI ((dnT μ p9 (i + 1)).2)))] := (congrArg (lv_has ls 6) (m_lc rfl (m_lc rfl (m_lc rfl (m_lc (congrArg Value.long q7) (m_lc (congrArg Value.int q8) rfl)))))).mp hl
                      exact ih81 (i + 1) (by omega) (by omega) _ _ hV hS ls (lv_sub hl [1, 2, 3, 4, 0] rfl)
                    · refine lv_aload_n hx hb dX5_down_129 rfl (lv_at hl 0 rfl) ?_
                      refine m_get (C := RX5) (T := TX5) (N := 34) hx hb hts hi_X5 hown hK hV 12 (v := .ref (B 12)) (g_m12 hM) rfl (by decide) k42 (fun _ h9 => h9) dX5_down_130 ?_
                      refine lv_iload hx hb dX5_down_133 (lv_at hl 4 rfl) ?_
                      refine m_lald hx hb hK hV 1 (i := nI i) (x := (kW μ 12 i)) (a_m12 hM) rfl (vp_in_nI (by omega) (by omega)) (by rw [nI_clamp (by omega)] <;> first | rfl | (show oI (va_up _ _ _ _) = _; rw [vu_s] <;> rfl) | (show va_up _ _ _ _ = _; rw [vu_s] <;> rfl)) dX5_down_135 ?_
                      refine lv_lstore_n (lv' := [(2, .long (kW μ 12 i)), (0, .ref (B 100)), (1, .int (nI p9)), (4, .int (oI ((dnT μ p9 i).2))), (5, .int (nI i))]) hx hb dX5_down_136 rfl hl (by decide) rfl (fun ls hl => ?_)
                      refine lv_iload hx hb dX5_down_137 (lv_at hl 4 rfl) ?_
                      refine lv_istore (lv' := [(4, .int (nI i)), (2, .long (kW μ 12 i)), (0, .ref (B 100)), (1, .int (nI p9)), (5, .int (nI i))]) hx hb dX5_down_139 hl (by decide) rfl (fun ls hl => ?_)
                      refine lv_iinc (v := nI (i + 1)) (lv' := [(5, .int (nI (i + 1))), (4, .int (nI i)), (2, .long (kW μ 12 i)), (0, .ref (B 100)), (1, .int (nI p9))]) hx hb dX5_down_141 hl (k := 4) rfl (show nI i + Int32.ofInt 1 = _ from nI_add i 1) (by decide) rfl (fun ls hl => ?_)
                      refine lv_goto (tgt := 81) hx hb dX5_down_144 (by decide) ?_
                      have q9 : (kW μ 12 i) = ((dnT μ p9 (i + 1)).1) := (by rw [dnT, if_pos ⟨c97, c108, Or.inr (Int64.not_le.mp c126)⟩])
                      have q10 : nI i = oI ((dnT μ p9 (i + 1)).2) := (by rw [dnT, if_pos ⟨c97, c108, Or.inr (Int64.not_le.mp c126)⟩]; rfl)
                      replace hl : lv_has ls 6 [(5, .int (nI (i + 1))), (4, .int (oI ((dnT μ p9 (i + 1)).2))), (2, .long ((dnT μ p9 (i + 1)).1)), (0, .ref (B 100)), (1, .int (nI p9))] := (congrArg (lv_has ls 6) (m_lc rfl (m_lc (congrArg Value.int q10) (m_lc (congrArg Value.long q9) (m_lc rfl (m_lc rfl rfl)))))).mp hl
                      exact ih81 (i + 1) (by omega) (by omega) _ _ hV hS ls (lv_sub hl [3, 4, 2, 1, 0] rfl)
        have q11 : ((dnG μ p9 j).1) = ((dnT μ p9 0).1) := (by rw [show j = kN μ 9 0 - 1 by omega]; rfl)
        have q12 : oI ((dnG μ p9 j).2) = oI ((dnT μ p9 0).2) := (by rw [show j = kN μ 9 0 - 1 by omega]; rfl)
        have q13 : 0 = nI 0 := rfl
        replace hl : lv_has ls 6 [(5, .int (nI 0)), (0, .ref (B 100)), (1, .int (nI p9)), (2, .long ((dnT μ p9 0).1)), (4, .int (oI ((dnT μ p9 0).2)))] := (congrArg (lv_has ls 6) (m_lc (congrArg Value.int q13) (m_lc rfl (m_lc rfl (m_lc (congrArg Value.long q11) (m_lc (congrArg Value.int q12) rfl)))))).mp hl
        exact lp81 ((kN μ 24 0 - 0) + 1) 0 (Nat.zero_le _) (Nat.lt_succ_self _) _ _ hV hS ls (lv_sub hl [1, 2, 3, 4, 0] rfl)
      · replace c16 : ¬ kN μ 9 0 ≤ (j + 1) := fun q9 => c16 ((nI_leI (a := kN μ 9 0) (b := (j + 1)) (by omega) (by omega)).mpr q9)
        refine lv_aload_n hx hb dX5_down_19 rfl (lv_at hl 0 rfl) ?_
        refine m_get (C := RX5) (T := TX5) (N := 34) hx hb hts hi_X5 hown hK hV 6 (v := .ref (B 6)) (g_m6 hM) rfl (by decide) k23 (fun _ h9 => h9) dX5_down_20 ?_
        refine lv_iload hx hb dX5_down_23 (lv_at hl 4 rfl) ?_
        refine m_iald hx hb hK hV 0 (i := nI (j + 1)) (x := nI (kN μ 6 (j + 1))) (a_m6 hM) rfl (vp_in_nI (by omega) (by omega)) (by rw [nI_clamp (by omega)] <;> first | rfl | (show oI (va_up _ _ _ _) = _; rw [vu_s] <;> rfl) | (show va_up _ _ _ _ = _; rw [vu_s] <;> rfl)) dX5_down_25 ?_
        refine lv_iload_n hx hb dX5_down_26 rfl (lv_at hl 1 rfl) ?_
        have b27 := y4 (j + 1) (by omega) (by omega)
        refine lv_icmp_ne (tgt := 72) hx hb dX5_down_27 (by decide) (fun c27 => ?_) (fun c27 => ?_)
        · replace c27 : ¬ kN μ 6 (j + 1) = p9 := fun q9 => c27 ((nI_eq (a := kN μ 6 (j + 1)) (b := p9) (by omega) (by omega)).mpr q9)
          refine lv_iinc (v := nI ((j + 1) + 1)) (lv' := [(5, .int (nI ((j + 1) + 1))), (0, .ref (B 100)), (1, .int (nI p9)), (2, .long ((dnG μ p9 j).1)), (4, .int (oI ((dnG μ p9 j).2)))]) hx hb dX5_down_72 hl (k := 4) rfl (show nI (j + 1) + Int32.ofInt 1 = _ from nI_add (j + 1) 1) (by decide) rfl (fun ls hl => ?_)
          refine lv_goto (tgt := 10) hx hb dX5_down_75 (by decide) ?_
          have q14 : ((dnG μ p9 j).1) = ((dnG μ p9 (j + 1)).1) := (by rw [dnG, if_neg (fun q => c27 q.1)])
          have q15 : oI ((dnG μ p9 j).2) = oI ((dnG μ p9 (j + 1)).2) := (by rw [dnG, if_neg (fun q => c27 q.1)])
          replace hl : lv_has ls 6 [(5, .int (nI ((j + 1) + 1))), (0, .ref (B 100)), (1, .int (nI p9)), (2, .long ((dnG μ p9 (j + 1)).1)), (4, .int (oI ((dnG μ p9 (j + 1)).2)))] := (congrArg (lv_has ls 6) (m_lc rfl (m_lc rfl (m_lc rfl (m_lc (congrArg Value.long q14) (m_lc (congrArg Value.int q15) rfl)))))).mp hl
          exact ih10 (j + 1) (by omega) (by omega) _ _ hV hS ls (lv_sub hl [1, 2, 3, 4, 0] rfl)
        · replace c27 : kN μ 6 (j + 1) = p9 := (nI_eq (a := kN μ 6 (j + 1)) (b := p9) (by omega) (by omega)).mp c27
          refine lv_aload_n hx hb dX5_down_30 rfl (lv_at hl 0 rfl) ?_
          refine lv_iload hx hb dX5_down_31 (lv_at hl 4 rfl) ?_
          refine m_calli (va_runV (As := [.int (nI (j + 1))]) (rest := []) ⟨hx, hb, hml, hown, hts⟩ (c_X5_hasUnder (l := l) (H.size) hM (j + 1) (by omega)) (cwV 1 hts gX5_down_X5_hasUnder rfl rfl rfl (by decide +kernel) ⟨by decide, by decide⟩) (m_preV (r := (RX5, TX5, 34)) hE hV hS hA (hM.at 100 (by decide)) rfl) rfl rfl hl.1 rfl (lv_room (by first | exact Nat.le_of_ble_eq_true rfl | simp [rf_cat, ct_ref, ct_int, ct_null, ct_long])) dX5_down_33 ⟨by decide, by decide⟩) hV hS hA (fun r h1 H locs hV hS hp _ => ?_)
          obtain ⟨e1, e2⟩ := hp
          subst e2
          rw [e1] at hV; clear e1
          refine lv_if_eq (tgt := 72) hx hb dX5_down_36 (by decide) (fun c36 => ?_) (fun c36 => ?_)
          · replace c36 : (huM μ (j + 1) (kN μ 24 0)) = false := bI_0.mp c36
            refine lv_iinc (v := nI ((j + 1) + 1)) (lv' := [(5, .int (nI ((j + 1) + 1))), (0, .ref (B 100)), (1, .int (nI p9)), (2, .long ((dnG μ p9 j).1)), (4, .int (oI ((dnG μ p9 j).2)))]) hx hb dX5_down_72 hl (k := 4) rfl (show nI (j + 1) + Int32.ofInt 1 = _ from nI_add (j + 1) 1) (by decide) rfl (fun ls hl => ?_)
            refine lv_goto (tgt := 10) hx hb dX5_down_75 (by decide) ?_
            have q16 : ((dnG μ p9 j).1) = ((dnG μ p9 (j + 1)).1) := (by rw [dnG, if_neg (fun q => absurd q.2.1 (by rw [c36]; decide))])
            have q17 : oI ((dnG μ p9 j).2) = oI ((dnG μ p9 (j + 1)).2) := (by rw [dnG, if_neg (fun q => absurd q.2.1 (by rw [c36]; decide))])
            replace hl : lv_has ls 6 [(5, .int (nI ((j + 1) + 1))), (0, .ref (B 100)), (1, .int (nI p9)), (2, .long ((dnG μ p9 (j + 1)).1)), (4, .int (oI ((dnG μ p9 (j + 1)).2)))] := (congrArg (lv_has ls 6) (m_lc rfl (m_lc rfl (m_lc rfl (m_lc (congrArg Value.long q16) (m_lc (congrArg Value.int q17) rfl)))))).mp hl
            exact ih10 (j + 1) (by omega) (by omega) _ _ hV hS ls (lv_sub hl [1, 2, 3, 4, 0] rfl)
          · replace c36 : (huM μ (j + 1) (kN μ 24 0)) = true := bI_1.mp c36
            refine lv_lload_n hx hb dX5_down_39 rfl (lv_at hl 2 rfl) ?_
            refine lv_lconst (v := 0) hx hb dX5_down_40 (by decide) ?_
            refine m_lcmp_lt (tgt := 57) hx hb dX5_down_41 dX5_down_42 (by decide) (fun c42 => ?_) (fun c42 => ?_)
            · refine lv_aload_n hx hb dX5_down_57 rfl (lv_at hl 0 rfl) ?_
              refine m_get (C := RX5) (T := TX5) (N := 34) hx hb hts hi_X5 hown hK hV 8 (v := .ref (B 8)) (g_m8 hM) rfl (by decide) k29 (fun _ h9 => h9) dX5_down_58 ?_
              refine lv_iload hx hb dX5_down_61 (lv_at hl 4 rfl) ?_
              refine m_lald hx hb hK hV 1 (i := nI (j + 1)) (x := (kW μ 8 (j + 1))) (a_m8 hM) rfl (vp_in_nI (by omega) (by omega)) (by rw [nI_clamp (by omega)] <;> first | rfl | (show oI (va_up _ _ _ _) = _; rw [vu_s] <;> rfl) | (show va_up _ _ _ _ = _; rw [vu_s] <;> rfl)) dX5_down_63 ?_
              refine lv_lstore_n (lv' := [(2, .long (kW μ 8 (j + 1))), (0, .ref (B 100)), (1, .int (nI p9)), (4, .int (oI ((dnG μ p9 j).2))), (5, .int (nI (j + 1)))]) hx hb dX5_down_64 rfl hl (by decide) rfl (fun ls hl => ?_)
              refine lv_bipush (v := 100) hx hb dX5_down_65 (by decide) ?_
              refine lv_iload hx hb dX5_down_67 (lv_at hl 4 rfl) ?_
              refine lv_iadd hx hb dX5_down_69 ?_
              refine m_topi (y := nI (100 + (j + 1))) (nI_add 100 (j + 1)) ?_
              refine lv_istore (lv' := [(4, .int (nI (100 + (j + 1)))), (2, .long (kW μ 8 (j + 1))), (0, .ref (B 100)), (1, .int (nI p9)), (5, .int (nI (j + 1)))]) hx hb dX5_down_70 hl (by decide) rfl (fun ls hl => ?_)
              refine lv_iinc (v := nI ((j + 1) + 1)) (lv' := [(5, .int (nI ((j + 1) + 1))), (4, .int (nI (100 + (j + 1)))), (2, .long (kW μ 8 (j + 1))), (0, .ref (B 100)), (1, .int (nI p9))]) hx hb dX5_down_72 hl (k := 4) rfl (show nI (j + 1) + Int32.ofInt 1 = _ from nI_add (j + 1) 1) (by decide) rfl (fun ls hl => ?_)
              refine lv_goto (tgt := 10) hx hb dX5_down_75 (by decide) ?_
              have q18 : (kW μ 8 (j + 1)) = ((dnG μ p9 (j + 1)).1) := (by rw [dnG, if_pos ⟨c27, c36, Or.inl c42⟩])
              have q19 : nI (100 + (j + 1)) = oI ((dnG μ p9 (j + 1)).2) := (by rw [dnG, if_pos ⟨c27, c36, Or.inl c42⟩]; rfl)
              replace hl : lv_has ls 6 [(5, .int (nI ((j + 1) + 1))), (4, .int (oI ((dnG μ p9 (j + 1)).2))), (2, .long ((dnG μ p9 (j + 1)).1)), (0, .ref (B 100)), (1, .int (nI p9))] := (congrArg (lv_has ls 6) (m_lc rfl (m_lc (congrArg Value.int q19) (m_lc (congrArg Value.long q18) (m_lc rfl (m_lc rfl rfl)))))).mp hl
              exact ih10 (j + 1) (by omega) (by omega) _ _ hV hS ls (lv_sub hl [3, 4, 2, 1, 0] rfl)
            · refine lv_aload_n hx hb dX5_down_45 rfl (lv_at hl 0 rfl) ?_
              refine m_get (C := RX5) (T := TX5) (N := 34) hx hb hts hi_X5 hown hK hV 8 (v := .ref (B 8)) (g_m8 hM) rfl (by decide) k29 (fun _ h9 => h9) dX5_down_46 ?_
              refine lv_iload hx hb dX5_down_49 (lv_at hl 4 rfl) ?_
              refine m_lald hx hb hK hV 1 (i := nI (j + 1)) (x := (kW μ 8 (j + 1))) (a_m8 hM) rfl (vp_in_nI (by omega) (by omega)) (by rw [nI_clamp (by omega)] <;> first | rfl | (show oI (va_up _ _ _ _) = _; rw [vu_s] <;> rfl) | (show va_up _ _ _ _ = _; rw [vu_s] <;> rfl)) dX5_down_51 ?_
              refine lv_lload_n hx hb dX5_down_52 rfl (lv_at hl 2 rfl) ?_
              refine m_lcmp_ge (tgt := 72) hx hb dX5_down_53 dX5_down_54 (by decide) (fun c54 => ?_) (fun c54 => ?_)
              · refine lv_iinc (v := nI ((j + 1) + 1)) (lv' := [(5, .int (nI ((j + 1) + 1))), (0, .ref (B 100)), (1, .int (nI p9)), (2, .long ((dnG μ p9 j).1)), (4, .int (oI ((dnG μ p9 j).2)))]) hx hb dX5_down_72 hl (k := 4) rfl (show nI (j + 1) + Int32.ofInt 1 = _ from nI_add (j + 1) 1) (by decide) rfl (fun ls hl => ?_)
                refine lv_goto (tgt := 10) hx hb dX5_down_75 (by decide) ?_
                have q20 : ((dnG μ p9 j).1) = ((dnG μ p9 (j + 1)).1) := (by rw [dnG, if_neg (fun q => q.2.2.elim c42 (Int64.not_lt.mpr c54))])
                have q21 : oI ((dnG μ p9 j).2) = oI ((dnG μ p9 (j + 1)).2) := (by rw [dnG, if_neg (fun q => q.2.2.elim c42 (Int64.not_lt.mpr c54))])
                replace hl : lv_has ls 6 [(5, .int (nI ((j + 1) + 1))), (0, .ref (B 100)), (1, .int (nI p9)), (2, .long ((dnG μ p9 (j + 1)).1)), (4, .int (oI ((dnG μ p9 (j + 1)).2)))] := (congrArg (lv_has ls 6) (m_lc rfl (m_lc rfl (m_lc rfl (m_lc (congrArg Value.long q20) (m_lc (congrArg Value.int q21) rfl)))))).mp hl
                exact ih10 (j + 1) (by omega) (by omega) _ _ hV hS ls (lv_sub hl [1, 2, 3, 4, 0] rfl)
              · refine lv_aload_n hx hb dX5_down_57 rfl (lv_at hl 0 rfl) ?_
                refine m_get (C := RX5) (T := TX5) (N := 34) hx hb hts hi_X5 hown hK hV 8 (v := .ref (B 8)) (g_m8 hM) rfl (by decide) k29 (fun _ h9 => h9) dX5_down_58 ?_
                refine lv_iload hx hb dX5_down_61 (lv_at hl 4 rfl) ?_
                refine m_lald hx hb hK hV 1 (i := nI (j + 1)) (x := (kW μ 8 (j + 1))) (a_m8 hM) rfl (vp_in_nI (by omega) (by omega)) (by rw [nI_clamp (by omega)] <;> first | rfl | (show oI (va_up _ _ _ _) = _; rw [vu_s] <;> rfl) | (show va_up _ _ _ _ = _; rw [vu_s] <;> rfl)) dX5_down_63 ?_
                refine lv_lstore_n (lv' := [(2, .long (kW μ 8 (j + 1))), (0, .ref (B 100)), (1, .int (nI p9)), (4, .int (oI ((dnG μ p9 j).2))), (5, .int (nI (j + 1)))]) hx hb dX5_down_64 rfl hl (by decide) rfl (fun ls hl => ?_)
                refine lv_bipush (v := 100) hx hb dX5_down_65 (by decide) ?_
                refine lv_iload hx hb dX5_down_67 (lv_at hl 4 rfl) ?_
                refine lv_iadd hx hb dX5_down_69 ?_
                refine m_topi (y := nI (100 + (j + 1))) (nI_add 100 (j + 1)) ?_
                refine lv_istore (lv' := [(4, .int (nI (100 + (j + 1)))), (2, .long (kW μ 8 (j + 1))), (0, .ref (B 100)), (1, .int (nI p9)), (5, .int (nI (j + 1)))]) hx hb dX5_down_70 hl (by decide) rfl (fun ls hl => ?_)
                refine lv_iinc (v := nI ((j + 1) + 1)) (lv' := [(5, .int (nI ((j + 1) + 1))), (4, .int (nI (100 + (j + 1)))), (2, .long (kW μ 8 (j + 1))), (0, .ref (B 100)), (1, .int (nI p9))]) hx hb dX5_down_72 hl (k := 4) rfl (show nI (j + 1) + Int32.ofInt 1 = _ from nI_add (j + 1) 1) (by decide) rfl (fun ls hl => ?_)
                refine lv_goto (tgt := 10) hx hb dX5_down_75 (by decide) ?_
                have q22 : (kW μ 8 (j + 1)) = ((dnG μ p9 (j + 1)).1) := (by rw [dnG, if_pos ⟨c27, c36, Or.inr (Int64.not_le.mp c54)⟩])
                have q23 : nI (100 + (j + 1)) = oI ((dnG μ p9 (j + 1)).2) := (by rw [dnG, if_pos ⟨c27, c36, Or.inr (Int64.not_le.mp c54)⟩]; rfl)
                replace hl : lv_has ls 6 [(5, .int (nI ((j + 1) + 1))), (4, .int (oI ((dnG μ p9 (j + 1)).2))), (2, .long ((dnG μ p9 (j + 1)).1)), (0, .ref (B 100)), (1, .int (nI p9))] := (congrArg (lv_has ls 6) (m_lc rfl (m_lc (congrArg Value.int q23) (m_lc (congrArg Value.long q22) (m_lc rfl (m_lc rfl rfl)))))).mp hl
                exact ih10 (j + 1) (by omega) (by omega) _ _ hV hS ls (lv_sub hl [3, 4, 2, 1, 0] rfl)
  have q24 : (-1) = ((dnG μ p9 0).1) := rfl
  have q25 : (-1) = oI ((dnG μ p9 0).2) := rfl
  have q26 : 1 = nI (0 + 1) := rfl
  replace hl : lv_has ls 6 [(5, .int (nI (0 + 1))), (4, .int (oI ((dnG μ p9 0).2))), (2, .long ((dnG μ p9 0).1)), (0, .ref (B 100)), (1, .int (nI p9))] := (congrArg (lv_has ls 6) (m_lc (congrArg Value.int q26) (m_lc (congrArg Value.int q25) (m_lc (congrArg Value.long q24) (m_lc rfl (m_lc rfl rfl)))))).mp hl
  exact lp10 ((kN μ 9 0 - 0) + 1) 0 (by omega) (Nat.lt_succ_self _) _ _ hV hS ls (lv_sub hl [3, 4, 2, 1, 0] rfl)
set_option maxHeartbeats 4000000 in
set_option maxRecDepth 100000 in
theorem c_X5_down_3 {l : Launch} {D : va_G} {cs : mC} {df : Nat} {P : Nat → Prop} {h0 : mH} {B : Nat → Nat} {μ : KS} {hh : mH} (sz : Nat) (hM : DRep cs P h0 B μ hh) (p9 : Nat) (hp9 : p9 < kN μ 9 0) (hd : kN μ 9 0 ≤ p9 + 3) : Met l yX5_down wsX5_down ({ frames := 4, cells := 0, slots := 0, locals := 96 }) (mPre [.ref (B 100), .int (nI p9)] D cs df hh sz) (va_Qi ((fun (r : Int32) (h1 : mH) => h1 = hh ∧ r = oI (dnM μ 3 p9))) (mB D hh sz) (mA hh sz)) 0 0 (mA hh sz) := by
  refine Met.ofW (cc := cX5_down) (maxL := 6) (ret := (some .int)) (by decide) rfl ?_
  intro p e s m args below meth c s₁ B0 hml hv
  obtain ⟨hargs, hsz, hV, hE⟩ := hv
  subst hsz
  have hx := B0.exec
  have hb := B0.bytes
  have hr := B0.returns
  have hlocks := B0.notSynchronized
  have hts := atoms_spec (ws := wsX5_down) B0.pre
  have hown : s.vm.findClass RX5 = some m.cls := findClass_of_methodNamed B0.named
  have hK := hE.1.1
  have hA : ∀ q : Nat, s.heap.size ≤ q → mA hh s.heap.size q := mA.top
  have hS : va_S (mA hh s.heap.size) s.heap s.heap [] := va_S.rf
  have kk115 : (Cond.constantLong RX5 115 (-1)).before args s = true := hts _ (by decide +kernel)
  have hi_X5 : ∀ w ∈ u_ws RX5 TX5 34, w ∈ wsX5_down := by decide +kernel
  have k33 : (Cond.fieldLink RX5 33 "TaskKernelModel" "groups" "I").before args s = true := hts _ (by decide +kernel)
  have k117 : (Cond.fieldLink RX5 117 "TaskKernelModel" "tasks" "I").before args s = true := hts _ (by decide +kernel)
  have k88 : (Cond.fieldLink RX5 88 "TaskKernelModel" "isIn" "[Z").before args s = true := hts _ (by decide +kernel)
  have k36 : (Cond.fieldLink RX5 36 "TaskKernelModel" "groupOf" "[I").before args s = true := hts _ (by decide +kernel)
  have k42 : (Cond.fieldLink RX5 42 "TaskKernelModel" "times" "[J").before args s = true := hts _ (by decide +kernel)
  have k23 : (Cond.fieldLink RX5 23 "TaskKernelModel" "parents" "[I").before args s = true := hts _ (by decide +kernel)
  have k29 : (Cond.fieldLink RX5 29 "TaskKernelModel" "groupTimes" "[J").before args s = true := hts _ (by decide +kernel)
  have hl := lv_entry ([.ref (B 100), .int (nI p9)]) (n := 6) (by first | exact Nat.le_of_ble_eq_true rfl | simp [lg_sl, rf_cat, ct_ref, ct_int, ct_null, ct_long])
  have hent := lg_entry_eq m ([.ref (B 100), .int (nI p9)]) 6
  rw [← hargs] at hent
  rw [hent]
  generalize (lg_sl ([.ref (B 100), .int (nI p9)]) ++ List.replicate (6 - (lg_sl ([.ref (B 100), .int (nI p9)])).length) Slot.unset).toArray = ls at hl ⊢
  replace hl : lv_has ls 6 [(0, .ref (B 100)), (1, .int (nI p9))] := hl
  have hwf := hM.wf
  obtain ⟨⟨y0, y1, y2, y3⟩, y4, y5, y6, y7⟩ := hwf
  refine lv_ldc2 (v := (-1)) hx hb hown kk115 dX5_down_0 ?_
  refine lv_lstore_n (lv' := [(2, .long (-1)), (0, .ref (B 100)), (1, .int (nI p9))]) hx hb dX5_down_3 rfl hl (by decide) rfl (fun ls hl => ?_)
  refine lv_iconst (v := (-1)) hx hb dX5_down_4 (by decide) ?_
  refine lv_istore (lv' := [(4, .int (-1)), (2, .long (-1)), (0, .ref (B 100)), (1, .int (nI p9))]) hx hb dX5_down_5 hl (by decide) rfl (fun ls hl => ?_)
  refine lv_iconst (v := 1) hx hb dX5_down_7 (by decide) ?_
  refine lv_istore (lv' := [(5, .int 1), (4, .int (-1)), (2, .long (-1)), (0, .ref (B 100)), (1, .int (nI p9))]) hx hb dX5_down_8 hl (by decide) rfl (fun ls hl => ?_)
  have lp10 : ∀ (fu : Nat) (j : Nat), (j + 1 ≤ kN μ 9 0) → kN μ 9 0 - j < fu → ∀ (H : Heap) (locs : List Loc), mV D hh (mA hh s.heap.size) H → va_S (mA hh s.heap.size) s.heap H locs → ∀ (ls : Array Slot), lv_has ls 6 [(0, .ref (B 100)), (1, .int (nI p9)), (2, .long ((dnG μ p9 j).1)), (4, .int (oI ((dnG μ p9 j).2))), (5, .int (nI (j + 1)))] → W p l e ({ frames := 4, cells := 0, slots := 0, locals := 96 } : Room) s m args below meth c H locs 0 0 (MQ below (va_Qi ((fun (r : Int32) (h1 : mH) => h1 = hh ∧ r = oI (dnM μ 3 p9))) (mB D hh s.heap.size) (mA hh s.heap.size)) args s 0 0 (mA hh s.heap.size)) (F0 m 10 ls []) := by
    intro fu
    induction fu with
    | zero =>
      intro j hj hfu
      exact absurd hfu (Nat.not_lt_zero _)
    | succ fu ih10 =>
      intro j hj hfu H locs hV hS ls hl
      refine lv_iload hx hb dX5_down_10 (lv_at hl 4 rfl) ?_
      refine lv_aload_n hx hb dX5_down_12 rfl (lv_at hl 0 rfl) ?_
      refine m_get (C := RX5) (T := TX5) (N := 34) hx hb hts hi_X5 hown hK hV 9 (v := .int (nI (kN μ 9 0))) (by have z9 := g_m9 hM; exact z9) rfl (by decide) k33 (fun _ h9 => h9) dX5_down_13 ?_
      refine lv_icmp_ge (tgt := 78) hx hb dX5_down_16 (by decide) (fun c16 => ?_) (fun c16 => ?_)
      · replace c16 : kN μ 9 0 ≤ (j + 1) := (nI_leI (a := kN μ 9 0) (b := (j + 1)) (by omega) (by omega)).mp c16
        refine lv_iconst (v := 0) hx hb dX5_down_78 (by decide) ?_
        refine lv_istore (lv' := [(5, .int 0), (0, .ref (B 100)), (1, .int (nI p9)), (2, .long ((dnG μ p9 j).1)), (4, .int (oI ((dnG μ p9 j).2)))]) hx hb dX5_down_79 hl (by decide) rfl (fun ls hl => ?_)
        have lp81 : ∀ (fu : Nat) (i : Nat), (i ≤ kN μ 24 0) → kN μ 24 0 - i < fu → ∀ (H : Heap) (locs : List Loc), mV D hh (mA hh s.heap.size) H → va_S (mA hh s.heap.size) s.heap H locs → ∀ (ls : Array Slot), lv_has ls 6 [(0, .ref (B 100)), (1, .int (nI p9)), (2, .long ((dnT μ p9 i).1)), (4, .int (oI ((dnT μ p9 i).2))), (5, .int (nI i))] → W p l e ({ frames := 4, cells := 0, slots := 0, locals := 96 } : Room) s m args below meth c H locs 0 0 (MQ below (va_Qi ((fun (r : Int32) (h1 : mH) => h1 = hh ∧ r = oI (dnM μ 3 p9))) (mB D hh s.heap.size) (mA hh s.heap.size)) args s 0 0 (mA hh s.heap.size)) (F0 m 81 ls []) := by
          intro fu
          induction fu with
          | zero =>
            intro i hi hfu
            exact absurd hfu (Nat.not_lt_zero _)
          | succ fu ih81 =>
            intro i hi hfu H locs hV hS ls hl
            refine lv_iload hx hb dX5_down_81 (lv_at hl 4 rfl) ?_
            refine lv_aload_n hx hb dX5_down_83 rfl (lv_at hl 0 rfl) ?_
            refine m_get (C := RX5) (T := TX5) (N := 34) hx hb hts hi_X5 hown hK hV 24 (v := .int (nI (kN μ 24 0))) (by have z9 := g_m24 hM; exact z9) rfl (by decide) k117 (fun _ h9 => h9) dX5_down_84 ?_
            refine lv_icmp_ge (tgt := 147) hx hb dX5_down_87 (by decide) (fun c87 => ?_) (fun c87 => ?_)
            · replace c87 : kN μ 24 0 ≤ i := (nI_leI (a := kN μ 24 0) (b := i) (by omega) (by omega)).mp c87
              rw [show i = kN μ 24 0 by omega] at hl
              replace hl : lv_has ls 6 [(0, .ref (B 100)), (1, .int (nI p9)), (4, .int (oI (dnE μ p9)))] := lv_sub hl [0, 1, 3] rfl
              rcases e9 : dnE μ p9 with _ | mb
              · replace hl : lv_has ls 6 [(0, .ref (B 100)), (1, .int (nI p9)), (4, .int (-1))] := by have h9 := hl; rw [e9] at h9; exact h9
                refine lv_iload hx hb dX5_down_147 (lv_at hl 2 rfl) ?_
                refine lv_bipush (v := 100) hx hb dX5_down_149 (by decide) ?_
                refine lv_icmp_lt (tgt := 166) hx hb dX5_down_151 (by decide) (fun c151 => ?_) (fun c151 => (absurd (by decide) c151))
                refine lv_iload hx hb dX5_down_166 (lv_at hl 2 rfl) ?_
                exact m_iret (v := (-1)) hx hb hr hlocks hV hS (⟨rfl, by (conv => rhs; rw [dnM, e9]); try rfl⟩) dX5_down_168
              · replace hl : lv_has ls 6 [(0, .ref (B 100)), (1, .int (nI p9)), (4, .int (nI mb))] := by have h9 := hl; rw [e9] at h9; exact h9
                have bm := dnT_lt y1 e9
                refine lv_iload hx hb dX5_down_147 (lv_at hl 2 rfl) ?_
                refine lv_bipush (v := 100) hx hb dX5_down_149 (by decide) ?_
                refine lv_icmp_lt (tgt := 166) hx hb dX5_down_151 (by decide) (fun c151 => ?_) (fun c151 => ?_)
                · replace c151 : mb < 100 := (nI_ltI (a := mb) (b := 100) (by omega) (by omega)).mp c151
                  refine lv_iload hx hb dX5_down_166 (lv_at hl 2 rfl) ?_
                  exact m_iret (v := nI mb) hx hb hr hlocks hV hS (⟨rfl, by (conv => rhs; rw [dnM, e9]; dsimp only; rw [if_neg (by omega)]); try rfl⟩) dX5_down_168
                · replace c151 : ¬ mb < 100 := fun q9 => c151 ((nI_ltI (a := mb) (b := 100) (by omega) (by omega)).mpr q9)
                  refine lv_aload_n hx hb dX5_down_154 rfl (lv_at hl 0 rfl) ?_
                  refine lv_iload hx hb dX5_down_155 (lv_at hl 2 rfl) ?_
                  refine lv_bipush (v := 100) hx hb dX5_down_157 (by decide) ?_
                  refine lv_isub hx hb dX5_down_159 ?_
                  refine m_topi (y := nI (mb - 100)) (pk_sub (a := mb) (b := 100) (by omega)) ?_
                  refine m_calli (va_runV (As := [.int (nI (mb - 100))]) (rest := []) ⟨hx, hb, hml, hown, hts⟩ (c_X5_down_2 (l := l) (H.size) hM (mb - 100) (by omega) (by have z9 := y4 (mb - 100) (by omega) (by omega); omega)) (cwV 1 hts gX5_down_X5_down rfl rfl rfl (by decide +kernel) ⟨by decide, by decide⟩) (m_preV (r := (RX5, TX5, 34)) hE hV hS hA (hM.at 100 (by decide)) rfl) rfl rfl hl.1 rfl (lv_room (by first | exact Nat.le_of_ble_eq_true rfl | simp [rf_cat, ct_ref, ct_int, ct_null, ct_long])) dX5_down_160 ⟨by decide, by decide⟩) hV hS hA (fun r h1 H locs hV hS hp _ => ?_)
                  obtain ⟨e1, e2⟩ := hp
                  subst e2
                  rw [e1] at hV; clear e1
                  refine lv_goto (tgt := 168) hx hb dX5_down_163 (by decide) ?_
                  exact m_iret (v := oI (dnM μ 2 (mb - 100))) hx hb hr hlocks hV hS (⟨rfl, by (conv => rhs; rw [dnM, e9]; dsimp only; rw [if_pos (by omega)]); try rfl⟩) dX5_down_168
            · replace c87 : ¬ kN μ 24 0 ≤ i := fun q9 => c87 ((nI_leI (a := kN μ 24 0) (b := i) (by omega) (by omega)).mpr q9)
              refine lv_aload_n hx hb dX5_down_90 rfl (lv_at hl 0 rfl) ?_
              refine m_get (C := RX5) (T := TX5) (N := 34) hx hb hts hi_X5 hown hK hV 32 (v := .ref (B 32)) (g_m32 hM) rfl (by decide) k88 (fun _ h9 => h9) dX5_down_91 ?_
              refine lv_iload hx hb dX5_down_94 (lv_at hl 4 rfl) ?_
              refine m_zald hx hb hK hV 2 (i := nI i) (x := bI (kB μ 32 i)) (a_m32 hM) rfl (vp_in_nI (by omega) (by omega)) (by rw [nI_clamp (by omega)] <;> first | rfl | (show oI (va_up _ _ _ _) = _; rw [vu_s] <;> rfl) | (show va_up _ _ _ _ = _; rw [vu_s] <;> rfl)) dX5_down_96 ?_
              refine lv_if_eq (tgt := 141) hx hb dX5_down_97 (by decide) (fun c97 => ?_) (fun c97 => ?_)
              · replace c97 : kB μ 32 i = false := bI_0.mp c97
                refine lv_iinc (v := nI (i + 1)) (lv' := [(5, .int (nI (i + 1))), (0, .ref (B 100)), (1, .int (nI p9)), (2, .long ((dnT μ p9 i).1)), (4, .int (oI ((dnT μ p9 i).2)))]) hx hb dX5_down_141 hl (k := 4) rfl (show nI i + Int32.ofInt 1 = _ from nI_add i 1) (by decide) rfl (fun ls hl => ?_)
                refine lv_goto (tgt := 81) hx hb dX5_down_144 (by decide) ?_
                have q1 : ((dnT μ p9 i).1) = ((dnT μ p9 (i + 1)).1) := (by rw [dnT, if_neg (fun q => absurd q.1 (by rw [c97]; decide))])
                have q2 : oI ((dnT μ p9 i).2) = oI ((dnT μ p9 (i + 1)).2) := (by rw [dnT, if_neg (fun q => absurd q.1 (by rw [c97]; decide))])
                replace hl : lv_has ls 6 [(5, .int (nI (i + 1))), (0, .ref (B 100)), (1, .int (nI p9)), (2, .long ((dnT μ p9 (i + 1)).1)), (4, .int (oI ((dnT μ p9 (i + 1)).2)))] := (congrArg (lv_has ls 6) (m_lc rfl (m_lc rfl (m_lc rfl (m_lc (congrArg Value.long q1) (m_lc (congrArg Value.int q2) rfl)))))).mp hl
                exact ih81 (i + 1) (by omega) (by omega) _ _ hV hS ls (lv_sub hl [1, 2, 3, 4, 0] rfl)
              · replace c97 : kB μ 32 i = true := bI_1.mp c97
                refine lv_aload_n hx hb dX5_down_100 rfl (lv_at hl 0 rfl) ?_
                refine m_get (C := RX5) (T := TX5) (N := 34) hx hb hts hi_X5 hown hK hV 10 (v := .ref (B 10)) (g_m10 hM) rfl (by decide) k36 (fun _ h9 => h9) dX5_down_101 ?_
                refine lv_iload hx hb dX5_down_104 (lv_at hl 4 rfl) ?_
                refine m_iald hx hb hK hV 0 (i := nI i) (x := nI (kN μ 10 i)) (a_m10 hM) rfl (vp_in_nI (by omega) (by omega)) (by rw [nI_clamp (by omega)] <;> first | rfl | (show oI (va_up _ _ _ _) = _; rw [vu_s] <;> rfl) | (show va_up _ _ _ _ = _; rw [vu_s] <;> rfl)) dX5_down_106 ?_
                refine lv_iload_n hx hb dX5_down_107 rfl (lv_at hl 1 rfl) ?_
                have b108 := y5 i (by omega)
                refine lv_icmp_ne (tgt := 141) hx hb dX5_down_108 (by decide) (fun c108 => ?_) (fun c108 => ?_)
                · replace c108 : ¬ kN μ 10 i = p9 := fun q9 => c108 ((nI_eq (a := kN μ 10 i) (b := p9) (by omega) (by omega)).mpr q9)
                  refine lv_iinc (v := nI (i + 1)) (lv' := [(5, .int (nI (i + 1))), (0, .ref (B 100)), (1, .int (nI p9)), (2, .long ((dnT μ p9 i).1)), (4, .int (oI ((dnT μ p9 i).2)))]) hx hb dX5_down_141 hl (k := 4) rfl (show nI i + Int32.ofInt 1 = _ from nI_add i 1) (by decide) rfl (fun ls hl => ?_)
                  refine lv_goto (tgt := 81) hx hb dX5_down_144 (by decide) ?_
                  have q3 : ((dnT μ p9 i).1) = ((dnT μ p9 (i + 1)).1) := (by rw [dnT, if_neg (fun q => c108 q.2.1)])
                  have q4 : oI ((dnT μ p9 i).2) = oI ((dnT μ p9 (i + 1)).2) := (by rw [dnT, if_neg (fun q => c108 q.2.1)])
                  replace hl : lv_has ls 6 [(5, .int (nI (i + 1))), (0, .ref (B 100)), (1, .int (nI p9)), (2, .long ((dnT μ p9 (i + 1)).1)), (4, .int (oI ((dnT μ p9 (i + 1)).2)))] := (congrArg (lv_has ls 6) (m_lc rfl (m_lc rfl (m_lc rfl (m_lc (congrArg Value.long q3) (m_lc (congrArg Value.int q4) rfl)))))).mp hl
                  exact ih81 (i + 1) (by omega) (by omega) _ _ hV hS ls (lv_sub hl [1, 2, 3, 4, 0] rfl)
                · replace c108 : kN μ 10 i = p9 := (nI_eq (a := kN μ 10 i) (b := p9) (by omega) (by omega)).mp c108
                  refine lv_lload_n hx hb dX5_down_111 rfl (lv_at hl 2 rfl) ?_
                  refine lv_lconst (v := 0) hx hb dX5_down_112 (by decide) ?_
                  refine m_lcmp_lt (tgt := 129) hx hb dX5_down_113 dX5_down_114 (by decide) (fun c114 => ?_) (fun c114 => ?_)
                  · refine lv_aload_n hx hb dX5_down_129 rfl (lv_at hl 0 rfl) ?_
                    refine m_get (C := RX5) (T := TX5) (N := 34) hx hb hts hi_X5 hown hK hV 12 (v := .ref (B 12)) (g_m12 hM) rfl (by decide) k42 (fun _ h9 => h9) dX5_down_130 ?_
                    refine lv_iload hx hb dX5_down_133 (lv_at hl 4 rfl) ?_
                    refine m_lald hx hb hK hV 1 (i := nI i) (x := (kW μ 12 i)) (a_m12 hM) rfl (vp_in_nI (by omega) (by omega)) (by rw [nI_clamp (by omega)] <;> first | rfl | (show oI (va_up _ _ _ _) = _; rw [vu_s] <;> rfl) | (show va_up _ _ _ _ = _; rw [vu_s] <;> rfl)) dX5_down_135 ?_
                    refine lv_lstore_n (lv' := [(2, .long (kW μ 12 i)), (0, .ref (B 100)), (1, .int (nI p9)), (4, .int (oI ((dnT μ p9 i).2))), (5, .int (nI i))]) hx hb dX5_down_136 rfl hl (by decide) rfl (fun ls hl => ?_)
                    refine lv_iload hx hb dX5_down_137 (lv_at hl 4 rfl) ?_
                    refine lv_istore (lv' := [(4, .int (nI i)), (2, .long (kW μ 12 i)), (0, .ref (B 100)), (1, .int (nI p9)), (5, .int (nI i))]) hx hb dX5_down_139 hl (by decide) rfl (fun ls hl => ?_)
                    refine lv_iinc (v := nI (i + 1)) (lv' := [(5, .int (nI (i + 1))), (4, .int (nI i)), (2, .long (kW μ 12 i)), (0, .ref (B 100)), (1, .int (nI p9))]) hx hb dX5_down_141 hl (k := 4) rfl (show nI i + Int32.ofInt 1 = _ from nI_add i 1) (by decide) rfl (fun ls hl => ?_)
                    refine lv_goto (tgt := 81) hx hb dX5_down_144 (by decide) ?_
                    have q5 : (kW μ 12 i) = ((dnT μ p9 (i + 1)).1) := (by rw [dnT, if_pos ⟨c97, c108, Or.inl c114⟩])
                    have q6 : nI i = oI ((dnT μ p9 (i + 1)).2) := (by rw [dnT, if_pos ⟨c97, c108, Or.inl c114⟩]; rfl)
                    replace hl : lv_has ls 6 [(5, .int (nI (i + 1))), (4, .int (oI ((dnT μ p9 (i + 1)).2))), (2, .long ((dnT μ p9 (i + 1)).1)), (0, .ref (B 100)), (1, .int (nI p9))] := (congrArg (lv_has ls 6) (m_lc rfl (m_lc (congrArg Value.int q6) (m_lc (congrArg Value.long q5) (m_lc rfl (m_lc rfl rfl)))))).mp hl
                    exact ih81 (i + 1) (by omega) (by omega) _ _ hV hS ls (lv_sub hl [3, 4, 2, 1, 0] rfl)
                  · refine lv_aload_n hx hb dX5_down_117 rfl (lv_at hl 0 rfl) ?_
                    refine m_get (C := RX5) (T := TX5) (N := 34) hx hb hts hi_X5 hown hK hV 12 (v := .ref (B 12)) (g_m12 hM) rfl (by decide) k42 (fun _ h9 => h9) dX5_down_118 ?_
                    refine lv_iload hx hb dX5_down_121 (lv_at hl 4 rfl) ?_
                    refine m_lald hx hb hK hV 1 (i := nI i) (x := (kW μ 12 i)) (a_m12 hM) rfl (vp_in_nI (by omega) (by omega)) (by rw [nI_clamp (by omega)] <;> first | rfl | (show oI (va_up _ _ _ _) = _; rw [vu_s] <;> rfl) | (show va_up _ _ _ _ = _; rw [vu_s] <;> rfl)) dX5_down_123 ?_
                    refine lv_lload_n hx hb dX5_down_124 rfl (lv_at hl 2 rfl) ?_
                    refine m_lcmp_ge (tgt := 141) hx hb dX5_down_125 dX5_down_126 (by decide) (fun c126 => ?_) (fun c126 => ?_)
                    · refine lv_iinc (v := nI (i + 1)) (lv' := [(5, .int (nI (i + 1))), (0, .ref (B 100)), (1, .int (nI p9)), (2, .long ((dnT μ p9 i).1)), (4, .int (oI ((dnT μ p9 i).2)))]) hx hb dX5_down_141 hl (k := 4) rfl (show nI i + Int32.ofInt 1 = _ from nI_add i 1) (by decide) rfl (fun ls hl => ?_)
                      refine lv_goto (tgt := 81) hx hb dX5_down_144 (by decide) ?_
                      have q7 : ((dnT μ p9 i).1) = ((dnT μ p9 (i + 1)).1) := (by rw [dnT, if_neg (fun q => q.2.2.elim c114 (Int64.not_lt.mpr c126))])
                      have q8 : oI ((dnT μ p9 i).2) = oI ((dnT μ p9 (i + 1)).2) := (by rw [dnT, if_neg (fun q => q.2.2.elim c114 (Int64.not_lt.mpr c126))])
                      replace hl : lv_has ls 6 [(5, .int (nI (i + 1))), (0, .ref (B 100)), (1, .int (nI p9)), (2, .long ((dnT μ p9 (i + 1)).1)), (4, .int (oI ((dnT μ p9 (i + 1)).2)))] := (congrArg (lv_has ls 6) (m_lc rfl (m_lc rfl (m_lc rfl (m_lc (congrArg Value.long q7) (m_lc (congrArg Value.int q8) rfl)))))).mp hl
                      exact ih81 (i + 1) (by omega) (by omega) _ _ hV hS ls (lv_sub hl [1, 2, 3, 4, 0] rfl)
                    · refine lv_aload_n hx hb dX5_down_129 rfl (lv_at hl 0 rfl) ?_
                      refine m_get (C := RX5) (T := TX5) (N := 34) hx hb hts hi_X5 hown hK hV 12 (v := .ref (B 12)) (g_m12 hM) rfl (by decide) k42 (fun _ h9 => h9) dX5_down_130 ?_
                      refine lv_iload hx hb dX5_down_133 (lv_at hl 4 rfl) ?_
                      refine m_lald hx hb hK hV 1 (i := nI i) (x := (kW μ 12 i)) (a_m12 hM) rfl (vp_in_nI (by omega) (by omega)) (by rw [nI_clamp (by omega)] <;> first | rfl | (show oI (va_up _ _ _ _) = _; rw [vu_s] <;> rfl) | (show va_up _ _ _ _ = _; rw [vu_s] <;> rfl)) dX5_down_135 ?_
                      refine lv_lstore_n (lv' := [(2, .long (kW μ 12 i)), (0, .ref (B 100)), (1, .int (nI p9)), (4, .int (oI ((dnT μ p9 i).2))), (5, .int (nI i))]) hx hb dX5_down_136 rfl hl (by decide) rfl (fun ls hl => ?_)
                      refine lv_iload hx hb dX5_down_137 (lv_at hl 4 rfl) ?_
                      refine lv_istore (lv' := [(4, .int (nI i)), (2, .long (kW μ 12 i)), (0, .ref (B 100)), (1, .int (nI p9)), (5, .int (nI i))]) hx hb dX5_down_139 hl (by decide) rfl (fun ls hl => ?_)
                      refine lv_iinc (v := nI (i + 1)) (lv' := [(5, .int (nI (i + 1))), (4, .int (nI i)), (2, .long (kW μ 12 i)), (0, .ref (B 100)), (1, .int (nI p9))]) hx hb dX5_down_141 hl (k := 4) rfl (show nI i + Int32.ofInt 1 = _ from nI_add i 1) (by decide) rfl (fun ls hl => ?_)
                      refine lv_goto (tgt := 81) hx hb dX5_down_144 (by decide) ?_
                      have q9 : (kW μ 12 i) = ((dnT μ p9 (i + 1)).1) := (by rw [dnT, if_pos ⟨c97, c108, Or.inr (Int64.not_le.mp c126)⟩])
                      have q10 : nI i = oI ((dnT μ p9 (i + 1)).2) := (by rw [dnT, if_pos ⟨c97, c108, Or.inr (Int64.not_le.mp c126)⟩]; rfl)
                      replace hl : lv_has ls 6 [(5, .int (nI (i + 1))), (4, .int (oI ((dnT μ p9 (i + 1)).2))), (2, .long ((dnT μ p9 (i + 1)).1)), (0, .ref (B 100)), (1, .int (nI p9))] := (congrArg (lv_has ls 6) (m_lc rfl (m_lc (congrArg Value.int q10) (m_lc (congrArg Value.long q9) (m_lc rfl (m_lc rfl rfl)))))).mp hl
                      exact ih81 (i + 1) (by omega) (by omega) _ _ hV hS ls (lv_sub hl [3, 4, 2, 1, 0] rfl)
        have q11 : ((dnG μ p9 j).1) = ((dnT μ p9 0).1) := (by rw [show j = kN μ 9 0 - 1 by omega]; rfl)
        have q12 : oI ((dnG μ p9 j).2) = oI ((dnT μ p9 0).2) := (by rw [show j = kN μ 9 0 - 1 by omega]; rfl)
        have q13 : 0 = nI 0 := rfl
        replace hl : lv_has ls 6 [(5, .int (nI 0)), (0, .ref (B 100)), (1, .int (nI p9)), (2, .long ((dnT μ p9 0).1)), (4, .int (oI ((dnT μ p9 0).2)))] := (congrArg (lv_has ls 6) (m_lc (congrArg Value.int q13) (m_lc rfl (m_lc rfl (m_lc (congrArg Value.long q11) (m_lc (congrArg Value.int q12) rfl)))))).mp hl
        exact lp81 ((kN μ 24 0 - 0) + 1) 0 (Nat.zero_le _) (Nat.lt_succ_self _) _ _ hV hS ls (lv_sub hl [1, 2, 3, 4, 0] rfl)
      · replace c16 : ¬ kN μ 9 0 ≤ (j + 1) := fun q9 => c16 ((nI_leI (a := kN μ 9 0) (b := (j + 1)) (by omega) (by omega)).mpr q9)
        refine lv_aload_n hx hb dX5_down_19 rfl (lv_at hl 0 rfl) ?_
        refine m_get (C := RX5) (T := TX5) (N := 34) hx hb hts hi_X5 hown hK hV 6 (v := .ref (B 6)) (g_m6 hM) rfl (by decide) k23 (fun _ h9 => h9) dX5_down_20 ?_
        refine lv_iload hx hb dX5_down_23 (lv_at hl 4 rfl) ?_
        refine m_iald hx hb hK hV 0 (i := nI (j + 1)) (x := nI (kN μ 6 (j + 1))) (a_m6 hM) rfl (vp_in_nI (by omega) (by omega)) (by rw [nI_clamp (by omega)] <;> first | rfl | (show oI (va_up _ _ _ _) = _; rw [vu_s] <;> rfl) | (show va_up _ _ _ _ = _; rw [vu_s] <;> rfl)) dX5_down_25 ?_
        refine lv_iload_n hx hb dX5_down_26 rfl (lv_at hl 1 rfl) ?_
        have b27 := y4 (j + 1) (by omega) (by omega)
        refine lv_icmp_ne (tgt := 72) hx hb dX5_down_27 (by decide) (fun c27 => ?_) (fun c27 => ?_)
        · replace c27 : ¬ kN μ 6 (j + 1) = p9 := fun q9 => c27 ((nI_eq (a := kN μ 6 (j + 1)) (b := p9) (by omega) (by omega)).mpr q9)
          refine lv_iinc (v := nI ((j + 1) + 1)) (lv' := [(5, .int (nI ((j + 1) + 1))), (0, .ref (B 100)), (1, .int (nI p9)), (2, .long ((dnG μ p9 j).1)), (4, .int (oI ((dnG μ p9 j).2)))]) hx hb dX5_down_72 hl (k := 4) rfl (show nI (j + 1) + Int32.ofInt 1 = _ from nI_add (j + 1) 1) (by decide) rfl (fun ls hl => ?_)
          refine lv_goto (tgt := 10) hx hb dX5_down_75 (by decide) ?_
          have q14 : ((dnG μ p9 j).1) = ((dnG μ p9 (j + 1)).1) := (by rw [dnG, if_neg (fun q => c27 q.1)])
          have q15 : oI ((dnG μ p9 j).2) = oI ((dnG μ p9 (j + 1)).2) := (by rw [dnG, if_neg (fun q => c27 q.1)])
          replace hl : lv_has ls 6 [(5, .int (nI ((j + 1) + 1))), (0, .ref (B 100)), (1, .int (nI p9)), (2, .long ((dnG μ p9 (j + 1)).1)), (4, .int (oI ((dnG μ p9 (j + 1)).2)))] := (congrArg (lv_has ls 6) (m_lc rfl (m_lc rfl (m_lc rfl (m_lc (congrArg Value.long q14) (m_lc (congrArg Value.int q15) rfl)))))).mp hl
          exact ih10 (j + 1) (by omega) (by omega) _ _ hV hS ls (lv_sub hl [1, 2, 3, 4, 0] rfl)
        · replace c27 : kN μ 6 (j + 1) = p9 := (nI_eq (a := kN μ 6 (j + 1)) (b := p9) (by omega) (by omega)).mp c27
          refine lv_aload_n hx hb dX5_down_30 rfl (lv_at hl 0 rfl) ?_
          refine lv_iload hx hb dX5_down_31 (lv_at hl 4 rfl) ?_
          refine m_calli (va_runV (As := [.int (nI (j + 1))]) (rest := []) ⟨hx, hb, hml, hown, hts⟩ (c_X5_hasUnder (l := l) (H.size) hM (j + 1) (by omega)) (cwV 1 hts gX5_down_X5_hasUnder rfl rfl rfl (by decide +kernel) ⟨by decide, by decide⟩) (m_preV (r := (RX5, TX5, 34)) hE hV hS hA (hM.at 100 (by decide)) rfl) rfl rfl hl.1 rfl (lv_room (by first | exact Nat.le_of_ble_eq_true rfl | simp [rf_cat, ct_ref, ct_int, ct_null, ct_long])) dX5_down_33 ⟨by decide, by decide⟩) hV hS hA (fun r h1 H locs hV hS hp _ => ?_)
          obtain ⟨e1, e2⟩ := hp
          subst e2
          rw [e1] at hV; clear e1
          refine lv_if_eq (tgt := 72) hx hb dX5_down_36 (by decide) (fun c36 => ?_) (fun c36 => ?_)
          · replace c36 : (huM μ (j + 1) (kN μ 24 0)) = false := bI_0.mp c36
            refine lv_iinc (v := nI ((j + 1) + 1)) (lv' := [(5, .int (nI ((j + 1) + 1))), (0, .ref (B 100)), (1, .int (nI p9)), (2, .long ((dnG μ p9 j).1)), (4, .int (oI ((dnG μ p9 j).2)))]) hx hb dX5_down_72 hl (k := 4) rfl (show nI (j + 1) + Int32.ofInt 1 = _ from nI_add (j + 1) 1) (by decide) rfl (fun ls hl => ?_)
            refine lv_goto (tgt := 10) hx hb dX5_down_75 (by decide) ?_
            have q16 : ((dnG μ p9 j).1) = ((dnG μ p9 (j + 1)).1) := (by rw [dnG, if_neg (fun q => absurd q.2.1 (by rw [c36]; decide))])
            have q17 : oI ((dnG μ p9 j).2) = oI ((dnG μ p9 (j + 1)).2) := (by rw [dnG, if_neg (fun q => absurd q.2.1 (by rw [c36]; decide))])
            replace hl : lv_has ls 6 [(5, .int (nI ((j + 1) + 1))), (0, .ref (B 100)), (1, .int (nI p9)), (2, .long ((dnG μ p9 (j + 1)).1)), (4, .int (oI ((dnG μ p9 (j + 1)).2)))] := (congrArg (lv_has ls 6) (m_lc rfl (m_lc rfl (m_lc rfl (m_lc (congrArg Value.long q16) (m_lc (congrArg Value.int q17) rfl)))))).mp hl
            exact ih10 (j + 1) (by omega) (by omega) _ _ hV hS ls (lv_sub hl [1, 2, 3, 4, 0] rfl)
          · replace c36 : (huM μ (j + 1) (kN μ 24 0)) = true := bI_1.mp c36
            refine lv_lload_n hx hb dX5_down_39 rfl (lv_at hl 2 rfl) ?_
            refine lv_lconst (v := 0) hx hb dX5_down_40 (by decide) ?_
            refine m_lcmp_lt (tgt := 57) hx hb dX5_down_41 dX5_down_42 (by decide) (fun c42 => ?_) (fun c42 => ?_)
            · refine lv_aload_n hx hb dX5_down_57 rfl (lv_at hl 0 rfl) ?_
              refine m_get (C := RX5) (T := TX5) (N := 34) hx hb hts hi_X5 hown hK hV 8 (v := .ref (B 8)) (g_m8 hM) rfl (by decide) k29 (fun _ h9 => h9) dX5_down_58 ?_
              refine lv_iload hx hb dX5_down_61 (lv_at hl 4 rfl) ?_
              refine m_lald hx hb hK hV 1 (i := nI (j + 1)) (x := (kW μ 8 (j + 1))) (a_m8 hM) rfl (vp_in_nI (by omega) (by omega)) (by rw [nI_clamp (by omega)] <;> first | rfl | (show oI (va_up _ _ _ _) = _; rw [vu_s] <;> rfl) | (show va_up _ _ _ _ = _; rw [vu_s] <;> rfl)) dX5_down_63 ?_
              refine lv_lstore_n (lv' := [(2, .long (kW μ 8 (j + 1))), (0, .ref (B 100)), (1, .int (nI p9)), (4, .int (oI ((dnG μ p9 j).2))), (5, .int (nI (j + 1)))]) hx hb dX5_down_64 rfl hl (by decide) rfl (fun ls hl => ?_)
              refine lv_bipush (v := 100) hx hb dX5_down_65 (by decide) ?_
              refine lv_iload hx hb dX5_down_67 (lv_at hl 4 rfl) ?_
              refine lv_iadd hx hb dX5_down_69 ?_
              refine m_topi (y := nI (100 + (j + 1))) (nI_add 100 (j + 1)) ?_
              refine lv_istore (lv' := [(4, .int (nI (100 + (j + 1)))), (2, .long (kW μ 8 (j + 1))), (0, .ref (B 100)), (1, .int (nI p9)), (5, .int (nI (j + 1)))]) hx hb dX5_down_70 hl (by decide) rfl (fun ls hl => ?_)
              refine lv_iinc (v := nI ((j + 1) + 1)) (lv' := [(5, .int (nI ((j + 1) + 1))), (4, .int (nI (100 + (j + 1)))), (2, .long (kW μ 8 (j + 1))), (0, .ref (B 100)), (1, .int (nI p9))]) hx hb dX5_down_72 hl (k := 4) rfl (show nI (j + 1) + Int32.ofInt 1 = _ from nI_add (j + 1) 1) (by decide) rfl (fun ls hl => ?_)
              refine lv_goto (tgt := 10) hx hb dX5_down_75 (by decide) ?_
              have q18 : (kW μ 8 (j + 1)) = ((dnG μ p9 (j + 1)).1) := (by rw [dnG, if_pos ⟨c27, c36, Or.inl c42⟩])
              have q19 : nI (100 + (j + 1)) = oI ((dnG μ p9 (j + 1)).2) := (by rw [dnG, if_pos ⟨c27, c36, Or.inl c42⟩]; rfl)
              replace hl : lv_has ls 6 [(5, .int (nI ((j + 1) + 1))), (4, .int (oI ((dnG μ p9 (j + 1)).2))), (2, .long ((dnG μ p9 (j + 1)).1)), (0, .ref (B 100)), (1, .int (nI p9))] := (congrArg (lv_has ls 6) (m_lc rfl (m_lc (congrArg Value.int q19) (m_lc (congrArg Value.long q18) (m_lc rfl (m_lc rfl rfl)))))).mp hl
              exact ih10 (j + 1) (by omega) (by omega) _ _ hV hS ls (lv_sub hl [3, 4, 2, 1, 0] rfl)
            · refine lv_aload_n hx hb dX5_down_45 rfl (lv_at hl 0 rfl) ?_
              refine m_get (C := RX5) (T := TX5) (N := 34) hx hb hts hi_X5 hown hK hV 8 (v := .ref (B 8)) (g_m8 hM) rfl (by decide) k29 (fun _ h9 => h9) dX5_down_46 ?_
              refine lv_iload hx hb dX5_down_49 (lv_at hl 4 rfl) ?_
              refine m_lald hx hb hK hV 1 (i := nI (j + 1)) (x := (kW μ 8 (j + 1))) (a_m8 hM) rfl (vp_in_nI (by omega) (by omega)) (by rw [nI_clamp (by omega)] <;> first | rfl | (show oI (va_up _ _ _ _) = _; rw [vu_s] <;> rfl) | (show va_up _ _ _ _ = _; rw [vu_s] <;> rfl)) dX5_down_51 ?_
              refine lv_lload_n hx hb dX5_down_52 rfl (lv_at hl 2 rfl) ?_
              refine m_lcmp_ge (tgt := 72) hx hb dX5_down_53 dX5_down_54 (by decide) (fun c54 => ?_) (fun c54 => ?_)
              · refine lv_iinc (v := nI ((j + 1) + 1)) (lv' := [(5, .int (nI ((j + 1) + 1))), (0, .ref (B 100)), (1, .int (nI p9)), (2, .long ((dnG μ p9 j).1)), (4, .int (oI ((dnG μ p9 j).2)))]) hx hb dX5_down_72 hl (k := 4) rfl (show nI (j + 1) + Int32.ofInt 1 = _ from nI_add (j + 1) 1) (by decide) rfl (fun ls hl => ?_)
                refine lv_goto (tgt := 10) hx hb dX5_down_75 (by decide) ?_
                have q20 : ((dnG μ p9 j).1) = ((dnG μ p9 (j + 1)).1) := (by rw [dnG, if_neg (fun q => q.2.2.elim c42 (Int64.not_lt.mpr c54))])
                have q21 : oI ((dnG μ p9 j).2) = oI ((dnG μ p9 (j + 1)).2) := (by rw [dnG, if_neg (fun q => q.2.2.elim c42 (Int64.not_lt.mpr c54))])
                replace hl : lv_has ls 6 [(5, .int (nI ((j + 1) + 1))), (0, .ref (B 100)), (1, .int (nI p9)), (2, .long ((dnG μ p9 (j + 1)).1)), (4, .int (oI ((dnG μ p9 (j + 1)).2)))] := (congrArg (lv_has ls 6) (m_lc rfl (m_lc rfl (m_lc rfl (m_lc (congrArg Value.long q20) (m_lc (congrArg Value.int q21) rfl)))))).mp hl
                exact ih10 (j + 1) (by omega) (by omega) _ _ hV hS ls (lv_sub hl [1, 2, 3, 4, 0] rfl)
              · refine lv_aload_n hx hb dX5_down_57 rfl (lv_at hl 0 rfl) ?_
                refine m_get (C := RX5) (T := TX5) (N := 34) hx hb hts hi_X5 hown hK hV 8 (v := .ref (B 8)) (g_m8 hM) rfl (by decide) k29 (fun _ h9 => h9) dX5_down_58 ?_
                refine lv_iload hx hb dX5_down_61 (lv_at hl 4 rfl) ?_
                refine m_lald hx hb hK hV 1 (i := nI (j + 1)) (x := (kW μ 8 (j + 1))) (a_m8 hM) rfl (vp_in_nI (by omega) (by omega)) (by rw [nI_clamp (by omega)] <;> first | rfl | (show oI (va_up _ _ _ _) = _; rw [vu_s] <;> rfl) | (show va_up _ _ _ _ = _; rw [vu_s] <;> rfl)) dX5_down_63 ?_
                refine lv_lstore_n (lv' := [(2, .long (kW μ 8 (j + 1))), (0, .ref (B 100)), (1, .int (nI p9)), (4, .int (oI ((dnG μ p9 j).2))), (5, .int (nI (j + 1)))]) hx hb dX5_down_64 rfl hl (by decide) rfl (fun ls hl => ?_)
                refine lv_bipush (v := 100) hx hb dX5_down_65 (by decide) ?_
                refine lv_iload hx hb dX5_down_67 (lv_at hl 4 rfl) ?_
                refine lv_iadd hx hb dX5_down_69 ?_
                refine m_topi (y := nI (100 + (j + 1))) (nI_add 100 (j + 1)) ?_
                refine lv_istore (lv' := [(4, .int (nI (100 + (j + 1)))), (2, .long (kW μ 8 (j + 1))), (0, .ref (B 100)), (1, .int (nI p9)), (5, .int (nI (j + 1)))]) hx hb dX5_down_70 hl (by decide) rfl (fun ls hl => ?_)
                refine lv_iinc (v := nI ((j + 1) + 1)) (lv' := [(5, .int (nI ((j + 1) + 1))), (4, .int (nI (100 + (j + 1)))), (2, .long (kW μ 8 (j + 1))), (0, .ref (B 100)), (1, .int (nI p9))]) hx hb dX5_down_72 hl (k := 4) rfl (show nI (j + 1) + Int32.ofInt 1 = _ from nI_add (j + 1) 1) (by decide) rfl (fun ls hl => ?_)
                refine lv_goto (tgt := 10) hx hb dX5_down_75 (by decide) ?_
                have q22 : (kW μ 8 (j + 1)) = ((dnG μ p9 (j + 1)).1) := (by rw [dnG, if_pos ⟨c27, c36, Or.inr (Int64.not_le.mp c54)⟩])
                have q23 : nI (100 + (j + 1)) = oI ((dnG μ p9 (j + 1)).2) := (by rw [dnG, if_pos ⟨c27, c36, Or.inr (Int64.not_le.mp c54)⟩]; rfl)
                replace hl : lv_has ls 6 [(5, .int (nI ((j + 1) + 1))), (4, .int (oI ((dnG μ p9 (j + 1)).2))), (2, .long ((dnG μ p9 (j + 1)).1)), (0, .ref (B 100)), (1, .int (nI p9))] := (congrArg (lv_has ls 6) (m_lc rfl (m_lc (congrArg Value.int q23) (m_lc (congrArg Value.long q22) (m_lc rfl (m_lc rfl rfl)))))).mp hl
                exact ih10 (j + 1) (by omega) (by omega) _ _ hV hS ls (lv_sub hl [3, 4, 2, 1, 0] rfl)
  have q24 : (-1) = ((dnG μ p9 0).1) := rfl
  have q25 : (-1) = oI ((dnG μ p9 0).2) := rfl
  have q26 : 1 = nI (0 + 1) := rfl
  replace hl : lv_has ls 6 [(5, .int (nI (0 + 1))), (4, .int (oI ((dnG μ p9 0).2))), (2, .long ((dnG μ p9 0).1)), (0, .ref (B 100)), (1, .int (nI p9))] := (congrArg (lv_has ls 6) (m_lc (congrArg Value.int q26) (m_lc (congrArg Value.int q25) (m_lc (congrArg Value.long q24) (m_lc rfl (m_lc rfl rfl)))))).mp hl
  exact lp10 ((kN μ 9 0 - 0) + 1) 0 (by omega) (Nat.lt_succ_self _) _ _ hV hS ls (lv_sub hl [3, 4, 2, 1, 0] rfl)
set_option maxHeartbeats 4000000 in
set_option maxRecDepth 100000 in
theorem c_X5_down_4 {l : Launch} {D : va_G} {cs : mC} {df : Nat} {P : Nat → Prop} {h0 : mH} {B : Nat → Nat} {μ : KS} {hh : mH} (sz : Nat) (hM : DRep cs P h0 B μ hh) (p9 : Nat) (hp9 : p9 < kN μ 9 0) (hd : kN μ 9 0 ≤ p9 + 4) : Met l yX5_down wsX5_down ({ frames := 5, cells := 0, slots := 0, locals := 121 }) (mPre [.ref (B 100), .int (nI p9)] D cs df hh sz) (va_Qi ((fun (r : Int32) (h1 : mH) => h1 = hh ∧ r = oI (dnM μ 4 p9))) (mB D hh sz) (mA hh sz)) 0 0 (mA hh sz) := by
  refine Met.ofW (cc := cX5_down) (maxL := 6) (ret := (some .int)) (by decide) rfl ?_
  intro p e s m args below meth c s₁ B0 hml hv
  obtain ⟨hargs, hsz, hV, hE⟩ := hv
  subst hsz
  have hx := B0.exec
  have hb := B0.bytes
  have hr := B0.returns
  have hlocks := B0.notSynchronized
  have hts := atoms_spec (ws := wsX5_down) B0.pre
  have hown : s.vm.findClass RX5 = some m.cls := findClass_of_methodNamed B0.named
  have hK := hE.1.1
  have hA : ∀ q : Nat, s.heap.size ≤ q → mA hh s.heap.size q := mA.top
  have hS : va_S (mA hh s.heap.size) s.heap s.heap [] := va_S.rf
  have kk115 : (Cond.constantLong RX5 115 (-1)).before args s = true := hts _ (by decide +kernel)
  have hi_X5 : ∀ w ∈ u_ws RX5 TX5 34, w ∈ wsX5_down := by decide +kernel
  have k33 : (Cond.fieldLink RX5 33 "TaskKernelModel" "groups" "I").before args s = true := hts _ (by decide +kernel)
  have k117 : (Cond.fieldLink RX5 117 "TaskKernelModel" "tasks" "I").before args s = true := hts _ (by decide +kernel)
  have k88 : (Cond.fieldLink RX5 88 "TaskKernelModel" "isIn" "[Z").before args s = true := hts _ (by decide +kernel)
  have k36 : (Cond.fieldLink RX5 36 "TaskKernelModel" "groupOf" "[I").before args s = true := hts _ (by decide +kernel)
  have k42 : (Cond.fieldLink RX5 42 "TaskKernelModel" "times" "[J").before args s = true := hts _ (by decide +kernel)
  have k23 : (Cond.fieldLink RX5 23 "TaskKernelModel" "parents" "[I").before args s = true := hts _ (by decide +kernel)
  have k29 : (Cond.fieldLink RX5 29 "TaskKernelModel" "groupTimes" "[J").before args s = true := hts _ (by decide +kernel)
  have hl := lv_entry ([.ref (B 100), .int (nI p9)]) (n := 6) (by first | exact Nat.le_of_ble_eq_true rfl | simp [lg_sl, rf_cat, ct_ref, ct_int, ct_null, ct_long])
  have hent := lg_entry_eq m ([.ref (B 100), .int (nI p9)]) 6
  rw [← hargs] at hent
  rw [hent]
  generalize (lg_sl ([.ref (B 100), .int (nI p9)]) ++ List.replicate (6 - (lg_sl ([.ref (B 100), .int (nI p9)])).length) Slot.unset).toArray = ls at hl ⊢
  replace hl : lv_has ls 6 [(0, .ref (B 100)), (1, .int (nI p9))] := hl
  have hwf := hM.wf
  obtain ⟨⟨y0, y1, y2, y3⟩, y4, y5, y6, y7⟩ := hwf
  refine lv_ldc2 (v := (-1)) hx hb hown kk115 dX5_down_0 ?_
  refine lv_lstore_n (lv' := [(2, .long (-1)), (0, .ref (B 100)), (1, .int (nI p9))]) hx hb dX5_down_3 rfl hl (by decide) rfl (fun ls hl => ?_)
  refine lv_iconst (v := (-1)) hx hb dX5_down_4 (by decide) ?_
  refine lv_istore (lv' := [(4, .int (-1)), (2, .long (-1)), (0, .ref (B 100)), (1, .int (nI p9))]) hx hb dX5_down_5 hl (by decide) rfl (fun ls hl => ?_)
  refine lv_iconst (v := 1) hx hb dX5_down_7 (by decide) ?_
  refine lv_istore (lv' := [(5, .int 1), (4, .int (-1)), (2, .long (-1)), (0, .ref (B 100)), (1, .int (nI p9))]) hx hb dX5_down_8 hl (by decide) rfl (fun ls hl => ?_)
  have lp10 : ∀ (fu : Nat) (j : Nat), (j + 1 ≤ kN μ 9 0) → kN μ 9 0 - j < fu → ∀ (H : Heap) (locs : List Loc), mV D hh (mA hh s.heap.size) H → va_S (mA hh s.heap.size) s.heap H locs → ∀ (ls : Array Slot), lv_has ls 6 [(0, .ref (B 100)), (1, .int (nI p9)), (2, .long ((dnG μ p9 j).1)), (4, .int (oI ((dnG μ p9 j).2))), (5, .int (nI (j + 1)))] → W p l e ({ frames := 5, cells := 0, slots := 0, locals := 121 } : Room) s m args below meth c H locs 0 0 (MQ below (va_Qi ((fun (r : Int32) (h1 : mH) => h1 = hh ∧ r = oI (dnM μ 4 p9))) (mB D hh s.heap.size) (mA hh s.heap.size)) args s 0 0 (mA hh s.heap.size)) (F0 m 10 ls []) := by
    intro fu
    induction fu with
    | zero =>
      intro j hj hfu
      exact absurd hfu (Nat.not_lt_zero _)
    | succ fu ih10 =>
      intro j hj hfu H locs hV hS ls hl
      refine lv_iload hx hb dX5_down_10 (lv_at hl 4 rfl) ?_
      refine lv_aload_n hx hb dX5_down_12 rfl (lv_at hl 0 rfl) ?_
      refine m_get (C := RX5) (T := TX5) (N := 34) hx hb hts hi_X5 hown hK hV 9 (v := .int (nI (kN μ 9 0))) (by have z9 := g_m9 hM; exact z9) rfl (by decide) k33 (fun _ h9 => h9) dX5_down_13 ?_
      refine lv_icmp_ge (tgt := 78) hx hb dX5_down_16 (by decide) (fun c16 => ?_) (fun c16 => ?_)
      · replace c16 : kN μ 9 0 ≤ (j + 1) := (nI_leI (a := kN μ 9 0) (b := (j + 1)) (by omega) (by omega)).mp c16
        refine lv_iconst (v := 0) hx hb dX5_down_78 (by decide) ?_
        refine lv_istore (lv' := [(5, .int 0), (0, .ref (B 100)), (1, .int (nI p9)), (2, .long ((dnG μ p9 j).1)), (4, .int (oI ((dnG μ p9 j).2)))]) hx hb dX5_down_79 hl (by decide) rfl (fun ls hl => ?_)
        have lp81 : ∀ (fu : Nat) (i : Nat), (i ≤ kN μ 24 0) → kN μ 24 0 - i < fu → ∀ (H : Heap) (locs : List Loc), mV D hh (mA hh s.heap.size) H → va_S (mA hh s.heap.size) s.heap H locs → ∀ (ls : Array Slot), lv_has ls 6 [(0, .ref (B 100)), (1, .int (nI p9)), (2, .long ((dnT μ p9 i).1)), (4, .int (oI ((dnT μ p9 i).2))), (5, .int (nI i))] → W p l e ({ frames := 5, cells := 0, slots := 0, locals := 121 } : Room) s m args below meth c H locs 0 0 (MQ below (va_Qi ((fun (r : Int32) (h1 : mH) => h1 = hh ∧ r = oI (dnM μ 4 p9))) (mB D hh s.heap.size) (mA hh s.heap.size)) args s 0 0 (mA hh s.heap.size)) (F0 m 81 ls []) := by
          intro fu
          induction fu with
          | zero =>
            intro i hi hfu
            exact absurd hfu (Nat.not_lt_zero _)
          | succ fu ih81 =>
            intro i hi hfu H locs hV hS ls hl
            refine lv_iload hx hb dX5_down_81 (lv_at hl 4 rfl) ?_
            refine lv_aload_n hx hb dX5_down_83 rfl (lv_at hl 0 rfl) ?_
            refine m_get (C := RX5) (T := TX5) (N := 34) hx hb hts hi_X5 hown hK hV 24 (v := .int (nI (kN μ 24 0))) (by have z9 := g_m24 hM; exact z9) rfl (by decide) k117 (fun _ h9 => h9) dX5_down_84 ?_
            refine lv_icmp_ge (tgt := 147) hx hb dX5_down_87 (by decide) (fun c87 => ?_) (fun c87 => ?_)
            · replace c87 : kN μ 24 0 ≤ i := (nI_leI (a := kN μ 24 0) (b := i) (by omega) (by omega)).mp c87
              rw [show i = kN μ 24 0 by omega] at hl
              replace hl : lv_has ls 6 [(0, .ref (B 100)), (1, .int (nI p9)), (4, .int (oI (dnE μ p9)))] := lv_sub hl [0, 1, 3] rfl
              rcases e9 : dnE μ p9 with _ | mb
              · replace hl : lv_has ls 6 [(0, .ref (B 100)), (1, .int (nI p9)), (4, .int (-1))] := by have h9 := hl; rw [e9] at h9; exact h9
                refine lv_iload hx hb dX5_down_147 (lv_at hl 2 rfl) ?_
                refine lv_bipush (v := 100) hx hb dX5_down_149 (by decide) ?_
                refine lv_icmp_lt (tgt := 166) hx hb dX5_down_151 (by decide) (fun c151 => ?_) (fun c151 => (absurd (by decide) c151))
                refine lv_iload hx hb dX5_down_166 (lv_at hl 2 rfl) ?_
                exact m_iret (v := (-1)) hx hb hr hlocks hV hS (⟨rfl, by (conv => rhs; rw [dnM, e9]); try rfl⟩) dX5_down_168
              · replace hl : lv_has ls 6 [(0, .ref (B 100)), (1, .int (nI p9)), (4, .int (nI mb))] := by have h9 := hl; rw [e9] at h9; exact h9
                have bm := dnT_lt y1 e9
                refine lv_iload hx hb dX5_down_147 (lv_at hl 2 rfl) ?_
                refine lv_bipush (v := 100) hx hb dX5_down_149 (by decide) ?_
                refine lv_icmp_lt (tgt := 166) hx hb dX5_down_151 (by decide) (fun c151 => ?_) (fun c151 => ?_)
                · replace c151 : mb < 100 := (nI_ltI (a := mb) (b := 100) (by omega) (by omega)).mp c151
                  refine lv_iload hx hb dX5_down_166 (lv_at hl 2 rfl) ?_
                  exact m_iret (v := nI mb) hx hb hr hlocks hV hS (⟨rfl, by (conv => rhs; rw [dnM, e9]; dsimp only; rw [if_neg (by omega)]); try rfl⟩) dX5_down_168
                · replace c151 : ¬ mb < 100 := fun q9 => c151 ((nI_ltI (a := mb) (b := 100) (by omega) (by omega)).mpr q9)
                  refine lv_aload_n hx hb dX5_down_154 rfl (lv_at hl 0 rfl) ?_
                  refine lv_iload hx hb dX5_down_155 (lv_at hl 2 rfl) ?_
                  refine lv_bipush (v := 100) hx hb dX5_down_157 (by decide) ?_
                  refine lv_isub hx hb dX5_down_159 ?_
                  refine m_topi (y := nI (mb - 100)) (pk_sub (a := mb) (b := 100) (by omega)) ?_
                  refine m_calli (va_runV (As := [.int (nI (mb - 100))]) (rest := []) ⟨hx, hb, hml, hown, hts⟩ (c_X5_down_3 (l := l) (H.size) hM (mb - 100) (by omega) (by have z9 := y4 (mb - 100) (by omega) (by omega); omega)) (cwV 1 hts gX5_down_X5_down rfl rfl rfl (by decide +kernel) ⟨by decide, by decide⟩) (m_preV (r := (RX5, TX5, 34)) hE hV hS hA (hM.at 100 (by decide)) rfl) rfl rfl hl.1 rfl (lv_room (by first | exact Nat.le_of_ble_eq_true rfl | simp [rf_cat, ct_ref, ct_int, ct_null, ct_long])) dX5_down_160 ⟨by decide, by decide⟩) hV hS hA (fun r h1 H locs hV hS hp _ => ?_)
                  obtain ⟨e1, e2⟩ := hp
                  subst e2
                  rw [e1] at hV; clear e1
                  refine lv_goto (tgt := 168) hx hb dX5_down_163 (by decide) ?_
                  exact m_iret (v := oI (dnM μ 3 (mb - 100))) hx hb hr hlocks hV hS (⟨rfl, by (conv => rhs; rw [dnM, e9]; dsimp only; rw [if_pos (by omega)]); try rfl⟩) dX5_down_168
            · replace c87 : ¬ kN μ 24 0 ≤ i := fun q9 => c87 ((nI_leI (a := kN μ 24 0) (b := i) (by omega) (by omega)).mpr q9)
              refine lv_aload_n hx hb dX5_down_90 rfl (lv_at hl 0 rfl) ?_
              refine m_get (C := RX5) (T := TX5) (N := 34) hx hb hts hi_X5 hown hK hV 32 (v := .ref (B 32)) (g_m32 hM) rfl (by decide) k88 (fun _ h9 => h9) dX5_down_91 ?_
              refine lv_iload hx hb dX5_down_94 (lv_at hl 4 rfl) ?_
              refine m_zald hx hb hK hV 2 (i := nI i) (x := bI (kB μ 32 i)) (a_m32 hM) rfl (vp_in_nI (by omega) (by omega)) (by rw [nI_clamp (by omega)] <;> first | rfl | (show oI (va_up _ _ _ _) = _; rw [vu_s] <;> rfl) | (show va_up _ _ _ _ = _; rw [vu_s] <;> rfl)) dX5_down_96 ?_
              refine lv_if_eq (tgt := 141) hx hb dX5_down_97 (by decide) (fun c97 => ?_) (fun c97 => ?_)
              · replace c97 : kB μ 32 i = false := bI_0.mp c97
                refine lv_iinc (v := nI (i + 1)) (lv' := [(5, .int (nI (i + 1))), (0, .ref (B 100)), (1, .int (nI p9)), (2, .long ((dnT μ p9 i).1)), (4, .int (oI ((dnT μ p9 i).2)))]) hx hb dX5_down_141 hl (k := 4) rfl (show nI i + Int32.ofInt 1 = _ from nI_add i 1) (by decide) rfl (fun ls hl => ?_)
                refine lv_goto (tgt := 81) hx hb dX5_down_144 (by decide) ?_
                have q1 : ((dnT μ p9 i).1) = ((dnT μ p9 (i + 1)).1) := (by rw [dnT, if_neg (fun q => absurd q.1 (by rw [c97]; decide))])
                have q2 : oI ((dnT μ p9 i).2) = oI ((dnT μ p9 (i + 1)).2) := (by rw [dnT, if_neg (fun q => absurd q.1 (by rw [c97]; decide))])
                replace hl : lv_has ls 6 [(5, .int (nI (i + 1))), (0, .ref (B 100)), (1, .int (nI p9)), (2, .long ((dnT μ p9 (i + 1)).1)), (4, .int (oI ((dnT μ p9 (i + 1)).2)))] := (congrArg (lv_has ls 6) (m_lc rfl (m_lc rfl (m_lc rfl (m_lc (congrArg Value.long q1) (m_lc (congrArg Value.int q2) rfl)))))).mp hl
                exact ih81 (i + 1) (by omega) (by omega) _ _ hV hS ls (lv_sub hl [1, 2, 3, 4, 0] rfl)
              · replace c97 : kB μ 32 i = true := bI_1.mp c97
                refine lv_aload_n hx hb dX5_down_100 rfl (lv_at hl 0 rfl) ?_
                refine m_get (C := RX5) (T := TX5) (N := 34) hx hb hts hi_X5 hown hK hV 10 (v := .ref (B 10)) (g_m10 hM) rfl (by decide) k36 (fun _ h9 => h9) dX5_down_101 ?_
                refine lv_iload hx hb dX5_down_104 (lv_at hl 4 rfl) ?_
                refine m_iald hx hb hK hV 0 (i := nI i) (x := nI (kN μ 10 i)) (a_m10 hM) rfl (vp_in_nI (by omega) (by omega)) (by rw [nI_clamp (by omega)] <;> first | rfl | (show oI (va_up _ _ _ _) = _; rw [vu_s] <;> rfl) | (show va_up _ _ _ _ = _; rw [vu_s] <;> rfl)) dX5_down_106 ?_
                refine lv_iload_n hx hb dX5_down_107 rfl (lv_at hl 1 rfl) ?_
                have b108 := y5 i (by omega)
                refine lv_icmp_ne (tgt := 141) hx hb dX5_down_108 (by decide) (fun c108 => ?_) (fun c108 => ?_)
                · replace c108 : ¬ kN μ 10 i = p9 := fun q9 => c108 ((nI_eq (a := kN μ 10 i) (b := p9) (by omega) (by omega)).mpr q9)
                  refine lv_iinc (v := nI (i + 1)) (lv' := [(5, .int (nI (i + 1))), (0, .ref (B 100)), (1, .int (nI p9)), (2, .long ((dnT μ p9 i).1)), (4, .int (oI ((dnT μ p9 i).2)))]) hx hb dX5_down_141 hl (k := 4) rfl (show nI i + Int32.ofInt 1 = _ from nI_add i 1) (by decide) rfl (fun ls hl => ?_)
                  refine lv_goto (tgt := 81) hx hb dX5_down_144 (by decide) ?_
                  have q3 : ((dnT μ p9 i).1) = ((dnT μ p9 (i + 1)).1) := (by rw [dnT, if_neg (fun q => c108 q.2.1)])
                  have q4 : oI ((dnT μ p9 i).2) = oI ((dnT μ p9 (i + 1)).2) := (by rw [dnT, if_neg (fun q => c108 q.2.1)])
                  replace hl : lv_has ls 6 [(5, .int (nI (i + 1))), (0, .ref (B 100)), (1, .int (nI p9)), (2, .long ((dnT μ p9 (i + 1)).1)), (4, .int (oI ((dnT μ p9 (i + 1)).2)))] := (congrArg (lv_has ls 6) (m_lc rfl (m_lc rfl (m_lc rfl (m_lc (congrArg Value.long q3) (m_lc (congrArg Value.int q4) rfl)))))).mp hl
                  exact ih81 (i + 1) (by omega) (by omega) _ _ hV hS ls (lv_sub hl [1, 2, 3, 4, 0] rfl)
                · replace c108 : kN μ 10 i = p9 := (nI_eq (a := kN μ 10 i) (b := p9) (by omega) (by omega)).mp c108
                  refine lv_lload_n hx hb dX5_down_111 rfl (lv_at hl 2 rfl) ?_
                  refine lv_lconst (v := 0) hx hb dX5_down_112 (by decide) ?_
                  refine m_lcmp_lt (tgt := 129) hx hb dX5_down_113 dX5_down_114 (by decide) (fun c114 => ?_) (fun c114 => ?_)
                  · refine lv_aload_n hx hb dX5_down_129 rfl (lv_at hl 0 rfl) ?_
                    refine m_get (C := RX5) (T := TX5) (N := 34) hx hb hts hi_X5 hown hK hV 12 (v := .ref (B 12)) (g_m12 hM) rfl (by decide) k42 (fun _ h9 => h9) dX5_down_130 ?_
                    refine lv_iload hx hb dX5_down_133 (lv_at hl 4 rfl) ?_
                    refine m_lald hx hb hK hV 1 (i := nI i) (x := (kW μ 12 i)) (a_m12 hM) rfl (vp_in_nI (by omega) (by omega)) (by rw [nI_clamp (by omega)] <;> first | rfl | (show oI (va_up _ _ _ _) = _; rw [vu_s] <;> rfl) | (show va_up _ _ _ _ = _; rw [vu_s] <;> rfl)) dX5_down_135 ?_
                    refine lv_lstore_n (lv' := [(2, .long (kW μ 12 i)), (0, .ref (B 100)), (1, .int (nI p9)), (4, .int (oI ((dnT μ p9 i).2))), (5, .int (nI i))]) hx hb dX5_down_136 rfl hl (by decide) rfl (fun ls hl => ?_)
                    refine lv_iload hx hb dX5_down_137 (lv_at hl 4 rfl) ?_
                    refine lv_istore (lv' := [(4, .int (nI i)), (2, .long (kW μ 12 i)), (0, .ref (B 100)), (1, .int (nI p9)), (5, .int (nI i))]) hx hb dX5_down_139 hl (by decide) rfl (fun ls hl => ?_)
                    refine lv_iinc (v := nI (i + 1)) (lv' := [(5, .int (nI (i + 1))), (4, .int (nI i)), (2, .long (kW μ 12 i)), (0, .ref (B 100)), (1, .int (nI p9))]) hx hb dX5_down_141 hl (k := 4) rfl (show nI i + Int32.ofInt 1 = _ from nI_add i 1) (by decide) rfl (fun ls hl => ?_)
                    refine lv_goto (tgt := 81) hx hb dX5_down_144 (by decide) ?_
                    have q5 : (kW μ 12 i) = ((dnT μ p9 (i + 1)).1) := (by rw [dnT, if_pos ⟨c97, c108, Or.inl c114⟩])
                    have q6 : nI i = oI ((dnT μ p9 (i + 1)).2) := (by rw [dnT, if_pos ⟨c97, c108, Or.inl c114⟩]; rfl)
                    replace hl : lv_has ls 6 [(5, .int (nI (i + 1))), (4, .int (oI ((dnT μ p9 (i + 1)).2))), (2, .long ((dnT μ p9 (i + 1)).1)), (0, .ref (B 100)), (1, .int (nI p9))] := (congrArg (lv_has ls 6) (m_lc rfl (m_lc (congrArg Value.int q6) (m_lc (congrArg Value.long q5) (m_lc rfl (m_lc rfl rfl)))))).mp hl
                    exact ih81 (i + 1) (by omega) (by omega) _ _ hV hS ls (lv_sub hl [3, 4, 2, 1, 0] rfl)
                  · refine lv_aload_n hx hb dX5_down_117 rfl (lv_at hl 0 rfl) ?_
                    refine m_get (C := RX5) (T := TX5) (N := 34) hx hb hts hi_X5 hown hK hV 12 (v := .ref (B 12)) (g_m12 hM) rfl (by decide) k42 (fun _ h9 => h9) dX5_down_118 ?_
                    refine lv_iload hx hb dX5_down_121 (lv_at hl 4 rfl) ?_
                    refine m_lald hx hb hK hV 1 (i := nI i) (x := (kW μ 12 i)) (a_m12 hM) rfl (vp_in_nI (by omega) (by omega)) (by rw [nI_clamp (by omega)] <;> first | rfl | (show oI (va_up _ _ _ _) = _; rw [vu_s] <;> rfl) | (show va_up _ _ _ _ = _; rw [vu_s] <;> rfl)) dX5_down_123 ?_
                    refine lv_lload_n hx hb dX5_down_124 rfl (lv_at hl 2 rfl) ?_
                    refine m_lcmp_ge (tgt := 141) hx hb dX5_down_125 dX5_down_126 (by decide) (fun c126 => ?_) (fun c126 => ?_)
                    · refine lv_iinc (v := nI (i + 1)) (lv' := [(5, .int (nI (i + 1))), (0, .ref (B 100)), (1, .int (nI p9)), (2, .long ((dnT μ p9 i).1)), (4, .int (oI ((dnT μ p9 i).2)))]) hx hb dX5_down_141 hl (k := 4) rfl (show nI i + Int32.ofInt 1 = _ from nI_add i 1) (by decide) rfl (fun ls hl => ?_)
                      refine lv_goto (tgt := 81) hx hb dX5_down_144 (by decide) ?_
                      have q7 : ((dnT μ p9 i).1) = ((dnT μ p9 (i + 1)).1) := (by rw [dnT, if_neg (fun q => q.2.2.elim c114 (Int64.not_lt.mpr c126))])
                      have q8 : oI ((dnT μ p9 i).2) = oI ((dnT μ p9 (i + 1)).2) := (by rw [dnT, if_neg (fun q => q.2.2.elim c114 (Int64.not_lt.mpr c126))])
                      replace hl : lv_has ls 6 [(5, .int (nI (i + 1))), (0, .ref (B 100)), (1, .int (nI p9)), (2, .long ((dnT μ p9 (i + 1)).1)), (4, .int (oI ((dnT μ p9 (i + 1)).2)))] := (congrArg (lv_has ls 6) (m_lc rfl (m_lc rfl (m_lc rfl (m_lc (congrArg Value.long q7) (m_lc (congrArg Value.int q8) rfl)))))).mp hl
                      exact ih81 (i + 1) (by omega) (by omega) _ _ hV hS ls (lv_sub hl [1, 2, 3, 4, 0] rfl)
                    · refine lv_aload_n hx hb dX5_down_129 rfl (lv_at hl 0 rfl) ?_
                      refine m_get (C := RX5) (T := TX5) (N := 34) hx hb hts hi_X5 hown hK hV 12 (v := .ref (B 12)) (g_m12 hM) rfl (by decide) k42 (fun _ h9 => h9) dX5_down_130 ?_
                      refine lv_iload hx hb dX5_down_133 (lv_at hl 4 rfl) ?_
                      refine m_lald hx hb hK hV 1 (i := nI i) (x := (kW μ 12 i)) (a_m12 hM) rfl (vp_in_nI (by omega) (by omega)) (by rw [nI_clamp (by omega)] <;> first | rfl | (show oI (va_up _ _ _ _) = _; rw [vu_s] <;> rfl) | (show va_up _ _ _ _ = _; rw [vu_s] <;> rfl)) dX5_down_135 ?_
                      refine lv_lstore_n (lv' := [(2, .long (kW μ 12 i)), (0, .ref (B 100)), (1, .int (nI p9)), (4, .int (oI ((dnT μ p9 i).2))), (5, .int (nI i))]) hx hb dX5_down_136 rfl hl (by decide) rfl (fun ls hl => ?_)
                      refine lv_iload hx hb dX5_down_137 (lv_at hl 4 rfl) ?_
                      refine lv_istore (lv' := [(4, .int (nI i)), (2, .long (kW μ 12 i)), (0, .ref (B 100)), (1, .int (nI p9)), (5, .int (nI i))]) hx hb dX5_down_139 hl (by decide) rfl (fun ls hl => ?_)
                      refine lv_iinc (v := nI (i + 1)) (lv' := [(5, .int (nI (i + 1))), (4, .int (nI i)), (2, .long (kW μ 12 i)), (0, .ref (B 100)), (1, .int (nI p9))]) hx hb dX5_down_141 hl (k := 4) rfl (show nI i + Int32.ofInt 1 = _ from nI_add i 1) (by decide) rfl (fun ls hl => ?_)
                      refine lv_goto (tgt := 81) hx hb dX5_down_144 (by decide) ?_
                      have q9 : (kW μ 12 i) = ((dnT μ p9 (i + 1)).1) := (by rw [dnT, if_pos ⟨c97, c108, Or.inr (Int64.not_le.mp c126)⟩])
                      have q10 : nI i = oI ((dnT μ p9 (i + 1)).2) := (by rw [dnT, if_pos ⟨c97, c108, Or.inr (Int64.not_le.mp c126)⟩]; rfl)
                      replace hl : lv_has ls 6 [(5, .int (nI (i + 1))), (4, .int (oI ((dnT μ p9 (i + 1)).2))), (2, .long ((dnT μ p9 (i + 1)).1)), (0, .ref (B 100)), (1, .int (nI p9))] := (congrArg (lv_has ls 6) (m_lc rfl (m_lc (congrArg Value.int q10) (m_lc (congrArg Value.long q9) (m_lc rfl (m_lc rfl rfl)))))).mp hl
                      exact ih81 (i + 1) (by omega) (by omega) _ _ hV hS ls (lv_sub hl [3, 4, 2, 1, 0] rfl)
        have q11 : ((dnG μ p9 j).1) = ((dnT μ p9 0).1) := (by rw [show j = kN μ 9 0 - 1 by omega]; rfl)
        have q12 : oI ((dnG μ p9 j).2) = oI ((dnT μ p9 0).2) := (by rw [show j = kN μ 9 0 - 1 by omega]; rfl)
        have q13 : 0 = nI 0 := rfl
        replace hl : lv_has ls 6 [(5, .int (nI 0)), (0, .ref (B 100)), (1, .int (nI p9)), (2, .long ((dnT μ p9 0).1)), (4, .int (oI ((dnT μ p9 0).2)))] := (congrArg (lv_has ls 6) (m_lc (congrArg Value.int q13) (m_lc rfl (m_lc rfl (m_lc (congrArg Value.long q11) (m_lc (congrArg Value.int q12) rfl)))))).mp hl
        exact lp81 ((kN μ 24 0 - 0) + 1) 0 (Nat.zero_le _) (Nat.lt_succ_self _) _ _ hV hS ls (lv_sub hl [1, 2, 3, 4, 0] rfl)
      · replace c16 : ¬ kN μ 9 0 ≤ (j + 1) := fun q9 => c16 ((nI_leI (a := kN μ 9 0) (b := (j + 1)) (by omega) (by omega)).mpr q9)
        refine lv_aload_n hx hb dX5_down_19 rfl (lv_at hl 0 rfl) ?_
        refine m_get (C := RX5) (T := TX5) (N := 34) hx hb hts hi_X5 hown hK hV 6 (v := .ref (B 6)) (g_m6 hM) rfl (by decide) k23 (fun _ h9 => h9) dX5_down_20 ?_
        refine lv_iload hx hb dX5_down_23 (lv_at hl 4 rfl) ?_
        refine m_iald hx hb hK hV 0 (i := nI (j + 1)) (x := nI (kN μ 6 (j + 1))) (a_m6 hM) rfl (vp_in_nI (by omega) (by omega)) (by rw [nI_clamp (by omega)] <;> first | rfl | (show oI (va_up _ _ _ _) = _; rw [vu_s] <;> rfl) | (show va_up _ _ _ _ = _; rw [vu_s] <;> rfl)) dX5_down_25 ?_
        refine lv_iload_n hx hb dX5_down_26 rfl (lv_at hl 1 rfl) ?_
        have b27 := y4 (j + 1) (by omega) (by omega)
        refine lv_icmp_ne (tgt := 72) hx hb dX5_down_27 (by decide) (fun c27 => ?_) (fun c27 => ?_)
        · replace c27 : ¬ kN μ 6 (j + 1) = p9 := fun q9 => c27 ((nI_eq (a := kN μ 6 (j + 1)) (b := p9) (by omega) (by omega)).mpr q9)
          refine lv_iinc (v := nI ((j + 1) + 1)) (lv' := [(5, .int (nI ((j + 1) + 1))), (0, .ref (B 100)), (1, .int (nI p9)), (2, .long ((dnG μ p9 j).1)), (4, .int (oI ((dnG μ p9 j).2)))]) hx hb dX5_down_72 hl (k := 4) rfl (show nI (j + 1) + Int32.ofInt 1 = _ from nI_add (j + 1) 1) (by decide) rfl (fun ls hl => ?_)
          refine lv_goto (tgt := 10) hx hb dX5_down_75 (by decide) ?_
          have q14 : ((dnG μ p9 j).1) = ((dnG μ p9 (j + 1)).1) := (by rw [dnG, if_neg (fun q => c27 q.1)])
          have q15 : oI ((dnG μ p9 j).2) = oI ((dnG μ p9 (j + 1)).2) := (by rw [dnG, if_neg (fun q => c27 q.1)])
          replace hl : lv_has ls 6 [(5, .int (nI ((j + 1) + 1))), (0, .ref (B 100)), (1, .int (nI p9)), (2, .long ((dnG μ p9 (j + 1)).1)), (4, .int (oI ((dnG μ p9 (j + 1)).2)))] := (congrArg (lv_has ls 6) (m_lc rfl (m_lc rfl (m_lc rfl (m_lc (congrArg Value.long q14) (m_lc (congrArg Value.int q15) rfl)))))).mp hl
          exact ih10 (j + 1) (by omega) (by omega) _ _ hV hS ls (lv_sub hl [1, 2, 3, 4, 0] rfl)
        · replace c27 : kN μ 6 (j + 1) = p9 := (nI_eq (a := kN μ 6 (j + 1)) (b := p9) (by omega) (by omega)).mp c27
          refine lv_aload_n hx hb dX5_down_30 rfl (lv_at hl 0 rfl) ?_
          refine lv_iload hx hb dX5_down_31 (lv_at hl 4 rfl) ?_
          refine m_calli (va_runV (As := [.int (nI (j + 1))]) (rest := []) ⟨hx, hb, hml, hown, hts⟩ (c_X5_hasUnder (l := l) (H.size) hM (j + 1) (by omega)) (cwV 1 hts gX5_down_X5_hasUnder rfl rfl rfl (by decide +kernel) ⟨by decide, by decide⟩) (m_preV (r := (RX5, TX5, 34)) hE hV hS hA (hM.at 100 (by decide)) rfl) rfl rfl hl.1 rfl (lv_room (by first | exact Nat.le_of_ble_eq_true rfl | simp [rf_cat, ct_ref, ct_int, ct_null, ct_long])) dX5_down_33 ⟨by decide, by decide⟩) hV hS hA (fun r h1 H locs hV hS hp _ => ?_)
          obtain ⟨e1, e2⟩ := hp
          subst e2
          rw [e1] at hV; clear e1
          refine lv_if_eq (tgt := 72) hx hb dX5_down_36 (by decide) (fun c36 => ?_) (fun c36 => ?_)
          · replace c36 : (huM μ (j + 1) (kN μ 24 0)) = false := bI_0.mp c36
            refine lv_iinc (v := nI ((j + 1) + 1)) (lv' := [(5, .int (nI ((j + 1) + 1))), (0, .ref (B 100)), (1, .int (nI p9)), (2, .long ((dnG μ p9 j).1)), (4, .int (oI ((dnG μ p9 j).2)))]) hx hb dX5_down_72 hl (k := 4) rfl (show nI (j + 1) + Int32.ofInt 1 = _ from nI_add (j + 1) 1) (by decide) rfl (fun ls hl => ?_)
            refine lv_goto (tgt := 10) hx hb dX5_down_75 (by decide) ?_
            have q16 : ((dnG μ p9 j).1) = ((dnG μ p9 (j + 1)).1) := (by rw [dnG, if_neg (fun q => absurd q.2.1 (by rw [c36]; decide))])
            have q17 : oI ((dnG μ p9 j).2) = oI ((dnG μ p9 (j + 1)).2) := (by rw [dnG, if_neg (fun q => absurd q.2.1 (by rw [c36]; decide))])
            replace hl : lv_has ls 6 [(5, .int (nI ((j + 1) + 1))), (0, .ref (B 100)), (1, .int (nI p9)), (2, .long ((dnG μ p9 (j + 1)).1)), (4, .int (oI ((dnG μ p9 (j + 1)).2)))] := (congrArg (lv_has ls 6) (m_lc rfl (m_lc rfl (m_lc rfl (m_lc (congrArg Value.long q16) (m_lc (congrArg Value.int q17) rfl)))))).mp hl
            exact ih10 (j + 1) (by omega) (by omega) _ _ hV hS ls (lv_sub hl [1, 2, 3, 4, 0] rfl)
          · replace c36 : (huM μ (j + 1) (kN μ 24 0)) = true := bI_1.mp c36
            refine lv_lload_n hx hb dX5_down_39 rfl (lv_at hl 2 rfl) ?_
            refine lv_lconst (v := 0) hx hb dX5_down_40 (by decide) ?_
            refine m_lcmp_lt (tgt := 57) hx hb dX5_down_41 dX5_down_42 (by decide) (fun c42 => ?_) (fun c42 => ?_)
            · refine lv_aload_n hx hb dX5_down_57 rfl (lv_at hl 0 rfl) ?_
              refine m_get (C := RX5) (T := TX5) (N := 34) hx hb hts hi_X5 hown hK hV 8 (v := .ref (B 8)) (g_m8 hM) rfl (by decide) k29 (fun _ h9 => h9) dX5_down_58 ?_
              refine lv_iload hx hb dX5_down_61 (lv_at hl 4 rfl) ?_
              refine m_lald hx hb hK hV 1 (i := nI (j + 1)) (x := (kW μ 8 (j + 1))) (a_m8 hM) rfl (vp_in_nI (by omega) (by omega)) (by rw [nI_clamp (by omega)] <;> first | rfl | (show oI (va_up _ _ _ _) = _; rw [vu_s] <;> rfl) | (show va_up _ _ _ _ = _; rw [vu_s] <;> rfl)) dX5_down_63 ?_
              refine lv_lstore_n (lv' := [(2, .long (kW μ 8 (j + 1))), (0, .ref (B 100)), (1, .int (nI p9)), (4, .int (oI ((dnG μ p9 j).2))), (5, .int (nI (j + 1)))]) hx hb dX5_down_64 rfl hl (by decide) rfl (fun ls hl => ?_)
              refine lv_bipush (v := 100) hx hb dX5_down_65 (by decide) ?_
              refine lv_iload hx hb dX5_down_67 (lv_at hl 4 rfl) ?_
              refine lv_iadd hx hb dX5_down_69 ?_
              refine m_topi (y := nI (100 + (j + 1))) (nI_add 100 (j + 1)) ?_
              refine lv_istore (lv' := [(4, .int (nI (100 + (j + 1)))), (2, .long (kW μ 8 (j + 1))), (0, .ref (B 100)), (1, .int (nI p9)), (5, .int (nI (j + 1)))]) hx hb dX5_down_70 hl (by decide) rfl (fun ls hl => ?_)
              refine lv_iinc (v := nI ((j + 1) + 1)) (lv' := [(5, .int (nI ((j + 1) + 1))), (4, .int (nI (100 + (j + 1)))), (2, .long (kW μ 8 (j + 1))), (0, .ref (B 100)), (1, .int (nI p9))]) hx hb dX5_down_72 hl (k := 4) rfl (show nI (j + 1) + Int32.ofInt 1 = _ from nI_add (j + 1) 1) (by decide) rfl (fun ls hl => ?_)
              refine lv_goto (tgt := 10) hx hb dX5_down_75 (by decide) ?_
              have q18 : (kW μ 8 (j + 1)) = ((dnG μ p9 (j + 1)).1) := (by rw [dnG, if_pos ⟨c27, c36, Or.inl c42⟩])
              have q19 : nI (100 + (j + 1)) = oI ((dnG μ p9 (j + 1)).2) := (by rw [dnG, if_pos ⟨c27, c36, Or.inl c42⟩]; rfl)
              replace hl : lv_has ls 6 [(5, .int (nI ((j + 1) + 1))), (4, .int (oI ((dnG μ p9 (j + 1)).2))), (2, .long ((dnG μ p9 (j + 1)).1)), (0, .ref (B 100)), (1, .int (nI p9))] := (congrArg (lv_has ls 6) (m_lc rfl (m_lc (congrArg Value.int q19) (m_lc (congrArg Value.long q18) (m_lc rfl (m_lc rfl rfl)))))).mp hl
              exact ih10 (j + 1) (by omega) (by omega) _ _ hV hS ls (lv_sub hl [3, 4, 2, 1, 0] rfl)
            · refine lv_aload_n hx hb dX5_down_45 rfl (lv_at hl 0 rfl) ?_
              refine m_get (C := RX5) (T := TX5) (N := 34) hx hb hts hi_X5 hown hK hV 8 (v := .ref (B 8)) (g_m8 hM) rfl (by decide) k29 (fun _ h9 => h9) dX5_down_46 ?_
              refine lv_iload hx hb dX5_down_49 (lv_at hl 4 rfl) ?_
              refine m_lald hx hb hK hV 1 (i := nI (j + 1)) (x := (kW μ 8 (j + 1))) (a_m8 hM) rfl (vp_in_nI (by omega) (by omega)) (by rw [nI_clamp (by omega)] <;> first | rfl | (show oI (va_up _ _ _ _) = _; rw [vu_s] <;> rfl) | (show va_up _ _ _ _ = _; rw [vu_s] <;> rfl)) dX5_down_51 ?_
              refine lv_lload_n hx hb dX5_down_52 rfl (lv_at hl 2 rfl) ?_
              refine m_lcmp_ge (tgt := 72) hx hb dX5_down_53 dX5_down_54 (by decide) (fun c54 => ?_) (fun c54 => ?_)
              · refine lv_iinc (v := nI ((j + 1) + 1)) (lv' := [(5, .int (nI ((j + 1) + 1))), (0, .ref (B 100)), (1, .int (nI p9)), (2, .long ((dnG μ p9 j).1)), (4, .int (oI ((dnG μ p9 j).2)))]) hx hb dX5_down_72 hl (k := 4) rfl (show nI (j + 1) + Int32.ofInt 1 = _ from nI_add (j + 1) 1) (by decide) rfl (fun ls hl => ?_)
                refine lv_goto (tgt := 10) hx hb dX5_down_75 (by decide) ?_
                have q20 : ((dnG μ p9 j).1) = ((dnG μ p9 (j + 1)).1) := (by rw [dnG, if_neg (fun q => q.2.2.elim c42 (Int64.not_lt.mpr c54))])
                have q21 : oI ((dnG μ p9 j).2) = oI ((dnG μ p9 (j + 1)).2) := (by rw [dnG, if_neg (fun q => q.2.2.elim c42 (Int64.not_lt.mpr c54))])
                replace hl : lv_has ls 6 [(5, .int (nI ((j + 1) + 1))), (0, .ref (B 100)), (1, .int (nI p9)), (2, .long ((dnG μ p9 (j + 1)).1)), (4, .int (oI ((dnG μ p9 (j + 1)).2)))] := (congrArg (lv_has ls 6) (m_lc rfl (m_lc rfl (m_lc rfl (m_lc (congrArg Value.long q20) (m_lc (congrArg Value.int q21) rfl)))))).mp hl
                exact ih10 (j + 1) (by omega) (by omega) _ _ hV hS ls (lv_sub hl [1, 2, 3, 4, 0] rfl)
              · refine lv_aload_n hx hb dX5_down_57 rfl (lv_at hl 0 rfl) ?_
                refine m_get (C := RX5) (T := TX5) (N := 34) hx hb hts hi_X5 hown hK hV 8 (v := .ref (B 8)) (g_m8 hM) rfl (by decide) k29 (fun _ h9 => h9) dX5_down_58 ?_
                refine lv_iload hx hb dX5_down_61 (lv_at hl 4 rfl) ?_
                refine m_lald hx hb hK hV 1 (i := nI (j + 1)) (x := (kW μ 8 (j + 1))) (a_m8 hM) rfl (vp_in_nI (by omega) (by omega)) (by rw [nI_clamp (by omega)] <;> first | rfl | (show oI (va_up _ _ _ _) = _; rw [vu_s] <;> rfl) | (show va_up _ _ _ _ = _; rw [vu_s] <;> rfl)) dX5_down_63 ?_
                refine lv_lstore_n (lv' := [(2, .long (kW μ 8 (j + 1))), (0, .ref (B 100)), (1, .int (nI p9)), (4, .int (oI ((dnG μ p9 j).2))), (5, .int (nI (j + 1)))]) hx hb dX5_down_64 rfl hl (by decide) rfl (fun ls hl => ?_)
                refine lv_bipush (v := 100) hx hb dX5_down_65 (by decide) ?_
                refine lv_iload hx hb dX5_down_67 (lv_at hl 4 rfl) ?_
                refine lv_iadd hx hb dX5_down_69 ?_
                refine m_topi (y := nI (100 + (j + 1))) (nI_add 100 (j + 1)) ?_
                refine lv_istore (lv' := [(4, .int (nI (100 + (j + 1)))), (2, .long (kW μ 8 (j + 1))), (0, .ref (B 100)), (1, .int (nI p9)), (5, .int (nI (j + 1)))]) hx hb dX5_down_70 hl (by decide) rfl (fun ls hl => ?_)
                refine lv_iinc (v := nI ((j + 1) + 1)) (lv' := [(5, .int (nI ((j + 1) + 1))), (4, .int (nI (100 + (j + 1)))), (2, .long (kW μ 8 (j + 1))), (0, .ref (B 100)), (1, .int (nI p9))]) hx hb dX5_down_72 hl (k := 4) rfl (show nI (j + 1) + Int32.ofInt 1 = _ from nI_add (j + 1) 1) (by decide) rfl (fun ls hl => ?_)
                refine lv_goto (tgt := 10) hx hb dX5_down_75 (by decide) ?_
                have q22 : (kW μ 8 (j + 1)) = ((dnG μ p9 (j + 1)).1) := (by rw [dnG, if_pos ⟨c27, c36, Or.inr (Int64.not_le.mp c54)⟩])
                have q23 : nI (100 + (j + 1)) = oI ((dnG μ p9 (j + 1)).2) := (by rw [dnG, if_pos ⟨c27, c36, Or.inr (Int64.not_le.mp c54)⟩]; rfl)
                replace hl : lv_has ls 6 [(5, .int (nI ((j + 1) + 1))), (4, .int (oI ((dnG μ p9 (j + 1)).2))), (2, .long ((dnG μ p9 (j + 1)).1)), (0, .ref (B 100)), (1, .int (nI p9))] := (congrArg (lv_has ls 6) (m_lc rfl (m_lc (congrArg Value.int q23) (m_lc (congrArg Value.long q22) (m_lc rfl (m_lc rfl rfl)))))).mp hl
                exact ih10 (j + 1) (by omega) (by omega) _ _ hV hS ls (lv_sub hl [3, 4, 2, 1, 0] rfl)
  have q24 : (-1) = ((dnG μ p9 0).1) := rfl
  have q25 : (-1) = oI ((dnG μ p9 0).2) := rfl
  have q26 : 1 = nI (0 + 1) := rfl
  replace hl : lv_has ls 6 [(5, .int (nI (0 + 1))), (4, .int (oI ((dnG μ p9 0).2))), (2, .long ((dnG μ p9 0).1)), (0, .ref (B 100)), (1, .int (nI p9))] := (congrArg (lv_has ls 6) (m_lc (congrArg Value.int q26) (m_lc (congrArg Value.int q25) (m_lc (congrArg Value.long q24) (m_lc rfl (m_lc rfl rfl)))))).mp hl
  exact lp10 ((kN μ 9 0 - 0) + 1) 0 (by omega) (Nat.lt_succ_self _) _ _ hV hS ls (lv_sub hl [3, 4, 2, 1, 0] rfl)
set_option maxHeartbeats 4000000 in
set_option maxRecDepth 100000 in
theorem c_X5_down_5 {l : Launch} {D : va_G} {cs : mC} {df : Nat} {P : Nat → Prop} {h0 : mH} {B : Nat → Nat} {μ : KS} {hh : mH} (sz : Nat) (hM : DRep cs P h0 B μ hh) (p9 : Nat) (hp9 : p9 < kN μ 9 0) (hd : kN μ 9 0 ≤ p9 + 5) : Met l yX5_down wsX5_down ({ frames := 6, cells := 0, slots := 0, locals := 146 }) (mPre [.ref (B 100), .int (nI p9)] D cs df hh sz) (va_Qi ((fun (r : Int32) (h1 : mH) => h1 = hh ∧ r = oI (dnM μ 5 p9))) (mB D hh sz) (mA hh sz)) 0 0 (mA hh sz) := by
  refine Met.ofW (cc := cX5_down) (maxL := 6) (ret := (some .int)) (by decide) rfl ?_
  intro p e s m args below meth c s₁ B0 hml hv
  obtain ⟨hargs, hsz, hV, hE⟩ := hv
  subst hsz
  have hx := B0.exec
  have hb := B0.bytes
  have hr := B0.returns
  have hlocks := B0.notSynchronized
  have hts := atoms_spec (ws := wsX5_down) B0.pre
  have hown : s.vm.findClass RX5 = some m.cls := findClass_of_methodNamed B0.named
  have hK := hE.1.1
  have hA : ∀ q : Nat, s.heap.size ≤ q → mA hh s.heap.size q := mA.top
  have hS : va_S (mA hh s.heap.size) s.heap s.heap [] := va_S.rf
  have kk115 : (Cond.constantLong RX5 115 (-1)).before args s = true := hts _ (by decide +kernel)
  have hi_X5 : ∀ w ∈ u_ws RX5 TX5 34, w ∈ wsX5_down := by decide +kernel
  have k33 : (Cond.fieldLink RX5 33 "TaskKernelModel" "groups" "I").before args s = true := hts _ (by decide +kernel)
  have k117 : (Cond.fieldLink RX5 117 "TaskKernelModel" "tasks" "I").before args s = true := hts _ (by decide +kernel)
  have k88 : (Cond.fieldLink RX5 88 "TaskKernelModel" "isIn" "[Z").before args s = true := hts _ (by decide +kernel)
  have k36 : (Cond.fieldLink RX5 36 "TaskKernelModel" "groupOf" "[I").before args s = true := hts _ (by decide +kernel)
  have k42 : (Cond.fieldLink RX5 42 "TaskKernelModel" "times" "[J").before args s = true := hts _ (by decide +kernel)
  have k23 : (Cond.fieldLink RX5 23 "TaskKernelModel" "parents" "[I").before args s = true := hts _ (by decide +kernel)
  have k29 : (Cond.fieldLink RX5 29 "TaskKernelModel" "groupTimes" "[J").before args s = true := hts _ (by decide +kernel)
  have hl := lv_entry ([.ref (B 100), .int (nI p9)]) (n := 6) (by first | exact Nat.le_of_ble_eq_true rfl | simp [lg_sl, rf_cat, ct_ref, ct_int, ct_null, ct_long])
  have hent := lg_entry_eq m ([.ref (B 100), .int (nI p9)]) 6
  rw [← hargs] at hent
  rw [hent]
  generalize (lg_sl ([.ref (B 100), .int (nI p9)]) ++ List.replicate (6 - (lg_sl ([.ref (B 100), .int (nI p9)])).length) Slot.unset).toArray = ls at hl ⊢
  replace hl : lv_has ls 6 [(0, .ref (B 100)), (1, .int (nI p9))] := hl
  have hwf := hM.wf
  obtain ⟨⟨y0, y1, y2, y3⟩, y4, y5, y6, y7⟩ := hwf
  refine lv_ldc2 (v := (-1)) hx hb hown kk115 dX5_down_0 ?_
  refine lv_lstore_n (lv' := [(2, .long (-1)), (0, .ref (B 100)), (1, .int (nI p9))]) hx hb dX5_down_3 rfl hl (by decide) rfl (fun ls hl => ?_)
  refine lv_iconst (v := (-1)) hx hb dX5_down_4 (by decide) ?_
  refine lv_istore (lv' := [(4, .int (-1)), (2, .long (-1)), (0, .ref (B 100)), (1, .int (nI p9))]) hx hb dX5_down_5 hl (by decide) rfl (fun ls hl => ?_)
  refine lv_iconst (v := 1) hx hb dX5_down_7 (by decide) ?_
  refine lv_istore (lv' := [(5, .int 1), (4, .int (-1)), (2, .long (-1)), (0, .ref (B 100)), (1, .int (nI p9))]) hx hb dX5_down_8 hl (by decide) rfl (fun ls hl => ?_)
  have lp10 : ∀ (fu : Nat) (j : Nat), (j + 1 ≤ kN μ 9 0) → kN μ 9 0 - j < fu → ∀ (H : Heap) (locs : List Loc), mV D hh (mA hh s.heap.size) H → va_S (mA hh s.heap.size) s.heap H locs → ∀ (ls : Array Slot), lv_has ls 6 [(0, .ref (B 100)), (1, .int (nI p9)), (2, .long ((dnG μ p9 j).1)), (4, .int (oI ((dnG μ p9 j).2))), (5, .int (nI (j + 1)))] → W p l e ({ frames := 6, cells := 0, slots := 0, locals := 146 } : Room) s m args below meth c H locs 0 0 (MQ below (va_Qi ((fun (r : Int32) (h1 : mH) => h1 = hh ∧ r = oI (dnM μ 5 p9))) (mB D hh s.heap.size) (mA hh s.heap.size)) args s 0 0 (mA hh s.heap.size)) (F0 m 10 ls []) := by
    intro fu
    induction fu with
    | zero =>
      intro j hj hfu
      exact absurd hfu (Nat.not_lt_zero _)
    | succ fu ih10 =>
      intro j hj hfu H locs hV hS ls hl
      refine lv_iload hx hb dX5_down_10 (lv_at hl 4 rfl) ?_
      refine lv_aload_n hx hb dX5_down_12 rfl (lv_at hl 0 rfl) ?_
      refine m_get (C := RX5) (T := TX5) (N := 34) hx hb hts hi_X5 hown hK hV 9 (v := .int (nI (kN μ 9 0))) (by have z9 := g_m9 hM; exact z9) rfl (by decide) k33 (fun _ h9 => h9) dX5_down_13 ?_
      refine lv_icmp_ge (tgt := 78) hx hb dX5_down_16 (by decide) (fun c16 => ?_) (fun c16 => ?_)
      · replace c16 : kN μ 9 0 ≤ (j + 1) := (nI_leI (a := kN μ 9 0) (b := (j + 1)) (by omega) (by omega)).mp c16
        refine lv_iconst (v := 0) hx hb dX5_down_78 (by decide) ?_
        refine lv_istore (lv' := [(5, .int 0), (0, .ref (B 100)), (1, .int (nI p9)), (2, .long ((dnG μ p9 j).1)), (4, .int (oI ((dnG μ p9 j).2)))]) hx hb dX5_down_79 hl (by decide) rfl (fun ls hl => ?_)
        have lp81 : ∀ (fu : Nat) (i : Nat), (i ≤ kN μ 24 0) → kN μ 24 0 - i < fu → ∀ (H : Heap) (locs : List Loc), mV D hh (mA hh s.heap.size) H → va_S (mA hh s.heap.size) s.heap H locs → ∀ (ls : Array Slot), lv_has ls 6 [(0, .ref (B 100)), (1, .int (nI p9)), (2, .long ((dnT μ p9 i).1)), (4, .int (oI ((dnT μ p9 i).2))), (5, .int (nI i))] → W p l e ({ frames := 6, cells := 0, slots := 0, locals := 146 } : Room) s m args below meth c H locs 0 0 (MQ below (va_Qi ((fun (r : Int32) (h1 : mH) => h1 = hh ∧ r = oI (dnM μ 5 p9))) (mB D hh s.heap.size) (mA hh s.heap.size)) args s 0 0 (mA hh s.heap.size)) (F0 m 81 ls []) := by
          intro fu
          induction fu with
          | zero =>
            intro i hi hfu
            exact absurd hfu (Nat.not_lt_zero _)
          | succ fu ih81 =>
            intro i hi hfu H locs hV hS ls hl
            refine lv_iload hx hb dX5_down_81 (lv_at hl 4 rfl) ?_
            refine lv_aload_n hx hb dX5_down_83 rfl (lv_at hl 0 rfl) ?_
            refine m_get (C := RX5) (T := TX5) (N := 34) hx hb hts hi_X5 hown hK hV 24 (v := .int (nI (kN μ 24 0))) (by have z9 := g_m24 hM; exact z9) rfl (by decide) k117 (fun _ h9 => h9) dX5_down_84 ?_
            refine lv_icmp_ge (tgt := 147) hx hb dX5_down_87 (by decide) (fun c87 => ?_) (fun c87 => ?_)
            · replace c87 : kN μ 24 0 ≤ i := (nI_leI (a := kN μ 24 0) (b := i) (by omega) (by omega)).mp c87
              rw [show i = kN μ 24 0 by omega] at hl
              replace hl : lv_has ls 6 [(0, .ref (B 100)), (1, .int (nI p9)), (4, .int (oI (dnE μ p9)))] := lv_sub hl [0, 1, 3] rfl
              rcases e9 : dnE μ p9 with _ | mb
              · replace hl : lv_has ls 6 [(0, .ref (B 100)), (1, .int (nI p9)), (4, .int (-1))] := by have h9 := hl; rw [e9] at h9; exact h9
                refine lv_iload hx hb dX5_down_147 (lv_at hl 2 rfl) ?_
                refine lv_bipush (v := 100) hx hb dX5_down_149 (by decide) ?_
                refine lv_icmp_lt (tgt := 166) hx hb dX5_down_151 (by decide) (fun c151 => ?_) (fun c151 => (absurd (by decide) c151))
                refine lv_iload hx hb dX5_down_166 (lv_at hl 2 rfl) ?_
                exact m_iret (v := (-1)) hx hb hr hlocks hV hS (⟨rfl, by (conv => rhs; rw [dnM, e9]); try rfl⟩) dX5_down_168
              · replace hl : lv_has ls 6 [(0, .ref (B 100)), (1, .int (nI p9)), (4, .int (nI mb))] := by have h9 := hl; rw [e9] at h9; exact h9
                have bm := dnT_lt y1 e9
                refine lv_iload hx hb dX5_down_147 (lv_at hl 2 rfl) ?_
                refine lv_bipush (v := 100) hx hb dX5_down_149 (by decide) ?_
                refine lv_icmp_lt (tgt := 166) hx hb dX5_down_151 (by decide) (fun c151 => ?_) (fun c151 => ?_)
                · replace c151 : mb < 100 := (nI_ltI (a := mb) (b := 100) (by omega) (by omega)).mp c151
                  refine lv_iload hx hb dX5_down_166 (lv_at hl 2 rfl) ?_
                  exact m_iret (v := nI mb) hx hb hr hlocks hV hS (⟨rfl, by (conv => rhs; rw [dnM, e9]; dsimp only; rw [if_neg (by omega)]); try rfl⟩) dX5_down_168
                · replace c151 : ¬ mb < 100 := fun q9 => c151 ((nI_ltI (a := mb) (b := 100) (by omega) (by omega)).mpr q9)
                  refine lv_aload_n hx hb dX5_down_154 rfl (lv_at hl 0 rfl) ?_
                  refine lv_iload hx hb dX5_down_155 (lv_at hl 2 rfl) ?_
                  refine lv_bipush (v := 100) hx hb dX5_down_157 (by decide) ?_
                  refine lv_isub hx hb dX5_down_159 ?_
                  refine m_topi (y := nI (mb - 100)) (pk_sub (a := mb) (b := 100) (by omega)) ?_
                  refine m_calli (va_runV (As := [.int (nI (mb - 100))]) (rest := []) ⟨hx, hb, hml, hown, hts⟩ (c_X5_down_4 (l := l) (H.size) hM (mb - 100) (by omega) (by have z9 := y4 (mb - 100) (by omega) (by omega); omega)) (cwV 1 hts gX5_down_X5_down rfl rfl rfl (by decide +kernel) ⟨by decide, by decide⟩) (m_preV (r := (RX5, TX5, 34)) hE hV hS hA (hM.at 100 (by decide)) rfl) rfl rfl hl.1 rfl (lv_room (by first | exact Nat.le_of_ble_eq_true rfl | simp [rf_cat, ct_ref, ct_int, ct_null, ct_long])) dX5_down_160 ⟨by decide, by decide⟩) hV hS hA (fun r h1 H locs hV hS hp _ => ?_)
                  obtain ⟨e1, e2⟩ := hp
                  subst e2
                  rw [e1] at hV; clear e1
                  refine lv_goto (tgt := 168) hx hb dX5_down_163 (by decide) ?_
                  exact m_iret (v := oI (dnM μ 4 (mb - 100))) hx hb hr hlocks hV hS (⟨rfl, by (conv => rhs; rw [dnM, e9]; dsimp only; rw [if_pos (by omega)]); try rfl⟩) dX5_down_168
            · replace c87 : ¬ kN μ 24 0 ≤ i := fun q9 => c87 ((nI_leI (a := kN μ 24 0) (b := i) (by omega) (by omega)).mpr q9)
              refine lv_aload_n hx hb dX5_down_90 rfl (lv_at hl 0 rfl) ?_
              refine m_get (C := RX5) (T := TX5) (N := 34) hx hb hts hi_X5 hown hK hV 32 (v := .ref (B 32)) (g_m32 hM) rfl (by decide) k88 (fun _ h9 => h9) dX5_down_91 ?_
              refine lv_iload hx hb dX5_down_94 (lv_at hl 4 rfl) ?_
              refine m_zald hx hb hK hV 2 (i := nI i) (x := bI (kB μ 32 i)) (a_m32 hM) rfl (vp_in_nI (by omega) (by omega)) (by rw [nI_clamp (by omega)] <;> first | rfl | (show oI (va_up _ _ _ _) = _; rw [vu_s] <;> rfl) | (show va_up _ _ _ _ = _; rw [vu_s] <;> rfl)) dX5_down_96 ?_
              refine lv_if_eq (tgt := 141) hx hb dX5_down_97 (by decide) (fun c97 => ?_) (fun c97 => ?_)
              · replace c97 : kB μ 32 i = false := bI_0.mp c97
                refine lv_iinc (v := nI (i + 1)) (lv' := [(5, .int (nI (i + 1))), (0, .ref (B 100)), (1, .int (nI p9)), (2, .long ((dnT μ p9 i).1)), (4, .int (oI ((dnT μ p9 i).2)))]) hx hb dX5_down_141 hl (k := 4) rfl (show nI i + Int32.ofInt 1 = _ from nI_add i 1) (by decide) rfl (fun ls hl => ?_)
                refine lv_goto (tgt := 81) hx hb dX5_down_144 (by decide) ?_
                have q1 : ((dnT μ p9 i).1) = ((dnT μ p9 (i + 1)).1) := (by rw [dnT, if_neg (fun q => absurd q.1 (by rw [c97]; decide))])
                have q2 : oI ((dnT μ p9 i).2) = oI ((dnT μ p9 (i + 1)).2) := (by rw [dnT, if_neg (fun q => absurd q.1 (by rw [c97]; decide))])
                replace hl : lv_has ls 6 [(5, .int (nI (i + 1))), (0, .ref (B 100)), (1, .int (nI p9)), (2, .long ((dnT μ p9 (i + 1)).1)), (4, .int (oI ((dnT μ p9 (i + 1)).2)))] := (congrArg (lv_has ls 6) (m_lc rfl (m_lc rfl (m_lc rfl (m_lc (congrArg Value.long q1) (m_lc (congrArg Value.int q2) rfl)))))).mp hl
                exact ih81 (i + 1) (by omega) (by omega) _ _ hV hS ls (lv_sub hl [1, 2, 3, 4, 0] rfl)
              · replace c97 : kB μ 32 i = true := bI_1.mp c97
                refine lv_aload_n hx hb dX5_down_100 rfl (lv_at hl 0 rfl) ?_
                refine m_get (C := RX5) (T := TX5) (N := 34) hx hb hts hi_X5 hown hK hV 10 (v := .ref (B 10)) (g_m10 hM) rfl (by decide) k36 (fun _ h9 => h9) dX5_down_101 ?_
                refine lv_iload hx hb dX5_down_104 (lv_at hl 4 rfl) ?_
                refine m_iald hx hb hK hV 0 (i := nI i) (x := nI (kN μ 10 i)) (a_m10 hM) rfl (vp_in_nI (by omega) (by omega)) (by rw [nI_clamp (by omega)] <;> first | rfl | (show oI (va_up _ _ _ _) = _; rw [vu_s] <;> rfl) | (show va_up _ _ _ _ = _; rw [vu_s] <;> rfl)) dX5_down_106 ?_
                refine lv_iload_n hx hb dX5_down_107 rfl (lv_at hl 1 rfl) ?_
                have b108 := y5 i (by omega)
                refine lv_icmp_ne (tgt := 141) hx hb dX5_down_108 (by decide) (fun c108 => ?_) (fun c108 => ?_)
                · replace c108 : ¬ kN μ 10 i = p9 := fun q9 => c108 ((nI_eq (a := kN μ 10 i) (b := p9) (by omega) (by omega)).mpr q9)
                  refine lv_iinc (v := nI (i + 1)) (lv' := [(5, .int (nI (i + 1))), (0, .ref (B 100)), (1, .int (nI p9)), (2, .long ((dnT μ p9 i).1)), (4, .int (oI ((dnT μ p9 i).2)))]) hx hb dX5_down_141 hl (k := 4) rfl (show nI i + Int32.ofInt 1 = _ from nI_add i 1) (by decide) rfl (fun ls hl => ?_)
                  refine lv_goto (tgt := 81) hx hb dX5_down_144 (by decide) ?_
                  have q3 : ((dnT μ p9 i).1) = ((dnT μ p9 (i + 1)).1) := (by rw [dnT, if_neg (fun q => c108 q.2.1)])
                  have q4 : oI ((dnT μ p9 i).2) = oI ((dnT μ p9 (i + 1)).2) := (by rw [dnT, if_neg (fun q => c108 q.2.1)])
                  replace hl : lv_has ls 6 [(5, .int (nI (i + 1))), (0, .ref (B 100)), (1, .int (nI p9)), (2, .long ((dnT μ p9 (i + 1)).1)), (4, .int (oI ((dnT μ p9 (i + 1)).2)))] := (congrArg (lv_has ls 6) (m_lc rfl (m_lc rfl (m_lc rfl (m_lc (congrArg Value.long q3) (m_lc (congrArg Value.int q4) rfl)))))).mp hl
                  exact ih81 (i + 1) (by omega) (by omega) _ _ hV hS ls (lv_sub hl [1, 2, 3, 4, 0] rfl)
                · replace c108 : kN μ 10 i = p9 := (nI_eq (a := kN μ 10 i) (b := p9) (by omega) (by omega)).mp c108
                  refine lv_lload_n hx hb dX5_down_111 rfl (lv_at hl 2 rfl) ?_
                  refine lv_lconst (v := 0) hx hb dX5_down_112 (by decide) ?_
                  refine m_lcmp_lt (tgt := 129) hx hb dX5_down_113 dX5_down_114 (by decide) (fun c114 => ?_) (fun c114 => ?_)
                  · refine lv_aload_n hx hb dX5_down_129 rfl (lv_at hl 0 rfl) ?_
                    refine m_get (C := RX5) (T := TX5) (N := 34) hx hb hts hi_X5 hown hK hV 12 (v := .ref (B 12)) (g_m12 hM) rfl (by decide) k42 (fun _ h9 => h9) dX5_down_130 ?_
                    refine lv_iload hx hb dX5_down_133 (lv_at hl 4 rfl) ?_
                    refine m_lald hx hb hK hV 1 (i := nI i) (x := (kW μ 12 i)) (a_m12 hM) rfl (vp_in_nI (by omega) (by omega)) (by rw [nI_clamp (by omega)] <;> first | rfl | (show oI (va_up _ _ _ _) = _; rw [vu_s] <;> rfl) | (show va_up _ _ _ _ = _; rw [vu_s] <;> rfl)) dX5_down_135 ?_
                    refine lv_lstore_n (lv' := [(2, .long (kW μ 12 i)), (0, .ref (B 100)), (1, .int (nI p9)), (4, .int (oI ((dnT μ p9 i).2))), (5, .int (nI i))]) hx hb dX5_down_136 rfl hl (by decide) rfl (fun ls hl => ?_)
                    refine lv_iload hx hb dX5_down_137 (lv_at hl 4 rfl) ?_
                    refine lv_istore (lv' := [(4, .int (nI i)), (2, .long (kW μ 12 i)), (0, .ref (B 100)), (1, .int (nI p9)), (5, .int (nI i))]) hx hb dX5_down_139 hl (by decide) rfl (fun ls hl => ?_)
                    refine lv_iinc (v := nI (i + 1)) (lv' := [(5, .int (nI (i + 1))), (4, .int (nI i)), (2, .long (kW μ 12 i)), (0, .ref (B 100)), (1, .int (nI p9))]) hx hb dX5_down_141 hl (k := 4) rfl (show nI i + Int32.ofInt 1 = _ from nI_add i 1) (by decide) rfl (fun ls hl => ?_)
                    refine lv_goto (tgt := 81) hx hb dX5_down_144 (by decide) ?_
                    have q5 : (kW μ 12 i) = ((dnT μ p9 (i + 1)).1) := (by rw [dnT, if_pos ⟨c97, c108, Or.inl c114⟩])
                    have q6 : nI i = oI ((dnT μ p9 (i + 1)).2) := (by rw [dnT, if_pos ⟨c97, c108, Or.inl c114⟩]; rfl)
                    replace hl : lv_has ls 6 [(5, .int (nI (i + 1))), (4, .int (oI ((dnT μ p9 (i + 1)).2))), (2, .long ((dnT μ p9 (i + 1)).1)), (0, .ref (B 100)), (1, .int (nI p9))] := (congrArg (lv_has ls 6) (m_lc rfl (m_lc (congrArg Value.int q6) (m_lc (congrArg Value.long q5) (m_lc rfl (m_lc rfl rfl)))))).mp hl
                    exact ih81 (i + 1) (by omega) (by omega) _ _ hV hS ls (lv_sub hl [3, 4, 2, 1, 0] rfl)
                  · refine lv_aload_n hx hb dX5_down_117 rfl (lv_at hl 0 rfl) ?_
                    refine m_get (C := RX5) (T := TX5) (N := 34) hx hb hts hi_X5 hown hK hV 12 (v := .ref (B 12)) (g_m12 hM) rfl (by decide) k42 (fun _ h9 => h9) dX5_down_118 ?_
                    refine lv_iload hx hb dX5_down_121 (lv_at hl 4 rfl) ?_
                    refine m_lald hx hb hK hV 1 (i := nI i) (x := (kW μ 12 i)) (a_m12 hM) rfl (vp_in_nI (by omega) (by omega)) (by rw [nI_clamp (by omega)] <;> first | rfl | (show oI (va_up _ _ _ _) = _; rw [vu_s] <;> rfl) | (show va_up _ _ _ _ = _; rw [vu_s] <;> rfl)) dX5_down_123 ?_
                    refine lv_lload_n hx hb dX5_down_124 rfl (lv_at hl 2 rfl) ?_
                    refine m_lcmp_ge (tgt := 141) hx hb dX5_down_125 dX5_down_126 (by decide) (fun c126 => ?_) (fun c126 => ?_)
                    · refine lv_iinc (v := nI (i + 1)) (lv' := [(5, .int (nI (i + 1))), (0, .ref (B 100)), (1, .int (nI p9)), (2, .long ((dnT μ p9 i).1)), (4, .int (oI ((dnT μ p9 i).2)))]) hx hb dX5_down_141 hl (k := 4) rfl (show nI i + Int32.ofInt 1 = _ from nI_add i 1) (by decide) rfl (fun ls hl => ?_)
                      refine lv_goto (tgt := 81) hx hb dX5_down_144 (by decide) ?_
                      have q7 : ((dnT μ p9 i).1) = ((dnT μ p9 (i + 1)).1) := (by rw [dnT, if_neg (fun q => q.2.2.elim c114 (Int64.not_lt.mpr c126))])
                      have q8 : oI ((dnT μ p9 i).2) = oI ((dnT μ p9 (i + 1)).2) := (by rw [dnT, if_neg (fun q => q.2.2.elim c114 (Int64.not_lt.mpr c126))])
                      replace hl : lv_has ls 6 [(5, .int (nI (i + 1))), (0, .ref (B 100)), (1, .int (nI p9)), (2, .long ((dnT μ p9 (i + 1)).1)), (4, .int (oI ((dnT μ p9 (i + 1)).2)))] := (congrArg (lv_has ls 6) (m_lc rfl (m_lc rfl (m_lc rfl (m_lc (congrArg Value.long q7) (m_lc (congrArg Value.int q8) rfl)))))).mp hl
                      exact ih81 (i + 1) (by omega) (by omega) _ _ hV hS ls (lv_sub hl [1, 2, 3, 4, 0] rfl)
                    · refine lv_aload_n hx hb dX5_down_129 rfl (lv_at hl 0 rfl) ?_
                      refine m_get (C := RX5) (T := TX5) (N := 34) hx hb hts hi_X5 hown hK hV 12 (v := .ref (B 12)) (g_m12 hM) rfl (by decide) k42 (fun _ h9 => h9) dX5_down_130 ?_
                      refine lv_iload hx hb dX5_down_133 (lv_at hl 4 rfl) ?_
                      refine m_lald hx hb hK hV 1 (i := nI i) (x := (kW μ 12 i)) (a_m12 hM) rfl (vp_in_nI (by omega) (by omega)) (by rw [nI_clamp (by omega)] <;> first | rfl | (show oI (va_up _ _ _ _) = _; rw [vu_s] <;> rfl) | (show va_up _ _ _ _ = _; rw [vu_s] <;> rfl)) dX5_down_135 ?_
                      refine lv_lstore_n (lv' := [(2, .long (kW μ 12 i)), (0, .ref (B 100)), (1, .int (nI p9)), (4, .int (oI ((dnT μ p9 i).2))), (5, .int (nI i))]) hx hb dX5_down_136 rfl hl (by decide) rfl (fun ls hl => ?_)
                      refine lv_iload hx hb dX5_down_137 (lv_at hl 4 rfl) ?_
                      refine lv_istore (lv' := [(4, .int (nI i)), (2, .long (kW μ 12 i)), (0, .ref (B 100)), (1, .int (nI p9)), (5, .int (nI i))]) hx hb dX5_down_139 hl (by decide) rfl (fun ls hl => ?_)
                      refine lv_iinc (v := nI (i + 1)) (lv' := [(5, .int (nI (i + 1))), (4, .int (nI i)), (2, .long (kW μ 12 i)), (0, .ref (B 100)), (1, .int (nI p9))]) hx hb dX5_down_141 hl (k := 4) rfl (show nI i + Int32.ofInt 1 = _ from nI_add i 1) (by decide) rfl (fun ls hl => ?_)
                      refine lv_goto (tgt := 81) hx hb dX5_down_144 (by decide) ?_
                      have q9 : (kW μ 12 i) = ((dnT μ p9 (i + 1)).1) := (by rw [dnT, if_pos ⟨c97, c108, Or.inr (Int64.not_le.mp c126)⟩])
                      have q10 : nI i = oI ((dnT μ p9 (i + 1)).2) := (by rw [dnT, if_pos ⟨c97, c108, Or.inr (Int64.not_le.mp c126)⟩]; rfl)
                      replace hl : lv_has ls 6 [(5, .int (nI (i + 1))), (4, .int (oI ((dnT μ p9 (i + 1)).2))), (2, .long ((dnT μ p9 (i + 1)).1)), (0, .ref (B 100)), (1, .int (nI p9))] := (congrArg (lv_has ls 6) (m_lc rfl (m_lc (congrArg Value.int q10) (m_lc (congrArg Value.long q9) (m_lc rfl (m_lc rfl rfl)))))).mp hl
                      exact ih81 (i + 1) (by omega) (by omega) _ _ hV hS ls (lv_sub hl [3, 4, 2, 1, 0] rfl)
        have q11 : ((dnG μ p9 j).1) = ((dnT μ p9 0).1) := (by rw [show j = kN μ 9 0 - 1 by omega]; rfl)
        have q12 : oI ((dnG μ p9 j).2) = oI ((dnT μ p9 0).2) := (by rw [show j = kN μ 9 0 - 1 by omega]; rfl)
        have q13 : 0 = nI 0 := rfl
        replace hl : lv_has ls 6 [(5, .int (nI 0)), (0, .ref (B 100)), (1, .int (nI p9)), (2, .long ((dnT μ p9 0).1)), (4, .int (oI ((dnT μ p9 0).2)))] := (congrArg (lv_has ls 6) (m_lc (congrArg Value.int q13) (m_lc rfl (m_lc rfl (m_lc (congrArg Value.long q11) (m_lc (congrArg Value.int q12) rfl)))))).mp hl
        exact lp81 ((kN μ 24 0 - 0) + 1) 0 (Nat.zero_le _) (Nat.lt_succ_self _) _ _ hV hS ls (lv_sub hl [1, 2, 3, 4, 0] rfl)
      · replace c16 : ¬ kN μ 9 0 ≤ (j + 1) := fun q9 => c16 ((nI_leI (a := kN μ 9 0) (b := (j + 1)) (by omega) (by omega)).mpr q9)
        refine lv_aload_n hx hb dX5_down_19 rfl (lv_at hl 0 rfl) ?_
        refine m_get (C := RX5) (T := TX5) (N := 34) hx hb hts hi_X5 hown hK hV 6 (v := .ref (B 6)) (g_m6 hM) rfl (by decide) k23 (fun _ h9 => h9) dX5_down_20 ?_
        refine lv_iload hx hb dX5_down_23 (lv_at hl 4 rfl) ?_
        refine m_iald hx hb hK hV 0 (i := nI (j + 1)) (x := nI (kN μ 6 (j + 1))) (a_m6 hM) rfl (vp_in_nI (by omega) (by omega)) (by rw [nI_clamp (by omega)] <;> first | rfl | (show oI (va_up _ _ _ _) = _; rw [vu_s] <;> rfl) | (show va_up _ _ _ _ = _; rw [vu_s] <;> rfl)) dX5_down_25 ?_
        refine lv_iload_n hx hb dX5_down_26 rfl (lv_at hl 1 rfl) ?_
        have b27 := y4 (j + 1) (by omega) (by omega)
        refine lv_icmp_ne (tgt := 72) hx hb dX5_down_27 (by decide) (fun c27 => ?_) (fun c27 => ?_)
        · replace c27 : ¬ kN μ 6 (j + 1) = p9 := fun q9 => c27 ((nI_eq (a := kN μ 6 (j + 1)) (b := p9) (by omega) (by omega)).mpr q9)
          refine lv_iinc (v := nI ((j + 1) + 1)) (lv' := [(5, .int (nI ((j + 1) + 1))), (0, .ref (B 100)), (1, .int (nI p9)), (2, .long ((dnG μ p9 j).1)), (4, .int (oI ((dnG μ p9 j).2)))]) hx hb dX5_down_72 hl (k := 4) rfl (show nI (j + 1) + Int32.ofInt 1 = _ from nI_add (j + 1) 1) (by decide) rfl (fun ls hl => ?_)
          refine lv_goto (tgt := 10) hx hb dX5_down_75 (by decide) ?_
          have q14 : ((dnG μ p9 j).1) = ((dnG μ p9 (j + 1)).1) := (by rw [dnG, if_neg (fun q => c27 q.1)])
          have q15 : oI ((dnG μ p9 j).2) = oI ((dnG μ p9 (j + 1)).2) := (by rw [dnG, if_neg (fun q => c27 q.1)])
          replace hl : lv_has ls 6 [(5, .int (nI ((j + 1) + 1))), (0, .ref (B 100)), (1, .int (nI p9)), (2, .long ((dnG μ p9 (j + 1)).1)), (4, .int (oI ((dnG μ p9 (j + 1)).2)))] := (congrArg (lv_has ls 6) (m_lc rfl (m_lc rfl (m_lc rfl (m_lc (congrArg Value.long q14) (m_lc (congrArg Value.int q15) rfl)))))).mp hl
          exact ih10 (j + 1) (by omega) (by omega) _ _ hV hS ls (lv_sub hl [1, 2, 3, 4, 0] rfl)
        · replace c27 : kN μ 6 (j + 1) = p9 := (nI_eq (a := kN μ 6 (j + 1)) (b := p9) (by omega) (by omega)).mp c27
          refine lv_aload_n hx hb dX5_down_30 rfl (lv_at hl 0 rfl) ?_
          refine lv_iload hx hb dX5_down_31 (lv_at hl 4 rfl) ?_
          refine m_calli (va_runV (As := [.int (nI (j + 1))]) (rest := []) ⟨hx, hb, hml, hown, hts⟩ (c_X5_hasUnder (l := l) (H.size) hM (j + 1) (by omega)) (cwV 1 hts gX5_down_X5_hasUnder rfl rfl rfl (by decide +kernel) ⟨by decide, by decide⟩) (m_preV (r := (RX5, TX5, 34)) hE hV hS hA (hM.at 100 (by decide)) rfl) rfl rfl hl.1 rfl (lv_room (by first | exact Nat.le_of_ble_eq_true rfl | simp [rf_cat, ct_ref, ct_int, ct_null, ct_long])) dX5_down_33 ⟨by decide, by decide⟩) hV hS hA (fun r h1 H locs hV hS hp _ => ?_)
          obtain ⟨e1, e2⟩ := hp
          subst e2
          rw [e1] at hV; clear e1
          refine lv_if_eq (tgt := 72) hx hb dX5_down_36 (by decide) (fun c36 => ?_) (fun c36 => ?_)
          · replace c36 : (huM μ (j + 1) (kN μ 24 0)) = false := bI_0.mp c36
            refine lv_iinc (v := nI ((j + 1) + 1)) (lv' := [(5, .int (nI ((j + 1) + 1))), (0, .ref (B 100)), (1, .int (nI p9)), (2, .long ((dnG μ p9 j).1)), (4, .int (oI ((dnG μ p9 j).2)))]) hx hb dX5_down_72 hl (k := 4) rfl (show nI (j + 1) + Int32.ofInt 1 = _ from nI_add (j + 1) 1) (by decide) rfl (fun ls hl => ?_)
            refine lv_goto (tgt := 10) hx hb dX5_down_75 (by decide) ?_
            have q16 : ((dnG μ p9 j).1) = ((dnG μ p9 (j + 1)).1) := (by rw [dnG, if_neg (fun q => absurd q.2.1 (by rw [c36]; decide))])
            have q17 : oI ((dnG μ p9 j).2) = oI ((dnG μ p9 (j + 1)).2) := (by rw [dnG, if_neg (fun q => absurd q.2.1 (by rw [c36]; decide))])
            replace hl : lv_has ls 6 [(5, .int (nI ((j + 1) + 1))), (0, .ref (B 100)), (1, .int (nI p9)), (2, .long ((dnG μ p9 (j + 1)).1)), (4, .int (oI ((dnG μ p9 (j + 1)).2)))] := (congrArg (lv_has ls 6) (m_lc rfl (m_lc rfl (m_lc rfl (m_lc (congrArg Value.long q16) (m_lc (congrArg Value.int q17) rfl)))))).mp hl
            exact ih10 (j + 1) (by omega) (by omega) _ _ hV hS ls (lv_sub hl [1, 2, 3, 4, 0] rfl)
          · replace c36 : (huM μ (j + 1) (kN μ 24 0)) = true := bI_1.mp c36
            refine lv_lload_n hx hb dX5_down_39 rfl (lv_at hl 2 rfl) ?_
            refine lv_lconst (v := 0) hx hb dX5_down_40 (by decide) ?_
            refine m_lcmp_lt (tgt := 57) hx hb dX5_down_41 dX5_down_42 (by decide) (fun c42 => ?_) (fun c42 => ?_)
            · refine lv_aload_n hx hb dX5_down_57 rfl (lv_at hl 0 rfl) ?_
              refine m_get (C := RX5) (T := TX5) (N := 34) hx hb hts hi_X5 hown hK hV 8 (v := .ref (B 8)) (g_m8 hM) rfl (by decide) k29 (fun _ h9 => h9) dX5_down_58 ?_
              refine lv_iload hx hb dX5_down_61 (lv_at hl 4 rfl) ?_
              refine m_lald hx hb hK hV 1 (i := nI (j + 1)) (x := (kW μ 8 (j + 1))) (a_m8 hM) rfl (vp_in_nI (by omega) (by omega)) (by rw [nI_clamp (by omega)] <;> first | rfl | (show oI (va_up _ _ _ _) = _; rw [vu_s] <;> rfl) | (show va_up _ _ _ _ = _; rw [vu_s] <;> rfl)) dX5_down_63 ?_
              refine lv_lstore_n (lv' := [(2, .long (kW μ 8 (j + 1))), (0, .ref (B 100)), (1, .int (nI p9)), (4, .int (oI ((dnG μ p9 j).2))), (5, .int (nI (j + 1)))]) hx hb dX5_down_64 rfl hl (by decide) rfl (fun ls hl => ?_)
              refine lv_bipush (v := 100) hx hb dX5_down_65 (by decide) ?_
              refine lv_iload hx hb dX5_down_67 (lv_at hl 4 rfl) ?_
              refine lv_iadd hx hb dX5_down_69 ?_
              refine m_topi (y := nI (100 + (j + 1))) (nI_add 100 (j + 1)) ?_
              refine lv_istore (lv' := [(4, .int (nI (100 + (j + 1)))), (2, .long (kW μ 8 (j + 1))), (0, .ref (B 100)), (1, .int (nI p9)), (5, .int (nI (j + 1)))]) hx hb dX5_down_70 hl (by decide) rfl (fun ls hl => ?_)
              refine lv_iinc (v := nI ((j + 1) + 1)) (lv' := [(5, .int (nI ((j + 1) + 1))), (4, .int (nI (100 + (j + 1)))), (2, .long (kW μ 8 (j + 1))), (0, .ref (B 100)), (1, .int (nI p9))]) hx hb dX5_down_72 hl (k := 4) rfl (show nI (j + 1) + Int32.ofInt 1 = _ from nI_add (j + 1) 1) (by decide) rfl (fun ls hl => ?_)
              refine lv_goto (tgt := 10) hx hb dX5_down_75 (by decide) ?_
              have q18 : (kW μ 8 (j + 1)) = ((dnG μ p9 (j + 1)).1) := (by rw [dnG, if_pos ⟨c27, c36, Or.inl c42⟩])
              have q19 : nI (100 + (j + 1)) = oI ((dnG μ p9 (j + 1)).2) := (by rw [dnG, if_pos ⟨c27, c36, Or.inl c42⟩]; rfl)
              replace hl : lv_has ls 6 [(5, .int (nI ((j + 1) + 1))), (4, .int (oI ((dnG μ p9 (j + 1)).2))), (2, .long ((dnG μ p9 (j + 1)).1)), (0, .ref (B 100)), (1, .int (nI p9))] := (congrArg (lv_has ls 6) (m_lc rfl (m_lc (congrArg Value.int q19) (m_lc (congrArg Value.long q18) (m_lc rfl (m_lc rfl rfl)))))).mp hl
              exact ih10 (j + 1) (by omega) (by omega) _ _ hV hS ls (lv_sub hl [3, 4, 2, 1, 0] rfl)
            · refine lv_aload_n hx hb dX5_down_45 rfl (lv_at hl 0 rfl) ?_
              refine m_get (C := RX5) (T := TX5) (N := 34) hx hb hts hi_X5 hown hK hV 8 (v := .ref (B 8)) (g_m8 hM) rfl (by decide) k29 (fun _ h9 => h9) dX5_down_46 ?_
              refine lv_iload hx hb dX5_down_49 (lv_at hl 4 rfl) ?_
              refine m_lald hx hb hK hV 1 (i := nI (j + 1)) (x := (kW μ 8 (j + 1))) (a_m8 hM) rfl (vp_in_nI (by omega) (by omega)) (by rw [nI_clamp (by omega)] <;> first | rfl | (show oI (va_up _ _ _ _) = _; rw [vu_s] <;> rfl) | (show va_up _ _ _ _ = _; rw [vu_s] <;> rfl)) dX5_down_51 ?_
              refine lv_lload_n hx hb dX5_down_52 rfl (lv_at hl 2 rfl) ?_
              refine m_lcmp_ge (tgt := 72) hx hb dX5_down_53 dX5_down_54 (by decide) (fun c54 => ?_) (fun c54 => ?_)
              · refine lv_iinc (v := nI ((j + 1) + 1)) (lv' := [(5, .int (nI ((j + 1) + 1))), (0, .ref (B 100)), (1, .int (nI p9)), (2, .long ((dnG μ p9 j).1)), (4, .int (oI ((dnG μ p9 j).2)))]) hx hb dX5_down_72 hl (k := 4) rfl (show nI (j + 1) + Int32.ofInt 1 = _ from nI_add (j + 1) 1) (by decide) rfl (fun ls hl => ?_)
                refine lv_goto (tgt := 10) hx hb dX5_down_75 (by decide) ?_
                have q20 : ((dnG μ p9 j).1) = ((dnG μ p9 (j + 1)).1) := (by rw [dnG, if_neg (fun q => q.2.2.elim c42 (Int64.not_lt.mpr c54))])
                have q21 : oI ((dnG μ p9 j).2) = oI ((dnG μ p9 (j + 1)).2) := (by rw [dnG, if_neg (fun q => q.2.2.elim c42 (Int64.not_lt.mpr c54))])
                replace hl : lv_has ls 6 [(5, .int (nI ((j + 1) + 1))), (0, .ref (B 100)), (1, .int (nI p9)), (2, .long ((dnG μ p9 (j + 1)).1)), (4, .int (oI ((dnG μ p9 (j + 1)).2)))] := (congrArg (lv_has ls 6) (m_lc rfl (m_lc rfl (m_lc rfl (m_lc (congrArg Value.long q20) (m_lc (congrArg Value.int q21) rfl)))))).mp hl
                exact ih10 (j + 1) (by omega) (by omega) _ _ hV hS ls (lv_sub hl [1, 2, 3, 4, 0] rfl)
              · refine lv_aload_n hx hb dX5_down_57 rfl (lv_at hl 0 rfl) ?_
                refine m_get (C := RX5) (T := TX5) (N := 34) hx hb hts hi_X5 hown hK hV 8 (v := .ref (B 8)) (g_m8 hM) rfl (by decide) k29 (fun _ h9 => h9) dX5_down_58 ?_
                refine lv_iload hx hb dX5_down_61 (lv_at hl 4 rfl) ?_
                refine m_lald hx hb hK hV 1 (i := nI (j + 1)) (x := (kW μ 8 (j + 1))) (a_m8 hM) rfl (vp_in_nI (by omega) (by omega)) (by rw [nI_clamp (by omega)] <;> first | rfl | (show oI (va_up _ _ _ _) = _; rw [vu_s] <;> rfl) | (show va_up _ _ _ _ = _; rw [vu_s] <;> rfl)) dX5_down_63 ?_
                refine lv_lstore_n (lv' := [(2, .long (kW μ 8 (j + 1))), (0, .ref (B 100)), (1, .int (nI p9)), (4, .int (oI ((dnG μ p9 j).2))), (5, .int (nI (j + 1)))]) hx hb dX5_down_64 rfl hl (by decide) rfl (fun ls hl => ?_)
                refine lv_bipush (v := 100) hx hb dX5_down_65 (by decide) ?_
                refine lv_iload hx hb dX5_down_67 (lv_at hl 4 rfl) ?_
                refine lv_iadd hx hb dX5_down_69 ?_
                refine m_topi (y := nI (100 + (j + 1))) (nI_add 100 (j + 1)) ?_
                refine lv_istore (lv' := [(4, .int (nI (100 + (j + 1)))), (2, .long (kW μ 8 (j + 1))), (0, .ref (B 100)), (1, .int (nI p9)), (5, .int (nI (j + 1)))]) hx hb dX5_down_70 hl (by decide) rfl (fun ls hl => ?_)
                refine lv_iinc (v := nI ((j + 1) + 1)) (lv' := [(5, .int (nI ((j + 1) + 1))), (4, .int (nI (100 + (j + 1)))), (2, .long (kW μ 8 (j + 1))), (0, .ref (B 100)), (1, .int (nI p9))]) hx hb dX5_down_72 hl (k := 4) rfl (show nI (j + 1) + Int32.ofInt 1 = _ from nI_add (j + 1) 1) (by decide) rfl (fun ls hl => ?_)
                refine lv_goto (tgt := 10) hx hb dX5_down_75 (by decide) ?_
                have q22 : (kW μ 8 (j + 1)) = ((dnG μ p9 (j + 1)).1) := (by rw [dnG, if_pos ⟨c27, c36, Or.inr (Int64.not_le.mp c54)⟩])
                have q23 : nI (100 + (j + 1)) = oI ((dnG μ p9 (j + 1)).2) := (by rw [dnG, if_pos ⟨c27, c36, Or.inr (Int64.not_le.mp c54)⟩]; rfl)
                replace hl : lv_has ls 6 [(5, .int (nI ((j + 1) + 1))), (4, .int (oI ((dnG μ p9 (j + 1)).2))), (2, .long ((dnG μ p9 (j + 1)).1)), (0, .ref (B 100)), (1, .int (nI p9))] := (congrArg (lv_has ls 6) (m_lc rfl (m_lc (congrArg Value.int q23) (m_lc (congrArg Value.long q22) (m_lc rfl (m_lc rfl rfl)))))).mp hl
                exact ih10 (j + 1) (by omega) (by omega) _ _ hV hS ls (lv_sub hl [3, 4, 2, 1, 0] rfl)
  have q24 : (-1) = ((dnG μ p9 0).1) := rfl
  have q25 : (-1) = oI ((dnG μ p9 0).2) := rfl
  have q26 : 1 = nI (0 + 1) := rfl
  replace hl : lv_has ls 6 [(5, .int (nI (0 + 1))), (4, .int (oI ((dnG μ p9 0).2))), (2, .long ((dnG μ p9 0).1)), (0, .ref (B 100)), (1, .int (nI p9))] := (congrArg (lv_has ls 6) (m_lc (congrArg Value.int q26) (m_lc (congrArg Value.int q25) (m_lc (congrArg Value.long q24) (m_lc rfl (m_lc rfl rfl)))))).mp hl
  exact lp10 ((kN μ 9 0 - 0) + 1) 0 (by omega) (Nat.lt_succ_self _) _ _ hV hS ls (lv_sub hl [3, 4, 2, 1, 0] rfl)
set_option maxHeartbeats 4000000 in
set_option maxRecDepth 100000 in
theorem c_X5_down_6 {l : Launch} {D : va_G} {cs : mC} {df : Nat} {P : Nat → Prop} {h0 : mH} {B : Nat → Nat} {μ : KS} {hh : mH} (sz : Nat) (hM : DRep cs P h0 B μ hh) (p9 : Nat) (hp9 : p9 < kN μ 9 0) (hd : kN μ 9 0 ≤ p9 + 6) : Met l yX5_down wsX5_down ({ frames := 7, cells := 0, slots := 0, locals := 171 }) (mPre [.ref (B 100), .int (nI p9)] D cs df hh sz) (va_Qi ((fun (r : Int32) (h1 : mH) => h1 = hh ∧ r = oI (dnM μ 6 p9))) (mB D hh sz) (mA hh sz)) 0 0 (mA hh sz) := by
  refine Met.ofW (cc := cX5_down) (maxL := 6) (ret := (some .int)) (by decide) rfl ?_
  intro p e s m args below meth c s₁ B0 hml hv
  obtain ⟨hargs, hsz, hV, hE⟩ := hv
  subst hsz
  have hx := B0.exec
  have hb := B0.bytes
  have hr := B0.returns
  have hlocks := B0.notSynchronized
  have hts := atoms_spec (ws := wsX5_down) B0.pre
  have hown : s.vm.findClass RX5 = some m.cls := findClass_of_methodNamed B0.named
  have hK := hE.1.1
  have hA : ∀ q : Nat, s.heap.size ≤ q → mA hh s.heap.size q := mA.top
  have hS : va_S (mA hh s.heap.size) s.heap s.heap [] := va_S.rf
  have kk115 : (Cond.constantLong RX5 115 (-1)).before args s = true := hts _ (by decide +kernel)
  have hi_X5 : ∀ w ∈ u_ws RX5 TX5 34, w ∈ wsX5_down := by decide +kernel
  have k33 : (Cond.fieldLink RX5 33 "TaskKernelModel" "groups" "I").before args s = true := hts _ (by decide +kernel)
  have k117 : (Cond.fieldLink RX5 117 "TaskKernelModel" "tasks" "I").before args s = true := hts _ (by decide +kernel)
  have k88 : (Cond.fieldLink RX5 88 "TaskKernelModel" "isIn" "[Z").before args s = true := hts _ (by decide +kernel)
  have k36 : (Cond.fieldLink RX5 36 "TaskKernelModel" "groupOf" "[I").before args s = true := hts _ (by decide +kernel)
  have k42 : (Cond.fieldLink RX5 42 "TaskKernelModel" "times" "[J").before args s = true := hts _ (by decide +kernel)
  have k23 : (Cond.fieldLink RX5 23 "TaskKernelModel" "parents" "[I").before args s = true := hts _ (by decide +kernel)
  have k29 : (Cond.fieldLink RX5 29 "TaskKernelModel" "groupTimes" "[J").before args s = true := hts _ (by decide +kernel)
  have hl := lv_entry ([.ref (B 100), .int (nI p9)]) (n := 6) (by first | exact Nat.le_of_ble_eq_true rfl | simp [lg_sl, rf_cat, ct_ref, ct_int, ct_null, ct_long])
  have hent := lg_entry_eq m ([.ref (B 100), .int (nI p9)]) 6
  rw [← hargs] at hent
  rw [hent]
  generalize (lg_sl ([.ref (B 100), .int (nI p9)]) ++ List.replicate (6 - (lg_sl ([.ref (B 100), .int (nI p9)])).length) Slot.unset).toArray = ls at hl ⊢
  replace hl : lv_has ls 6 [(0, .ref (B 100)), (1, .int (nI p9))] := hl
  have hwf := hM.wf
  obtain ⟨⟨y0, y1, y2, y3⟩, y4, y5, y6, y7⟩ := hwf
  refine lv_ldc2 (v := (-1)) hx hb hown kk115 dX5_down_0 ?_
  refine lv_lstore_n (lv' := [(2, .long (-1)), (0, .ref (B 100)), (1, .int (nI p9))]) hx hb dX5_down_3 rfl hl (by decide) rfl (fun ls hl => ?_)
  refine lv_iconst (v := (-1)) hx hb dX5_down_4 (by decide) ?_
  refine lv_istore (lv' := [(4, .int (-1)), (2, .long (-1)), (0, .ref (B 100)), (1, .int (nI p9))]) hx hb dX5_down_5 hl (by decide) rfl (fun ls hl => ?_)
  refine lv_iconst (v := 1) hx hb dX5_down_7 (by decide) ?_
  refine lv_istore (lv' := [(5, .int 1), (4, .int (-1)), (2, .long (-1)), (0, .ref (B 100)), (1, .int (nI p9))]) hx hb dX5_down_8 hl (by decide) rfl (fun ls hl => ?_)
  have lp10 : ∀ (fu : Nat) (j : Nat), (j + 1 ≤ kN μ 9 0) → kN μ 9 0 - j < fu → ∀ (H : Heap) (locs : List Loc), mV D hh (mA hh s.heap.size) H → va_S (mA hh s.heap.size) s.heap H locs → ∀ (ls : Array Slot), lv_has ls 6 [(0, .ref (B 100)), (1, .int (nI p9)), (2, .long ((dnG μ p9 j).1)), (4, .int (oI ((dnG μ p9 j).2))), (5, .int (nI (j + 1)))] → W p l e ({ frames := 7, cells := 0, slots := 0, locals := 171 } : Room) s m args below meth c H locs 0 0 (MQ below (va_Qi ((fun (r : Int32) (h1 : mH) => h1 = hh ∧ r = oI (dnM μ 6 p9))) (mB D hh s.heap.size) (mA hh s.heap.size)) args s 0 0 (mA hh s.heap.size)) (F0 m 10 ls []) := by
    intro fu
    induction fu with
    | zero =>
      intro j hj hfu
      exact absurd hfu (Nat.not_lt_zero _)
    | succ fu ih10 =>
      intro j hj hfu H locs hV hS ls hl
      refine lv_iload hx hb dX5_down_10 (lv_at hl 4 rfl) ?_
      refine lv_aload_n hx hb dX5_down_12 rfl (lv_at hl 0 rfl) ?_
      refine m_get (C := RX5) (T := TX5) (N := 34) hx hb hts hi_X5 hown hK hV 9 (v := .int (nI (kN μ 9 0))) (by have z9 := g_m9 hM; exact z9) rfl (by decide) k33 (fun _ h9 => h9) dX5_down_13 ?_
      refine lv_icmp_ge (tgt := 78) hx hb dX5_down_16 (by decide) (fun c16 => ?_) (fun c16 => ?_)
      · replace c16 : kN μ 9 0 ≤ (j + 1) := (nI_leI (a := kN μ 9 0) (b := (j + 1)) (by omega) (by omega)).mp c16
        refine lv_iconst (v := 0) hx hb dX5_down_78 (by decide) ?_
        refine lv_istore (lv' := [(5, .int 0), (0, .ref (B 100)), (1, .int (nI p9)), (2, .long ((dnG μ p9 j).1)), (4, .int (oI ((dnG μ p9 j).2)))]) hx hb dX5_down_79 hl (by decide) rfl (fun ls hl => ?_)
        have lp81 : ∀ (fu : Nat) (i : Nat), (i ≤ kN μ 24 0) → kN μ 24 0 - i < fu → ∀ (H : Heap) (locs : List Loc), mV D hh (mA hh s.heap.size) H → va_S (mA hh s.heap.size) s.heap H locs → ∀ (ls : Array Slot), lv_has ls 6 [(0, .ref (B 100)), (1, .int (nI p9)), (2, .long ((dnT μ p9 i).1)), (4, .int (oI ((dnT μ p9 i).2))), (5, .int (nI i))] → W p l e ({ frames := 7, cells := 0, slots := 0, locals := 171 } : Room) s m args below meth c H locs 0 0 (MQ below (va_Qi ((fun (r : Int32) (h1 : mH) => h1 = hh ∧ r = oI (dnM μ 6 p9))) (mB D hh s.heap.size) (mA hh s.heap.size)) args s 0 0 (mA hh s.heap.size)) (F0 m 81 ls []) := by
          intro fu
          induction fu with
          | zero =>
            intro i hi hfu
            exact absurd hfu (Nat.not_lt_zero _)
          | succ fu ih81 =>
            intro i hi hfu H locs hV hS ls hl
            refine lv_iload hx hb dX5_down_81 (lv_at hl 4 rfl) ?_
            refine lv_aload_n hx hb dX5_down_83 rfl (lv_at hl 0 rfl) ?_
            refine m_get (C := RX5) (T := TX5) (N := 34) hx hb hts hi_X5 hown hK hV 24 (v := .int (nI (kN μ 24 0))) (by have z9 := g_m24 hM; exact z9) rfl (by decide) k117 (fun _ h9 => h9) dX5_down_84 ?_
            refine lv_icmp_ge (tgt := 147) hx hb dX5_down_87 (by decide) (fun c87 => ?_) (fun c87 => ?_)
            · replace c87 : kN μ 24 0 ≤ i := (nI_leI (a := kN μ 24 0) (b := i) (by omega) (by omega)).mp c87
              rw [show i = kN μ 24 0 by omega] at hl
              replace hl : lv_has ls 6 [(0, .ref (B 100)), (1, .int (nI p9)), (4, .int (oI (dnE μ p9)))] := lv_sub hl [0, 1, 3] rfl
              rcases e9 : dnE μ p9 with _ | mb
              · replace hl : lv_has ls 6 [(0, .ref (B 100)), (1, .int (nI p9)), (4, .int (-1))] := by have h9 := hl; rw [e9] at h9; exact h9
                refine lv_iload hx hb dX5_down_147 (lv_at hl 2 rfl) ?_
                refine lv_bipush (v := 100) hx hb dX5_down_149 (by decide) ?_
                refine lv_icmp_lt (tgt := 166) hx hb dX5_down_151 (by decide) (fun c151 => ?_) (fun c151 => (absurd (by decide) c151))
                refine lv_iload hx hb dX5_down_166 (lv_at hl 2 rfl) ?_
                exact m_iret (v := (-1)) hx hb hr hlocks hV hS (⟨rfl, by (conv => rhs; rw [dnM, e9]); try rfl⟩) dX5_down_168
              · replace hl : lv_has ls 6 [(0, .ref (B 100)), (1, .int (nI p9)), (4, .int (nI mb))] := by have h9 := hl; rw [e9] at h9; exact h9
                have bm := dnT_lt y1 e9
                refine lv_iload hx hb dX5_down_147 (lv_at hl 2 rfl) ?_
                refine lv_bipush (v := 100) hx hb dX5_down_149 (by decide) ?_
                refine lv_icmp_lt (tgt := 166) hx hb dX5_down_151 (by decide) (fun c151 => ?_) (fun c151 => ?_)
                · replace c151 : mb < 100 := (nI_ltI (a := mb) (b := 100) (by omega) (by omega)).mp c151
                  refine lv_iload hx hb dX5_down_166 (lv_at hl 2 rfl) ?_
                  exact m_iret (v := nI mb) hx hb hr hlocks hV hS (⟨rfl, by (conv => rhs; rw [dnM, e9]; dsimp only; rw [if_neg (by omega)]); try rfl⟩) dX5_down_168
                · replace c151 : ¬ mb < 100 := fun q9 => c151 ((nI_ltI (a := mb) (b := 100) (by omega) (by omega)).mpr q9)
                  refine lv_aload_n hx hb dX5_down_154 rfl (lv_at hl 0 rfl) ?_
                  refine lv_iload hx hb dX5_down_155 (lv_at hl 2 rfl) ?_
                  refine lv_bipush (v := 100) hx hb dX5_down_157 (by decide) ?_
                  refine lv_isub hx hb dX5_down_159 ?_
                  refine m_topi (y := nI (mb - 100)) (pk_sub (a := mb) (b := 100) (by omega)) ?_
                  refine m_calli (va_runV (As := [.int (nI (mb - 100))]) (rest := []) ⟨hx, hb, hml, hown, hts⟩ (c_X5_down_5 (l := l) (H.size) hM (mb - 100) (by omega) (by have z9 := y4 (mb - 100) (by omega) (by omega); omega)) (cwV 1 hts gX5_down_X5_down rfl rfl rfl (by decide +kernel) ⟨by decide, by decide⟩) (m_preV (r := (RX5, TX5, 34)) hE hV hS hA (hM.at 100 (by decide)) rfl) rfl rfl hl.1 rfl (lv_room (by first | exact Nat.le_of_ble_eq_true rfl | simp [rf_cat, ct_ref, ct_int, ct_null, ct_long])) dX5_down_160 ⟨by decide, by decide⟩) hV hS hA (fun r h1 H locs hV hS hp _ => ?_)
                  obtain ⟨e1, e2⟩ := hp
                  subst e2
                  rw [e1] at hV; clear e1
                  refine lv_goto (tgt := 168) hx hb dX5_down_163 (by decide) ?_
                  exact m_iret (v := oI (dnM μ 5 (mb - 100))) hx hb hr hlocks hV hS (⟨rfl, by (conv => rhs; rw [dnM, e9]; dsimp only; rw [if_pos (by omega)]); try rfl⟩) dX5_down_168
            · replace c87 : ¬ kN μ 24 0 ≤ i := fun q9 => c87 ((nI_leI (a := kN μ 24 0) (b := i) (by omega) (by omega)).mpr q9)
              refine lv_aload_n hx hb dX5_down_90 rfl (lv_at hl 0 rfl) ?_
              refine m_get (C := RX5) (T := TX5) (N := 34) hx hb hts hi_X5 hown hK hV 32 (v := .ref (B 32)) (g_m32 hM) rfl (by decide) k88 (fun _ h9 => h9) dX5_down_91 ?_
              refine lv_iload hx hb dX5_down_94 (lv_at hl 4 rfl) ?_
              refine m_zald hx hb hK hV 2 (i := nI i) (x := bI (kB μ 32 i)) (a_m32 hM) rfl (vp_in_nI (by omega) (by omega)) (by rw [nI_clamp (by omega)] <;> first | rfl | (show oI (va_up _ _ _ _) = _; rw [vu_s] <;> rfl) | (show va_up _ _ _ _ = _; rw [vu_s] <;> rfl)) dX5_down_96 ?_
              refine lv_if_eq (tgt := 141) hx hb dX5_down_97 (by decide) (fun c97 => ?_) (fun c97 => ?_)
              · replace c97 : kB μ 32 i = false := bI_0.mp c97
                refine lv_iinc (v := nI (i + 1)) (lv' := [(5, .int (nI (i + 1))), (0, .ref (B 100)), (1, .int (nI p9)), (2, .long ((dnT μ p9 i).1)), (4, .int (oI ((dnT μ p9 i).2)))]) hx hb dX5_down_141 hl (k := 4) rfl (show nI i + Int32.ofInt 1 = _ from nI_add i 1) (by decide) rfl (fun ls hl => ?_)
                refine lv_goto (tgt := 81) hx hb dX5_down_144 (by decide) ?_
                have q1 : ((dnT μ p9 i).1) = ((dnT μ p9 (i + 1)).1) := (by rw [dnT, if_neg (fun q => absurd q.1 (by rw [c97]; decide))])
                have q2 : oI ((dnT μ p9 i).2) = oI ((dnT μ p9 (i + 1)).2) := (by rw [dnT, if_neg (fun q => absurd q.1 (by rw [c97]; decide))])
                replace hl : lv_has ls 6 [(5, .int (nI (i + 1))), (0, .ref (B 100)), (1, .int (nI p9)), (2, .long ((dnT μ p9 (i + 1)).1)), (4, .int (oI ((dnT μ p9 (i + 1)).2)))] := (congrArg (lv_has ls 6) (m_lc rfl (m_lc rfl (m_lc rfl (m_lc (congrArg Value.long q1) (m_lc (congrArg Value.int q2) rfl)))))).mp hl
                exact ih81 (i + 1) (by omega) (by omega) _ _ hV hS ls (lv_sub hl [1, 2, 3, 4, 0] rfl)
              · replace c97 : kB μ 32 i = true := bI_1.mp c97
                refine lv_aload_n hx hb dX5_down_100 rfl (lv_at hl 0 rfl) ?_
                refine m_get (C := RX5) (T := TX5) (N := 34) hx hb hts hi_X5 hown hK hV 10 (v := .ref (B 10)) (g_m10 hM) rfl (by decide) k36 (fun _ h9 => h9) dX5_down_101 ?_
                refine lv_iload hx hb dX5_down_104 (lv_at hl 4 rfl) ?_
                refine m_iald hx hb hK hV 0 (i := nI i) (x := nI (kN μ 10 i)) (a_m10 hM) rfl (vp_in_nI (by omega) (by omega)) (by rw [nI_clamp (by omega)] <;> first | rfl | (show oI (va_up _ _ _ _) = _; rw [vu_s] <;> rfl) | (show va_up _ _ _ _ = _; rw [vu_s] <;> rfl)) dX5_down_106 ?_
                refine lv_iload_n hx hb dX5_down_107 rfl (lv_at hl 1 rfl) ?_
                have b108 := y5 i (by omega)
                refine lv_icmp_ne (tgt := 141) hx hb dX5_down_108 (by decide) (fun c108 => ?_) (fun c108 => ?_)
                · replace c108 : ¬ kN μ 10 i = p9 := fun q9 => c108 ((nI_eq (a := kN μ 10 i) (b := p9) (by omega) (by omega)).mpr q9)
                  refine lv_iinc (v := nI (i + 1)) (lv' := [(5, .int (nI (i + 1))), (0, .ref (B 100)), (1, .int (nI p9)), (2, .long ((dnT μ p9 i).1)), (4, .int (oI ((dnT μ p9 i).2)))]) hx hb dX5_down_141 hl (k := 4) rfl (show nI i + Int32.ofInt 1 = _ from nI_add i 1) (by decide) rfl (fun ls hl => ?_)
                  refine lv_goto (tgt := 81) hx hb dX5_down_144 (by decide) ?_
                  have q3 : ((dnT μ p9 i).1) = ((dnT μ p9 (i + 1)).1) := (by rw [dnT, if_neg (fun q => c108 q.2.1)])
                  have q4 : oI ((dnT μ p9 i).2) = oI ((dnT μ p9 (i + 1)).2) := (by rw [dnT, if_neg (fun q => c108 q.2.1)])
                  replace hl : lv_has ls 6 [(5, .int (nI (i + 1))), (0, .ref (B 100)), (1, .int (nI p9)), (2, .long ((dnT μ p9 (i + 1)).1)), (4, .int (oI ((dnT μ p9 (i + 1)).2)))] := (congrArg (lv_has ls 6) (m_lc rfl (m_lc rfl (m_lc rfl (m_lc (congrArg Value.long q3) (m_lc (congrArg Value.int q4) rfl)))))).mp hl
                  exact ih81 (i + 1) (by omega) (by omega) _ _ hV hS ls (lv_sub hl [1, 2, 3, 4, 0] rfl)
                · replace c108 : kN μ 10 i = p9 := (nI_eq (a := kN μ 10 i) (b := p9) (by omega) (by omega)).mp c108
                  refine lv_lload_n hx hb dX5_down_111 rfl (lv_at hl 2 rfl) ?_
                  refine lv_lconst (v := 0) hx hb dX5_down_112 (by decide) ?_
                  refine m_lcmp_lt (tgt := 129) hx hb dX5_down_113 dX5_down_114 (by decide) (fun c114 => ?_) (fun c114 => ?_)
                  · refine lv_aload_n hx hb dX5_down_129 rfl (lv_at hl 0 rfl) ?_
                    refine m_get (C := RX5) (T := TX5) (N := 34) hx hb hts hi_X5 hown hK hV 12 (v := .ref (B 12)) (g_m12 hM) rfl (by decide) k42 (fun _ h9 => h9) dX5_down_130 ?_
                    refine lv_iload hx hb dX5_down_133 (lv_at hl 4 rfl) ?_
                    refine m_lald hx hb hK hV 1 (i := nI i) (x := (kW μ 12 i)) (a_m12 hM) rfl (vp_in_nI (by omega) (by omega)) (by rw [nI_clamp (by omega)] <;> first | rfl | (show oI (va_up _ _ _ _) = _; rw [vu_s] <;> rfl) | (show va_up _ _ _ _ = _; rw [vu_s] <;> rfl)) dX5_down_135 ?_
                    refine lv_lstore_n (lv' := [(2, .long (kW μ 12 i)), (0, .ref (B 100)), (1, .int (nI p9)), (4, .int (oI ((dnT μ p9 i).2))), (5, .int (nI i))]) hx hb dX5_down_136 rfl hl (by decide) rfl (fun ls hl => ?_)
                    refine lv_iload hx hb dX5_down_137 (lv_at hl 4 rfl) ?_
                    refine lv_istore (lv' := [(4, .int (nI i)), (2, .long (kW μ 12 i)), (0, .ref (B 100)), (1, .int (nI p9)), (5, .int (nI i))]) hx hb dX5_down_139 hl (by decide) rfl (fun ls hl => ?_)
                    refine lv_iinc (v := nI (i + 1)) (lv' := [(5, .int (nI (i + 1))), (4, .int (nI i)), (2, .long (kW μ 12 i)), (0, .ref (B 100)), (1, .int (nI p9))]) hx hb dX5_down_141 hl (k := 4) rfl (show nI i + Int32.ofInt 1 = _ from nI_add i 1) (by decide) rfl (fun ls hl => ?_)
                    refine lv_goto (tgt := 81) hx hb dX5_down_144 (by decide) ?_
                    have q5 : (kW μ 12 i) = ((dnT μ p9 (i + 1)).1) := (by rw [dnT, if_pos ⟨c97, c108, Or.inl c114⟩])
                    have q6 : nI i = oI ((dnT μ p9 (i + 1)).2) := (by rw [dnT, if_pos ⟨c97, c108, Or.inl c114⟩]; rfl)
                    replace hl : lv_has ls 6 [(5, .int (nI (i + 1))), (4, .int (oI ((dnT μ p9 (i + 1)).2))), (2, .long ((dnT μ p9 (i + 1)).1)), (0, .ref (B 100)), (1, .int (nI p9))] := (congrArg (lv_has ls 6) (m_lc rfl (m_lc (congrArg Value.int q6) (m_lc (congrArg Value.long q5) (m_lc rfl (m_lc rfl rfl)))))).mp hl
                    exact ih81 (i + 1) (by omega) (by omega) _ _ hV hS ls (lv_sub hl [3, 4, 2, 1, 0] rfl)
                  · refine lv_aload_n hx hb dX5_down_117 rfl (lv_at hl 0 rfl) ?_
                    refine m_get (C := RX5) (T := TX5) (N := 34) hx hb hts hi_X5 hown hK hV 12 (v := .ref (B 12)) (g_m12 hM) rfl (by decide) k42 (fun _ h9 => h9) dX5_down_118 ?_
                    refine lv_iload hx hb dX5_down_121 (lv_at hl 4 rfl) ?_
                    refine m_lald hx hb hK hV 1 (i := nI i) (x := (kW μ 12 i)) (a_m12 hM) rfl (vp_in_nI (by omega) (by omega)) (by rw [nI_clamp (by omega)] <;> first | rfl | (show oI (va_up _ _ _ _) = _; rw [vu_s] <;> rfl) | (show va_up _ _ _ _ = _; rw [vu_s] <;> rfl)) dX5_down_123 ?_
                    refine lv_lload_n hx hb dX5_down_124 rfl (lv_at hl 2 rfl) ?_
                    refine m_lcmp_ge (tgt := 141) hx hb dX5_down_125 dX5_down_126 (by decide) (fun c126 => ?_) (fun c126 => ?_)
                    · refine lv_iinc (v := nI (i + 1)) (lv' := [(5, .int (nI (i + 1))), (0, .ref (B 100)), (1, .int (nI p9)), (2, .long ((dnT μ p9 i).1)), (4, .int (oI ((dnT μ p9 i).2)))]) hx hb dX5_down_141 hl (k := 4) rfl (show nI i + Int32.ofInt 1 = _ from nI_add i 1) (by decide) rfl (fun ls hl => ?_)
                      refine lv_goto (tgt := 81) hx hb dX5_down_144 (by decide) ?_
                      have q7 : ((dnT μ p9 i).1) = ((dnT μ p9 (i + 1)).1) := (by rw [dnT, if_neg (fun q => q.2.2.elim c114 (Int64.not_lt.mpr c126))])
                      have q8 : oI ((dnT μ p9 i).2) = oI ((dnT μ p9 (i + 1)).2) := (by rw [dnT, if_neg (fun q => q.2.2.elim c114 (Int64.not_lt.mpr c126))])
                      replace hl : lv_has ls 6 [(5, .int (nI (i + 1))), (0, .ref (B 100)), (1, .int (nI p9)), (2, .long ((dnT μ p9 (i + 1)).1)), (4, .int (oI ((dnT μ p9 (i + 1)).2)))] := (congrArg (lv_has ls 6) (m_lc rfl (m_lc rfl (m_lc rfl (m_lc (congrArg Value.long q7) (m_lc (congrArg Value.int q8) rfl)))))).mp hl
                      exact ih81 (i + 1) (by omega) (by omega) _ _ hV hS ls (lv_sub hl [1, 2, 3, 4, 0] rfl)
                    · refine lv_aload_n hx hb dX5_down_129 rfl (lv_at hl 0 rfl) ?_
                      refine m_get (C := RX5) (T := TX5) (N := 34) hx hb hts hi_X5 hown hK hV 12 (v := .ref (B 12)) (g_m12 hM) rfl (by decide) k42 (fun _ h9 => h9) dX5_down_130 ?_
                      refine lv_iload hx hb dX5_down_133 (lv_at hl 4 rfl) ?_
                      refine m_lald hx hb hK hV 1 (i := nI i) (x := (kW μ 12 i)) (a_m12 hM) rfl (vp_in_nI (by omega) (by omega)) (by rw [nI_clamp (by omega)] <;> first | rfl | (show oI (va_up _ _ _ _) = _; rw [vu_s] <;> rfl) | (show va_up _ _ _ _ = _; rw [vu_s] <;> rfl)) dX5_down_135 ?_
                      refine lv_lstore_n (lv' := [(2, .long (kW μ 12 i)), (0, .ref (B 100)), (1, .int (nI p9)), (4, .int (oI ((dnT μ p9 i).2))), (5, .int (nI i))]) hx hb dX5_down_136 rfl hl (by decide) rfl (fun ls hl => ?_)
                      refine lv_iload hx hb dX5_down_137 (lv_at hl 4 rfl) ?_
                      refine lv_istore (lv' := [(4, .int (nI i)), (2, .long (kW μ 12 i)), (0, .ref (B 100)), (1, .int (nI p9)), (5, .int (nI i))]) hx hb dX5_down_139 hl (by decide) rfl (fun ls hl => ?_)
                      refine lv_iinc (v := nI (i + 1)) (lv' := [(5, .int (nI (i + 1))), (4, .int (nI i)), (2, .long (kW μ 12 i)), (0, .ref (B 100)), (1, .int (nI p9))]) hx hb dX5_down_141 hl (k := 4) rfl (show nI i + Int32.ofInt 1 = _ from nI_add i 1) (by decide) rfl (fun ls hl => ?_)
                      refine lv_goto (tgt := 81) hx hb dX5_down_144 (by decide) ?_
                      have q9 : (kW μ 12 i) = ((dnT μ p9 (i + 1)).1) := (by rw [dnT, if_pos ⟨c97, c108, Or.inr (Int64.not_le.mp c126)⟩])
                      have q10 : nI i = oI ((dnT μ p9 (i + 1)).2) := (by rw [dnT, if_pos ⟨c97, c108, Or.inr (Int64.not_le.mp c126)⟩]; rfl)
                      replace hl : lv_has ls 6 [(5, .int (nI (i + 1))), (4, .int (oI ((dnT μ p9 (i + 1)).2))), (2, .long ((dnT μ p9 (i + 1)).1)), (0, .ref (B 100)), (1, .int (nI p9))] := (congrArg (lv_has ls 6) (m_lc rfl (m_lc (congrArg Value.int q10) (m_lc (congrArg Value.long q9) (m_lc rfl (m_lc rfl rfl)))))).mp hl
                      exact ih81 (i + 1) (by omega) (by omega) _ _ hV hS ls (lv_sub hl [3, 4, 2, 1, 0] rfl)
        have q11 : ((dnG μ p9 j).1) = ((dnT μ p9 0).1) := (by rw [show j = kN μ 9 0 - 1 by omega]; rfl)
        have q12 : oI ((dnG μ p9 j).2) = oI ((dnT μ p9 0).2) := (by rw [show j = kN μ 9 0 - 1 by omega]; rfl)
        have q13 : 0 = nI 0 := rfl
        replace hl : lv_has ls 6 [(5, .int (nI 0)), (0, .ref (B 100)), (1, .int (nI p9)), (2, .long ((dnT μ p9 0).1)), (4, .int (oI ((dnT μ p9 0).2)))] := (congrArg (lv_has ls 6) (m_lc (congrArg Value.int q13) (m_lc rfl (m_lc rfl (m_lc (congrArg Value.long q11) (m_lc (congrArg Value.int q12) rfl)))))).mp hl
        exact lp81 ((kN μ 24 0 - 0) + 1) 0 (Nat.zero_le _) (Nat.lt_succ_self _) _ _ hV hS ls (lv_sub hl [1, 2, 3, 4, 0] rfl)
      · replace c16 : ¬ kN μ 9 0 ≤ (j + 1) := fun q9 => c16 ((nI_leI (a := kN μ 9 0) (b := (j + 1)) (by omega) (by omega)).mpr q9)
        refine lv_aload_n hx hb dX5_down_19 rfl (lv_at hl 0 rfl) ?_
        refine m_get (C := RX5) (T := TX5) (N := 34) hx hb hts hi_X5 hown hK hV 6 (v := .ref (B 6)) (g_m6 hM) rfl (by decide) k23 (fun _ h9 => h9) dX5_down_20 ?_
        refine lv_iload hx hb dX5_down_23 (lv_at hl 4 rfl) ?_
        refine m_iald hx hb hK hV 0 (i := nI (j + 1)) (x := nI (kN μ 6 (j + 1))) (a_m6 hM) rfl (vp_in_nI (by omega) (by omega)) (by rw [nI_clamp (by omega)] <;> first | rfl | (show oI (va_up _ _ _ _) = _; rw [vu_s] <;> rfl) | (show va_up _ _ _ _ = _; rw [vu_s] <;> rfl)) dX5_down_25 ?_
        refine lv_iload_n hx hb dX5_down_26 rfl (lv_at hl 1 rfl) ?_
        have b27 := y4 (j + 1) (by omega) (by omega)
        refine lv_icmp_ne (tgt := 72) hx hb dX5_down_27 (by decide) (fun c27 => ?_) (fun c27 => ?_)
        · replace c27 : ¬ kN μ 6 (j + 1) = p9 := fun q9 => c27 ((nI_eq (a := kN μ 6 (j + 1)) (b := p9) (by omega) (by omega)).mpr q9)
          refine lv_iinc (v := nI ((j + 1) + 1)) (lv' := [(5, .int (nI ((j + 1) + 1))), (0, .ref (B 100)), (1, .int (nI p9)), (2, .long ((dnG μ p9 j).1)), (4, .int (oI ((dnG μ p9 j).2)))]) hx hb dX5_down_72 hl (k := 4) rfl (show nI (j + 1) + Int32.ofInt 1 = _ from nI_add (j + 1) 1) (by decide) rfl (fun ls hl => ?_)
          refine lv_goto (tgt := 10) hx hb dX5_down_75 (by decide) ?_
          have q14 : ((dnG μ p9 j).1) = ((dnG μ p9 (j + 1)).1) := (by rw [dnG, if_neg (fun q => c27 q.1)])
          have q15 : oI ((dnG μ p9 j).2) = oI ((dnG μ p9 (j + 1)).2) := (by rw [dnG, if_neg (fun q => c27 q.1)])
          replace hl : lv_has ls 6 [(5, .int (nI ((j + 1) + 1))), (0, .ref (B 100)), (1, .int (nI p9)), (2, .long ((dnG μ p9 (j + 1)).1)), (4, .int (oI ((dnG μ p9 (j + 1)).2)))] := (congrArg (lv_has ls 6) (m_lc rfl (m_lc rfl (m_lc rfl (m_lc (congrArg Value.long q14) (m_lc (congrArg Value.int q15) rfl)))))).mp hl
          exact ih10 (j + 1) (by omega) (by omega) _ _ hV hS ls (lv_sub hl [1, 2, 3, 4, 0] rfl)
        · replace c27 : kN μ 6 (j + 1) = p9 := (nI_eq (a := kN μ 6 (j + 1)) (b := p9) (by omega) (by omega)).mp c27
          refine lv_aload_n hx hb dX5_down_30 rfl (lv_at hl 0 rfl) ?_
          refine lv_iload hx hb dX5_down_31 (lv_at hl 4 rfl) ?_
          refine m_calli (va_runV (As := [.int (nI (j + 1))]) (rest := []) ⟨hx, hb, hml, hown, hts⟩ (c_X5_hasUnder (l := l) (H.size) hM (j + 1) (by omega)) (cwV 1 hts gX5_down_X5_hasUnder rfl rfl rfl (by decide +kernel) ⟨by decide, by decide⟩) (m_preV (r := (RX5, TX5, 34)) hE hV hS hA (hM.at 100 (by decide)) rfl) rfl rfl hl.1 rfl (lv_room (by first | exact Nat.le_of_ble_eq_true rfl | simp [rf_cat, ct_ref, ct_int, ct_null, ct_long])) dX5_down_33 ⟨by decide, by decide⟩) hV hS hA (fun r h1 H locs hV hS hp _ => ?_)
          obtain ⟨e1, e2⟩ := hp
          subst e2
          rw [e1] at hV; clear e1
          refine lv_if_eq (tgt := 72) hx hb dX5_down_36 (by decide) (fun c36 => ?_) (fun c36 => ?_)
          · replace c36 : (huM μ (j + 1) (kN μ 24 0)) = false := bI_0.mp c36
            refine lv_iinc (v := nI ((j + 1) + 1)) (lv' := [(5, .int (nI ((j + 1) + 1))), (0, .ref (B 100)), (1, .int (nI p9)), (2, .long ((dnG μ p9 j).1)), (4, .int (oI ((dnG μ p9 j).2)))]) hx hb dX5_down_72 hl (k := 4) rfl (show nI (j + 1) + Int32.ofInt 1 = _ from nI_add (j + 1) 1) (by decide) rfl (fun ls hl => ?_)
            refine lv_goto (tgt := 10) hx hb dX5_down_75 (by decide) ?_
            have q16 : ((dnG μ p9 j).1) = ((dnG μ p9 (j + 1)).1) := (by rw [dnG, if_neg (fun q => absurd q.2.1 (by rw [c36]; decide))])
            have q17 : oI ((dnG μ p9 j).2) = oI ((dnG μ p9 (j + 1)).2) := (by rw [dnG, if_neg (fun q => absurd q.2.1 (by rw [c36]; decide))])
            replace hl : lv_has ls 6 [(5, .int (nI ((j + 1) + 1))), (0, .ref (B 100)), (1, .int (nI p9)), (2, .long ((dnG μ p9 (j + 1)).1)), (4, .int (oI ((dnG μ p9 (j + 1)).2)))] := (congrArg (lv_has ls 6) (m_lc rfl (m_lc rfl (m_lc rfl (m_lc (congrArg Value.long q16) (m_lc (congrArg Value.int q17) rfl)))))).mp hl
            exact ih10 (j + 1) (by omega) (by omega) _ _ hV hS ls (lv_sub hl [1, 2, 3, 4, 0] rfl)
          · replace c36 : (huM μ (j + 1) (kN μ 24 0)) = true := bI_1.mp c36
            refine lv_lload_n hx hb dX5_down_39 rfl (lv_at hl 2 rfl) ?_
            refine lv_lconst (v := 0) hx hb dX5_down_40 (by decide) ?_
            refine m_lcmp_lt (tgt := 57) hx hb dX5_down_41 dX5_down_42 (by decide) (fun c42 => ?_) (fun c42 => ?_)
            · refine lv_aload_n hx hb dX5_down_57 rfl (lv_at hl 0 rfl) ?_
              refine m_get (C := RX5) (T := TX5) (N := 34) hx hb hts hi_X5 hown hK hV 8 (v := .ref (B 8)) (g_m8 hM) rfl (by decide) k29 (fun _ h9 => h9) dX5_down_58 ?_
              refine lv_iload hx hb dX5_down_61 (lv_at hl 4 rfl) ?_
              refine m_lald hx hb hK hV 1 (i := nI (j + 1)) (x := (kW μ 8 (j + 1))) (a_m8 hM) rfl (vp_in_nI (by omega) (by omega)) (by rw [nI_clamp (by omega)] <;> first | rfl | (show oI (va_up _ _ _ _) = _; rw [vu_s] <;> rfl) | (show va_up _ _ _ _ = _; rw [vu_s] <;> rfl)) dX5_down_63 ?_
              refine lv_lstore_n (lv' := [(2, .long (kW μ 8 (j + 1))), (0, .ref (B 100)), (1, .int (nI p9)), (4, .int (oI ((dnG μ p9 j).2))), (5, .int (nI (j + 1)))]) hx hb dX5_down_64 rfl hl (by decide) rfl (fun ls hl => ?_)
              refine lv_bipush (v := 100) hx hb dX5_down_65 (by decide) ?_
              refine lv_iload hx hb dX5_down_67 (lv_at hl 4 rfl) ?_
              refine lv_iadd hx hb dX5_down_69 ?_
              refine m_topi (y := nI (100 + (j + 1))) (nI_add 100 (j + 1)) ?_
              refine lv_istore (lv' := [(4, .int (nI (100 + (j + 1)))), (2, .long (kW μ 8 (j + 1))), (0, .ref (B 100)), (1, .int (nI p9)), (5, .int (nI (j + 1)))]) hx hb dX5_down_70 hl (by decide) rfl (fun ls hl => ?_)
              refine lv_iinc (v := nI ((j + 1) + 1)) (lv' := [(5, .int (nI ((j + 1) + 1))), (4, .int (nI (100 + (j + 1)))), (2, .long (kW μ 8 (j + 1))), (0, .ref (B 100)), (1, .int (nI p9))]) hx hb dX5_down_72 hl (k := 4) rfl (show nI (j + 1) + Int32.ofInt 1 = _ from nI_add (j + 1) 1) (by decide) rfl (fun ls hl => ?_)
              refine lv_goto (tgt := 10) hx hb dX5_down_75 (by decide) ?_
              have q18 : (kW μ 8 (j + 1)) = ((dnG μ p9 (j + 1)).1) := (by rw [dnG, if_pos ⟨c27, c36, Or.inl c42⟩])
              have q19 : nI (100 + (j + 1)) = oI ((dnG μ p9 (j + 1)).2) := (by rw [dnG, if_pos ⟨c27, c36, Or.inl c42⟩]; rfl)
              replace hl : lv_has ls 6 [(5, .int (nI ((j + 1) + 1))), (4, .int (oI ((dnG μ p9 (j + 1)).2))), (2, .long ((dnG μ p9 (j + 1)).1)), (0, .ref (B 100)), (1, .int (nI p9))] := (congrArg (lv_has ls 6) (m_lc rfl (m_lc (congrArg Value.int q19) (m_lc (congrArg Value.long q18) (m_lc rfl (m_lc rfl rfl)))))).mp hl
              exact ih10 (j + 1) (by omega) (by omega) _ _ hV hS ls (lv_sub hl [3, 4, 2, 1, 0] rfl)
            · refine lv_aload_n hx hb dX5_down_45 rfl (lv_at hl 0 rfl) ?_
              refine m_get (C := RX5) (T := TX5) (N := 34) hx hb hts hi_X5 hown hK hV 8 (v := .ref (B 8)) (g_m8 hM) rfl (by decide) k29 (fun _ h9 => h9) dX5_down_46 ?_
              refine lv_iload hx hb dX5_down_49 (lv_at hl 4 rfl) ?_
              refine m_lald hx hb hK hV 1 (i := nI (j + 1)) (x := (kW μ 8 (j + 1))) (a_m8 hM) rfl (vp_in_nI (by omega) (by omega)) (by rw [nI_clamp (by omega)] <;> first | rfl | (show oI (va_up _ _ _ _) = _; rw [vu_s] <;> rfl) | (show va_up _ _ _ _ = _; rw [vu_s] <;> rfl)) dX5_down_51 ?_
              refine lv_lload_n hx hb dX5_down_52 rfl (lv_at hl 2 rfl) ?_
              refine m_lcmp_ge (tgt := 72) hx hb dX5_down_53 dX5_down_54 (by decide) (fun c54 => ?_) (fun c54 => ?_)
              · refine lv_iinc (v := nI ((j + 1) + 1)) (lv' := [(5, .int (nI ((j + 1) + 1))), (0, .ref (B 100)), (1, .int (nI p9)), (2, .long ((dnG μ p9 j).1)), (4, .int (oI ((dnG μ p9 j).2)))]) hx hb dX5_down_72 hl (k := 4) rfl (show nI (j + 1) + Int32.ofInt 1 = _ from nI_add (j + 1) 1) (by decide) rfl (fun ls hl => ?_)
                refine lv_goto (tgt := 10) hx hb dX5_down_75 (by decide) ?_
                have q20 : ((dnG μ p9 j).1) = ((dnG μ p9 (j + 1)).1) := (by rw [dnG, if_neg (fun q => q.2.2.elim c42 (Int64.not_lt.mpr c54))])
                have q21 : oI ((dnG μ p9 j).2) = oI ((dnG μ p9 (j + 1)).2) := (by rw [dnG, if_neg (fun q => q.2.2.elim c42 (Int64.not_lt.mpr c54))])
                replace hl : lv_has ls 6 [(5, .int (nI ((j + 1) + 1))), (0, .ref (B 100)), (1, .int (nI p9)), (2, .long ((dnG μ p9 (j + 1)).1)), (4, .int (oI ((dnG μ p9 (j + 1)).2)))] := (congrArg (lv_has ls 6) (m_lc rfl (m_lc rfl (m_lc rfl (m_lc (congrArg Value.long q20) (m_lc (congrArg Value.int q21) rfl)))))).mp hl
                exact ih10 (j + 1) (by omega) (by omega) _ _ hV hS ls (lv_sub hl [1, 2, 3, 4, 0] rfl)
              · refine lv_aload_n hx hb dX5_down_57 rfl (lv_at hl 0 rfl) ?_
                refine m_get (C := RX5) (T := TX5) (N := 34) hx hb hts hi_X5 hown hK hV 8 (v := .ref (B 8)) (g_m8 hM) rfl (by decide) k29 (fun _ h9 => h9) dX5_down_58 ?_
                refine lv_iload hx hb dX5_down_61 (lv_at hl 4 rfl) ?_
                refine m_lald hx hb hK hV 1 (i := nI (j + 1)) (x := (kW μ 8 (j + 1))) (a_m8 hM) rfl (vp_in_nI (by omega) (by omega)) (by rw [nI_clamp (by omega)] <;> first | rfl | (show oI (va_up _ _ _ _) = _; rw [vu_s] <;> rfl) | (show va_up _ _ _ _ = _; rw [vu_s] <;> rfl)) dX5_down_63 ?_
                refine lv_lstore_n (lv' := [(2, .long (kW μ 8 (j + 1))), (0, .ref (B 100)), (1, .int (nI p9)), (4, .int (oI ((dnG μ p9 j).2))), (5, .int (nI (j + 1)))]) hx hb dX5_down_64 rfl hl (by decide) rfl (fun ls hl => ?_)
                refine lv_bipush (v := 100) hx hb dX5_down_65 (by decide) ?_
                refine lv_iload hx hb dX5_down_67 (lv_at hl 4 rfl) ?_
                refine lv_iadd hx hb dX5_down_69 ?_
                refine m_topi (y := nI (100 + (j + 1))) (nI_add 100 (j + 1)) ?_
                refine lv_istore (lv' := [(4, .int (nI (100 + (j + 1)))), (2, .long (kW μ 8 (j + 1))), (0, .ref (B 100)), (1, .int (nI p9)), (5, .int (nI (j + 1)))]) hx hb dX5_down_70 hl (by decide) rfl (fun ls hl => ?_)
                refine lv_iinc (v := nI ((j + 1) + 1)) (lv' := [(5, .int (nI ((j + 1) + 1))), (4, .int (nI (100 + (j + 1)))), (2, .long (kW μ 8 (j + 1))), (0, .ref (B 100)), (1, .int (nI p9))]) hx hb dX5_down_72 hl (k := 4) rfl (show nI (j + 1) + Int32.ofInt 1 = _ from nI_add (j + 1) 1) (by decide) rfl (fun ls hl => ?_)
                refine lv_goto (tgt := 10) hx hb dX5_down_75 (by decide) ?_
                have q22 : (kW μ 8 (j + 1)) = ((dnG μ p9 (j + 1)).1) := (by rw [dnG, if_pos ⟨c27, c36, Or.inr (Int64.not_le.mp c54)⟩])
                have q23 : nI (100 + (j + 1)) = oI ((dnG μ p9 (j + 1)).2) := (by rw [dnG, if_pos ⟨c27, c36, Or.inr (Int64.not_le.mp c54)⟩]; rfl)
                replace hl : lv_has ls 6 [(5, .int (nI ((j + 1) + 1))), (4, .int (oI ((dnG μ p9 (j + 1)).2))), (2, .long ((dnG μ p9 (j + 1)).1)), (0, .ref (B 100)), (1, .int (nI p9))] := (congrArg (lv_has ls 6) (m_lc rfl (m_lc (congrArg Value.int q23) (m_lc (congrArg Value.long q22) (m_lc rfl (m_lc rfl rfl)))))).mp hl
                exact ih10 (j + 1) (by omega) (by omega) _ _ hV hS ls (lv_sub hl [3, 4, 2, 1, 0] rfl)
  have q24 : (-1) = ((dnG μ p9 0).1) := rfl
  have q25 : (-1) = oI ((dnG μ p9 0).2) := rfl
  have q26 : 1 = nI (0 + 1) := rfl
  replace hl : lv_has ls 6 [(5, .int (nI (0 + 1))), (4, .int (oI ((dnG μ p9 0).2))), (2, .long ((dnG μ p9 0).1)), (0, .ref (B 100)), (1, .int (nI p9))] := (congrArg (lv_has ls 6) (m_lc (congrArg Value.int q26) (m_lc (congrArg Value.int q25) (m_lc (congrArg Value.long q24) (m_lc rfl (m_lc rfl rfl)))))).mp hl
  exact lp10 ((kN μ 9 0 - 0) + 1) 0 (by omega) (Nat.lt_succ_self _) _ _ hV hS ls (lv_sub hl [3, 4, 2, 1, 0] rfl)
