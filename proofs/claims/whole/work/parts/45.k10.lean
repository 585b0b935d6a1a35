set_option maxHeartbeats 4000000 in
set_option maxRecDepth 100000 in
theorem c_X4_markLiveGroups {l : Launch} {D : va_G} {cs : mC} {df : Nat} {P : Nat → Prop} {h0 : mH} {L : KL} {σ : KS} {hh : mH} (sz : Nat) (hC : CRep cs df P h0 L σ hh)  : Met l yX4_markLiveGroups wsX4_markLiveGroups ({ frames := 3, cells := 0, slots := 0, locals := 64 }) (mPre [.ref (L 0 0)] D cs df hh sz) (va_Qv ((fun (h1 : mH) => CRep cs df P h0 L (markS σ) h1)) (mB D hh sz) (mA hh sz)) 0 0 (mA hh sz) := by
  refine Met.ofW (cc := cX4_markLiveGroups) (maxL := 4) (ret := none) (by decide) rfl ?_
  intro p e s m args below meth c s₁ B0 hml hv
  obtain ⟨hargs, hsz, hV, hE⟩ := hv
  subst hsz
  have hx := B0.exec
  have hb := B0.bytes
  have hr := B0.returns
  have hlocks := B0.notSynchronized
  have hts := atoms_spec (ws := wsX4_markLiveGroups) B0.pre
  have hown : s.vm.findClass RX4 = some m.cls := findClass_of_methodNamed B0.named
  have hK := hE.1.1
  have hA : ∀ q : Nat, s.heap.size ≤ q → mA hh s.heap.size q := mA.top
  have hS : va_S (mA hh s.heap.size) s.heap s.heap [] := va_S.rf
  have hi_X4 : ∀ w ∈ u_ws RX4 TX4 11, w ∈ wsX4_markLiveGroups := by decide +kernel
  have k18 : (Cond.fieldLink RX4 18 "TaskKernel" "groups" "Ljava/util/ArrayList;").before args s = true := hts _ (by decide +kernel)
  have k21 : (Cond.fieldLink RX4 21 "TaskKernel" "tasks" "Ljava/util/ArrayList;").before args s = true := hts _ (by decide +kernel)
  have kc121 : (Cond.classLink RX4 121 "TaskKernel$Task").before args s = true := hts _ (by decide +kernel)
  have hi_X3 : ∀ w ∈ u_ws RX3 TX3 16, w ∈ wsX4_markLiveGroups := by decide +kernel
  have kn316 : va_Nw (.fieldLinkNest RX4 316 "TaskKernel$Task" "canBeChosen" "Z" "TaskKernel") s := hE.1.2.1 _ (List.mem_of_getElem? (i := 26) rfl)
  have kn296 : va_Nw (.fieldLinkNest RX4 296 "TaskKernel$Task" "group" "LTaskKernel$Group;" "TaskKernel") s := hE.1.2.1 _ (List.mem_of_getElem? (i := 12) rfl)
  have kn340 : va_Nw (.fieldLinkNest RX4 340 "TaskKernel$Group" "live" "Z" "TaskKernel") s := hE.1.2.1 _ (List.mem_of_getElem? (i := 5) rfl)
  have hi_X1 : ∀ w ∈ u_ws RX1 TX1 6, w ∈ wsX4_markLiveGroups := by decide +kernel
  have kn290 : va_Nw (.fieldLinkNest RX4 290 "TaskKernel$Group" "parent" "LTaskKernel$Group;" "TaskKernel") s := hE.1.2.1 _ (List.mem_of_getElem? (i := 1) rfl)
  have kc27 : (Cond.classLink RX4 27 "TaskKernel$Group").before args s = true := hts _ (by decide +kernel)
  have hl := lv_entry ([.ref (L 0 0)]) (n := 4) (by first | exact Nat.le_of_ble_eq_true rfl | simp [lg_sl, rf_cat, ct_ref, ct_int, ct_null, ct_long])
  have hent := lg_entry_eq m ([.ref (L 0 0)]) 4
  rw [← hargs] at hent
  rw [hent]
  generalize (lg_sl ([.ref (L 0 0)]) ++ List.replicate (4 - (lg_sl ([.ref (L 0 0)])).length) Slot.unset).toArray = ls at hl ⊢
  replace hl : lv_has ls 4 [(0, .ref (L 0 0))] := hl
  have hwf := hC.wf
  obtain ⟨⟨z0, z1, z2, z3, z4⟩, z5, z6, z7, z8, z9, z10, z11, z12⟩ := hwf
  refine lv_iconst (v := 0) hx hb dX4_markLiveGroups_0 (by decide) ?_
  refine lv_istore_n (lv' := [(1, .int 0), (0, .ref (L 0 0))]) hx hb dX4_markLiveGroups_1 rfl hl (by decide) rfl (fun ls hl => ?_)
  have lp2 : ∀ (fu : Nat) (i : Nat), (i ≤ kN σ 62 1) → kN σ 62 1 - i < fu → ∀ (h : mH) (H : Heap) (locs : List Loc), CRep cs df P h0 L (clrS i σ) h → mV D h (mA hh s.heap.size) H → va_S (mA hh s.heap.size) s.heap H locs → ∀ (ls : Array Slot), lv_has ls 4 [(0, .ref (L 0 0)), (1, .int (nI i))] → W p l e ({ frames := 3, cells := 0, slots := 0, locals := 64 } : Room) s m args below meth c H locs 0 0 (MQ below (va_Qv ((fun (h1 : mH) => CRep cs df P h0 L (markS σ) h1)) (mB D hh s.heap.size) (mA hh s.heap.size)) args s 0 0 (mA hh s.heap.size)) (F0 m 2 ls []) := by
    intro fu
    induction fu with
    | zero =>
      intro i hi hfu
      exact absurd hfu (Nat.not_lt_zero _)
    | succ fu ih2 =>
      intro i hi hfu h H locs hC hV hS ls hl
      have en : kN (clrS i σ) 62 1 = kN σ 62 1 := by rw [clrS_N]
      refine lv_iload_n hx hb dX4_markLiveGroups_2 rfl (lv_at hl 1 rfl) ?_
      refine lv_aload_n hx hb dX4_markLiveGroups_3 rfl (lv_at hl 0 rfl) ?_
      refine m_get (C := RX4) (T := TX4) (N := 11) hx hb hts hi_X4 hown hK hV 1 (v := .ref (L 5 1)) (g_kern1 hC rfl) rfl (by decide) k18 (fun _ h9 => h9) dX4_markLiveGroups_4 ?_
      refine m_calli (va_runV (As := []) (rest := [.int (nI i)]) ⟨hx, hb, hml, hown, hts⟩ (l_size (H.size) hC 1 (by decide)) (cwV 0 hts gX4_markLiveGroups_Jx4a65c_size_8abf5 rfl rfl rfl (by decide +kernel) ⟨by decide, by decide⟩) (m_preV (r := (RJx4a65c, TJx4a65c, 3)) hE hV hS hA (CRep.atL hC (j := 1) (by decide)) rfl) rfl rfl hl.1 rfl (lv_room (by first | exact Nat.le_of_ble_eq_true rfl | simp [rf_cat, ct_ref, ct_int, ct_null, ct_long])) dX4_markLiveGroups_7 ⟨by decide, by decide⟩) hV hS hA (fun r h1 H locs hV hS hp _ => ?_)
      obtain ⟨e1, e2⟩ := hp
      subst e2
      rw [e1] at hV; clear e1
      refine lv_icmp_ge (tgt := 34) hx hb dX4_markLiveGroups_10 (by decide) (fun c10 => ?_) (fun c10 => ?_)
      · replace c10 : kN (clrS i σ) 62 1 ≤ i := (nI_leI (a := kN (clrS i σ) 62 1) (b := i) (by omega) (by omega)).mp c10
        refine lv_iconst (v := 0) hx hb dX4_markLiveGroups_34 (by decide) ?_
        refine lv_istore_n (lv' := [(1, .int 0), (0, .ref (L 0 0))]) hx hb dX4_markLiveGroups_35 rfl hl (by decide) rfl (fun ls hl => ?_)
        have lp36 : ∀ (fu : Nat) (k : Nat), (k ≤ kN σ 62 2) → kN σ 62 2 - k < fu → ∀ (h : mH) (H : Heap) (locs : List Loc), CRep cs df P h0 L (mkS k (clrS (kN σ 62 1) σ)) h → mV D h (mA hh s.heap.size) H → va_S (mA hh s.heap.size) s.heap H locs → ∀ (ls : Array Slot), lv_has ls 4 [(0, .ref (L 0 0)), (1, .int (nI k))] → W p l e ({ frames := 3, cells := 0, slots := 0, locals := 64 } : Room) s m args below meth c H locs 0 0 (MQ below (va_Qv ((fun (h1 : mH) => CRep cs df P h0 L (markS σ) h1)) (mB D hh s.heap.size) (mA hh s.heap.size)) args s 0 0 (mA hh s.heap.size)) (F0 m 36 ls []) := by
          intro fu
          induction fu with
          | zero =>
            intro k hk hfu
            exact absurd hfu (Nat.not_lt_zero _)
          | succ fu ih36 =>
            intro k hk hfu h H locs hC hV hS ls hl
            have en2 : kN (mkS k (clrS (kN σ 62 1) σ)) 62 2 = kN σ 62 2 := by rw [mkS_N, clrS_N]
            have en1 : kN (mkS k (clrS (kN σ 62 1) σ)) 62 1 = kN σ 62 1 := by rw [mkS_N, clrS_N]
            refine lv_iload_n hx hb dX4_markLiveGroups_36 rfl (lv_at hl 1 rfl) ?_
            refine lv_aload_n hx hb dX4_markLiveGroups_37 rfl (lv_at hl 0 rfl) ?_
            refine m_get (C := RX4) (T := TX4) (N := 11) hx hb hts hi_X4 hown hK hV 2 (v := .ref (L 5 2)) (g_kern2 hC rfl) rfl (by decide) k21 (fun _ h9 => h9) dX4_markLiveGroups_38 ?_
            refine m_calli (va_runV (As := []) (rest := [.int (nI k)]) ⟨hx, hb, hml, hown, hts⟩ (l_size (H.size) hC 2 (by decide)) (cwV 0 hts gX4_markLiveGroups_Jx4a65c_size_8abf5 rfl rfl rfl (by decide +kernel) ⟨by decide, by decide⟩) (m_preV (r := (RJx4a65c, TJx4a65c, 3)) hE hV hS hA (CRep.atL hC (j := 2) (by decide)) rfl) rfl rfl hl.1 rfl (lv_room (by first | exact Nat.le_of_ble_eq_true rfl | simp [rf_cat, ct_ref, ct_int, ct_null, ct_long])) dX4_markLiveGroups_41 ⟨by decide, by decide⟩) hV hS hA (fun r h1 H locs hV hS hp _ => ?_)
            obtain ⟨e1, e2⟩ := hp
            subst e2
            rw [e1] at hV; clear e1
            refine lv_icmp_ge (tgt := 94) hx hb dX4_markLiveGroups_44 (by decide) (fun c44 => ?_) (fun c44 => ?_)
            · replace c44 : kN (mkS k (clrS (kN σ 62 1) σ)) 62 2 ≤ k := (nI_leI (a := kN (mkS k (clrS (kN σ 62 1) σ)) 62 2) (b := k) (by omega) (by omega)).mp c44
              exact m_vret hx hb hr hlocks hV hS ((by rw [show k = kN σ 62 2 by omega] at hC; exact hC)) dX4_markLiveGroups_94
            · replace c44 : ¬ kN (mkS k (clrS (kN σ 62 1) σ)) 62 2 ≤ k := fun q9 => c44 ((nI_leI (a := kN (mkS k (clrS (kN σ 62 1) σ)) 62 2) (b := k) (by omega) (by omega)).mpr q9)
              refine lv_aload_n hx hb dX4_markLiveGroups_47 rfl (lv_at hl 0 rfl) ?_
              refine m_get (C := RX4) (T := TX4) (N := 11) hx hb hts hi_X4 hown hK hV 2 (v := .ref (L 5 2)) (g_kern2 hC rfl) rfl (by decide) k21 (fun _ h9 => h9) dX4_markLiveGroups_48 ?_
              refine lv_iload_n hx hb dX4_markLiveGroups_51 rfl (lv_at hl 1 rfl) ?_
              refine m_callq (va_runV (As := [.int (nI k)]) (rest := []) ⟨hx, hb, hml, hown, hts⟩ (l_get2 (H.size) hC k (by first | assumption | omega)) (cwV 1 hts gX4_markLiveGroups_Jx4a65c_get_915e3 rfl rfl rfl (by decide +kernel) ⟨by decide, by decide⟩) (m_preV (r := (RJx4a65c, TJx4a65c, 3)) hE hV hS hA (CRep.atL hC (j := 2) (by decide)) rfl) rfl rfl hl.1 rfl (lv_room (by first | exact Nat.le_of_ble_eq_true rfl | simp [rf_cat, ct_ref, ct_int, ct_null, ct_long])) dX4_markLiveGroups_52 ⟨by decide, by decide⟩) hV hS hA (fun r h1 H locs hV hS hp _ => ?_)
              obtain ⟨e1, e2⟩ := hp
              subst e2
              rw [e1] at hV; clear e1
              refine m_cast (r := (RX3, TX3, 16)) hx hb hE hV (hC.at (k := 3) (i := k) (by first | assumption | (show k < kN (mkS k (clrS (kN σ 62 1) σ)) 62 2; omega))) rfl hown kc121 dX4_markLiveGroups_55 ?_
              refine lv_astore_n (lv' := [(2, .ref (L 3 k)), (0, .ref (L 0 0)), (1, .int (nI k))]) hx hb dX4_markLiveGroups_58 rfl hl (by decide) rfl (fun ls hl => ?_)
              refine lv_aload_n hx hb dX4_markLiveGroups_59 rfl (lv_at hl 0 rfl) ?_
              refine m_getN (C := RX3) (T := TX3) (N := 16) (host := "TaskKernel") hx hb hts hi_X3 hown hK hV 15 (v := .int (bI (kB (mkS k (clrS (kN σ 62 1) σ)) 45 k))) (g_task15 hC (by first | assumption | (show k < kN (mkS k (clrS (kN σ 62 1) σ)) 62 2; omega))) rfl (by decide) kn316 (fun _ h9 => h9) dX4_markLiveGroups_60 ?_
              refine lv_if_eq (tgt := 88) hx hb dX4_markLiveGroups_63 (by decide) (fun c63 => ?_) (fun c63 => ?_)
              · replace c63 : kB (mkS k (clrS (kN σ 62 1) σ)) 45 k = false := bI_0.mp c63
                refine lv_iinc (v := nI (k + 1)) (lv' := [(1, .int (nI (k + 1))), (2, .ref (L 3 k)), (0, .ref (L 0 0))]) hx hb dX4_markLiveGroups_88 hl (k := 2) rfl (show nI k + Int32.ofInt 1 = _ from nI_add k 1) (by decide) rfl (fun ls hl => ?_)
                refine lv_goto (tgt := 36) hx hb dX4_markLiveGroups_91 (by decide) ?_
                have q1 : (mkS k (clrS (kN σ 62 1) σ)) = (mkS (k + 1) (clrS (kN σ 62 1) σ)) := (by rw [mkS, if_neg (by rw [c63]; decide)])
                rw [q1] at hC
                exact ih36 (k + 1) (by omega) (by omega) _ _ _ hC hV hS ls (lv_sub hl [2, 0] rfl)
              · replace c63 : kB (mkS k (clrS (kN σ 62 1) σ)) 45 k = true := bI_1.mp c63
                refine lv_aload_n hx hb dX4_markLiveGroups_66 rfl (lv_at hl 0 rfl) ?_
                refine m_getN (C := RX3) (T := TX3) (N := 16) (host := "TaskKernel") hx hb hts hi_X3 hown hK hV 1 (v := .ref (L 2 (kN (mkS k (clrS (kN σ 62 1) σ)) 31 k))) (g_task1 hC (by first | assumption | (show k < kN (mkS k (clrS (kN σ 62 1) σ)) 62 2; omega))) rfl (by decide) kn296 (fun _ h9 => h9) dX4_markLiveGroups_67 ?_
                refine lv_astore_n (lv' := [(3, .ref (L 2 (kN (mkS k (clrS (kN σ 62 1) σ)) 31 k))), (2, .ref (L 3 k)), (0, .ref (L 0 0)), (1, .int (nI k))]) hx hb dX4_markLiveGroups_70 rfl hl (by decide) rfl (fun ls hl => ?_)
                have lp71 : ∀ (fu : Nat) (f : Nat) (o : Option Nat) (τ : KS), (om o ≤ f) → (∀ k, o = some k → k < kN τ 62 1) → (chS f o τ = chS 6 (some (kN (mkS k (clrS (kN σ 62 1) σ)) 31 k)) (mkS k (clrS (kN σ 62 1) σ))) → om o < fu → ∀ (h : mH) (H : Heap) (locs : List Loc), CRep cs df P h0 L τ h → mV D h (mA hh s.heap.size) H → va_S (mA hh s.heap.size) s.heap H locs → ∀ (ls : Array Slot), lv_has ls 4 [(2, .ref (L 3 k)), (0, .ref (L 0 0)), (1, .int (nI k)), (3, va_rf ((o).map (L 2)))] → W p l e ({ frames := 3, cells := 0, slots := 0, locals := 64 } : Room) s m args below meth c H locs 0 0 (MQ below (va_Qv ((fun (h1 : mH) => CRep cs df P h0 L (markS σ) h1)) (mB D hh s.heap.size) (mA hh s.heap.size)) args s 0 0 (mA hh s.heap.size)) (F0 m 71 ls []) := by
                  intro fu
                  induction fu with
                  | zero =>
                    intro f o τ hm ho hf hfu
                    exact absurd hfu (Nat.not_lt_zero _)
                  | succ fu ih71 =>
                    intro f o τ hm ho hf hfu h H locs hC hV hS ls hl
                    refine m_aload_nq hx hb dX4_markLiveGroups_71 rfl (lv_at hl 3 rfl) ?_
                    refine m_ifnull_q (o := o) (f := L 2) (tgt := 88) hx hb dX4_markLiveGroups_72 (by decide) (fun c72 => ?_) (fun k72 c72 => ?_)
                    · replace hl : lv_has ls 4 [(2, .ref (L 3 k)), (0, .ref (L 0 0)), (1, .int (nI k)), (3, .null)] := by have h9 := hl; rw [c72] at h9; exact h9
                      refine lv_iinc (v := nI (k + 1)) (lv' := [(1, .int (nI (k + 1))), (2, .ref (L 3 k)), (0, .ref (L 0 0)), (3, .null)]) hx hb dX4_markLiveGroups_88 hl (k := 2) rfl (show nI k + Int32.ofInt 1 = _ from nI_add k 1) (by decide) rfl (fun ls hl => ?_)
                      refine lv_goto (tgt := 36) hx hb dX4_markLiveGroups_91 (by decide) ?_
                      have q2 : τ = (mkS (k + 1) (clrS (kN σ 62 1) σ)) := (by rw [mkS, if_pos c63, ← hf, c72, chS_none])
                      rw [q2] at hC
                      exact ih36 (k + 1) (by omega) (by omega) _ _ _ hC hV hS ls (lv_sub hl [2, 0] rfl)
                    · have bk72 := ho k72 c72
                      replace hl : lv_has ls 4 [(2, .ref (L 3 k)), (0, .ref (L 0 0)), (1, .int (nI k)), (3, .ref (L 2 k72))] := by have h9 := hl; rw [c72] at h9; exact h9
                      refine lv_aload_n hx hb dX4_markLiveGroups_75 rfl (lv_at hl 3 rfl) ?_
                      refine lv_iconst (v := 1) hx hb dX4_markLiveGroups_76 (by decide) ?_
                      refine m_putN (host := "TaskKernel") (C := RX1) (T := TX1) (N := 6) (v := .int (bI true)) hx hb hts hi_X1 tyX1 tyX1_ok nmX1 hown hK hV hS 5 (p_grp5 hC (by first | assumption | (show k72 < kN τ 62 1; omega)) true) rfl (by decide) kn340 (fun _ h9 => h9) rfl (tyX1_ok 5 (by decide)) (bI_narrow _) (bI_fits _) dX4_markLiveGroups_77 (fun h H locs hV hS hC => ?_)
                      refine lv_aload_n hx hb dX4_markLiveGroups_80 rfl (lv_at hl 3 rfl) ?_
                      refine m_getN (C := RX1) (T := TX1) (N := 6) (host := "TaskKernel") hx hb hts hi_X1 hown hK hV 1 (v := va_rf ((kO τ 20 k72).map (L 2))) (g_grp1 hC (by first | assumption | (show k72 < kN τ 62 1; omega))) rfl (by decide) kn290 (fun _ h9 => h9) dX4_markLiveGroups_81 ?_
                      refine m_astore_nq (i := 3) (lv' := [(3, va_rf ((kO τ 20 k72).map (L 2))), (2, .ref (L 3 k)), (0, .ref (L 0 0)), (1, .int (nI k))]) hx hb dX4_markLiveGroups_84 rfl hl (by decide) (by first | rfl | simp [rf_cat, ct_ref, ct_int, ct_long]) (fun ls hl => ?_)
                      refine lv_goto (tgt := 71) hx hb dX4_markLiveGroups_85 (by decide) ?_
                      have y9 : om o = k72 + 1 := by rw [c72]; rfl
                      have z9 : om (kO τ 20 k72) ≤ k72 := om_par hC.wf bk72
                      obtain ⟨f9, rfl⟩ : ∃ f9, f = f9 + 1 := ⟨f - 1, by omega⟩
                      have w9 : chS f9 (kO τ 20 k72) (sB τ 25 (va_up (kB τ 25) k72 true)) = chS 6 (some (kN (mkS k (clrS (kN σ 62 1) σ)) 31 k)) (mkS k (clrS (kN σ 62 1) σ)) := by rw [c72] at hf; exact hf
                      have q3 : (va_rf ((kO τ 20 k72).map (L 2)) : Value) = va_rf (((kO τ 20 k72)).map (L 2)) := by simp
                      replace hl : lv_has ls 4 [(3, va_rf (((kO τ 20 k72)).map (L 2))), (2, .ref (L 3 k)), (0, .ref (L 0 0)), (1, .int (nI k))] := (congrArg (lv_has ls 4) (m_lc q3 (m_lc rfl (m_lc rfl (m_lc rfl rfl))))).mp hl
                      exact ih71 f9 (kO τ 20 k72) (sB τ 25 (va_up (kB τ 25) k72 true)) (by omega) (fun k9 h9 => (wf_par hC.wf bk72 h9).2) w9 (by omega) _ _ _ hC hV hS ls (lv_sub hl [1, 2, 3, 0] rfl)
                have q4 : (.ref (L 2 (kN (mkS k (clrS (kN σ 62 1) σ)) 31 k)) : Value) = va_rf (((some (kN (mkS k (clrS (kN σ 62 1) σ)) 31 k))).map (L 2)) := rfl
                replace hl : lv_has ls 4 [(3, va_rf (((some (kN (mkS k (clrS (kN σ 62 1) σ)) 31 k))).map (L 2))), (2, .ref (L 3 k)), (0, .ref (L 0 0)), (1, .int (nI k))] := (congrArg (lv_has ls 4) (m_lc q4 (m_lc rfl (m_lc rfl (m_lc rfl rfl))))).mp hl
                exact lp71 ((om (some (kN (mkS k (clrS (kN σ 62 1) σ)) 31 k))) + 1) 6 (some (kN (mkS k (clrS (kN σ 62 1) σ)) 31 k)) (mkS k (clrS (kN σ 62 1) σ)) (by show kN (mkS k (clrS (kN σ 62 1) σ)) 31 k + 1 ≤ 6; have z := hC.wf.2.2.2.2.2.1 k (by omega); omega) (fun k9 h9 => by cases h9; exact hC.wf.2.2.2.2.2.1 k (by omega)) rfl (Nat.lt_succ_self _) _ _ _ hC hV hS ls (lv_sub hl [1, 2, 3, 0] rfl)
        have q5 : (clrS i σ) = (mkS 0 (clrS (kN σ 62 1) σ)) := (by rw [show i = kN σ 62 1 by omega]; rfl)
        rw [q5] at hC
        have q6 : 0 = nI 0 := rfl
        replace hl : lv_has ls 4 [(1, .int (nI 0)), (0, .ref (L 0 0))] := (congrArg (lv_has ls 4) (m_lc (congrArg Value.int q6) (m_lc rfl rfl))).mp hl
        exact lp36 ((kN σ 62 2 - 0) + 1) 0 (Nat.zero_le _) (Nat.lt_succ_self _) _ _ _ hC hV hS ls (lv_sub hl [1, 0] rfl)
      · replace c10 : ¬ kN (clrS i σ) 62 1 ≤ i := fun q9 => c10 ((nI_leI (a := kN (clrS i σ) 62 1) (b := i) (by omega) (by omega)).mpr q9)
        refine lv_aload_n hx hb dX4_markLiveGroups_13 rfl (lv_at hl 0 rfl) ?_
        refine m_get (C := RX4) (T := TX4) (N := 11) hx hb hts hi_X4 hown hK hV 1 (v := .ref (L 5 1)) (g_kern1 hC rfl) rfl (by decide) k18 (fun _ h9 => h9) dX4_markLiveGroups_14 ?_
        refine lv_iload_n hx hb dX4_markLiveGroups_17 rfl (lv_at hl 1 rfl) ?_
        refine m_callq (va_runV (As := [.int (nI i)]) (rest := []) ⟨hx, hb, hml, hown, hts⟩ (l_get1 (H.size) hC i (by first | assumption | omega)) (cwV 1 hts gX4_markLiveGroups_Jx4a65c_get_915e3 rfl rfl rfl (by decide +kernel) ⟨by decide, by decide⟩) (m_preV (r := (RJx4a65c, TJx4a65c, 3)) hE hV hS hA (CRep.atL hC (j := 1) (by decide)) rfl) rfl rfl hl.1 rfl (lv_room (by first | exact Nat.le_of_ble_eq_true rfl | simp [rf_cat, ct_ref, ct_int, ct_null, ct_long])) dX4_markLiveGroups_18 ⟨by decide, by decide⟩) hV hS hA (fun r h1 H locs hV hS hp _ => ?_)
        obtain ⟨e1, e2⟩ := hp
        subst e2
        rw [e1] at hV; clear e1
        refine m_cast (r := (RX1, TX1, 6)) hx hb hE hV (hC.at (k := 2) (i := i) (by first | assumption | (show i < kN (clrS i σ) 62 1; omega))) rfl hown kc27 dX4_markLiveGroups_21 ?_
        refine lv_iconst (v := 0) hx hb dX4_markLiveGroups_24 (by decide) ?_
        refine m_putN (host := "TaskKernel") (C := RX1) (T := TX1) (N := 6) (v := .int (bI false)) hx hb hts hi_X1 tyX1 tyX1_ok nmX1 hown hK hV hS 5 (p_grp5 hC (by first | assumption | (show i < kN (clrS i σ) 62 1; omega)) false) rfl (by decide) kn340 (fun _ h9 => h9) rfl (tyX1_ok 5 (by decide)) (bI_narrow _) (bI_fits _) dX4_markLiveGroups_25 (fun h H locs hV hS hC => ?_)
        refine lv_iinc (v := nI (i + 1)) (lv' := [(1, .int (nI (i + 1))), (0, .ref (L 0 0))]) hx hb dX4_markLiveGroups_28 hl (k := 1) rfl (show nI i + Int32.ofInt 1 = _ from nI_add i 1) (by decide) rfl (fun ls hl => ?_)
        refine lv_goto (tgt := 2) hx hb dX4_markLiveGroups_31 (by decide) ?_
        have q7 : (sB (clrS i σ) 25 (va_up (kB (clrS i σ) 25) i false)) = (clrS (i + 1) σ) := rfl
        rw [q7] at hC
        exact ih2 (i + 1) (by omega) (by omega) _ _ _ hC hV hS ls (lv_sub hl [1, 0] rfl)
  have q8 : σ = (clrS 0 σ) := rfl
  rw [q8] at hC
  have q9 : 0 = nI 0 := rfl
  replace hl : lv_has ls 4 [(1, .int (nI 0)), (0, .ref (L 0 0))] := (congrArg (lv_has ls 4) (m_lc (congrArg Value.int q9) (m_lc rfl rfl))).mp hl
  exact lp2 ((kN σ 62 1 - 0) + 1) 0 (Nat.zero_le _) (Nat.lt_succ_self _) _ _ _ hC hV hS ls (lv_sub hl [1, 0] rfl)
