set_option maxHeartbeats 4000000 in
set_option maxRecDepth 100000 in
theorem c_X4_pickDownTheTree {l : Launch} {D : va_G} {cs : mC} {df : Nat} {P : Nat → Prop} {h0 : mH} {L : KL} {σ : KS} {hh : mH} (sz : Nat) (hC : CRep cs df P h0 L σ hh)  : Met l yX4_pickDownTheTree wsX4_pickDownTheTree ({ frames := 4, cells := 0, slots := 0, locals := 88 }) (mPre [.ref (L 0 0)] D cs df hh sz) (va_Qq ((fun (r : Option Nat) (h1 : mH) => CRep cs df P h0 L (pdSt σ) h1 ∧ r = (((pdO σ)).map (L 3)))) (mB D hh sz) (mA hh sz)) 0 0 (mA hh sz) := by
  refine Met.ofW (cc := cX4_pickDownTheTree) (maxL := 6) (ret := (some (.object "TaskKernel$Task"))) (by decide) rfl ?_
  intro p e s m args below meth c s₁ B0 hml hv
  obtain ⟨hargs, hsz, hV, hE⟩ := hv
  subst hsz
  have hx := B0.exec
  have hb := B0.bytes
  have hr := B0.returns
  have hlocks := B0.notSynchronized
  have hts := atoms_spec (ws := wsX4_pickDownTheTree) B0.pre
  have hown : s.vm.findClass RX4 = some m.cls := findClass_of_methodNamed B0.named
  have hK := hE.1.1
  have hA : ∀ q : Nat, s.heap.size ≤ q → mA hh s.heap.size q := mA.top
  have hS : va_S (mA hh s.heap.size) s.heap s.heap [] := va_S.rf
  have hi_X4 : ∀ w ∈ u_ws RX4 TX4 11, w ∈ wsX4_pickDownTheTree := by decide +kernel
  have k32 : (Cond.fieldLink RX4 32 "TaskKernel" "root" "LTaskKernel$Group;").before args s = true := hts _ (by decide +kernel)
  have hi_X3 : ∀ w ∈ u_ws RX3 TX3 16, w ∈ wsX4_pickDownTheTree := by decide +kernel
  have kn191 : va_Nw (.fieldLinkNest RX4 191 "TaskKernel$Task" "time" "J" "TaskKernel") s := hE.1.2.1 _ (List.mem_of_getElem? (i := 14) rfl)
  have hi_X1 : ∀ w ∈ u_ws RX1 TX1 6, w ∈ wsX4_pickDownTheTree := by decide +kernel
  have kn197 : va_Nw (.fieldLinkNest RX4 197 "TaskKernel$Group" "time" "J" "TaskKernel") s := hE.1.2.1 _ (List.mem_of_getElem? (i := 3) rfl)
  have hl := lv_entry ([.ref (L 0 0)]) (n := 6) (by first | exact Nat.le_of_ble_eq_true rfl | simp [lg_sl, rf_cat, ct_ref, ct_int, ct_null, ct_long])
  have hent := lg_entry_eq m ([.ref (L 0 0)]) 6
  rw [← hargs] at hent
  rw [hent]
  generalize (lg_sl ([.ref (L 0 0)]) ++ List.replicate (6 - (lg_sl ([.ref (L 0 0)])).length) Slot.unset).toArray = ls at hl ⊢
  replace hl : lv_has ls 6 [(0, .ref (L 0 0))] := hl
  have hwf := hC.wf
  obtain ⟨⟨z0, z1, z2, z3, z4⟩, z5, z6, z7, z8, z9, z10, z11, z12⟩ := hwf
  have en : kN (markS σ) = kN σ := markS_N σ
  have en1 : kN (markS σ) 62 1 = kN σ 62 1 := by rw [en]
  have en2 : kN (markS σ) 62 2 = kN σ 62 2 := by rw [en]
  refine lv_aload_n hx hb dX4_pickDownTheTree_0 rfl (lv_at hl 0 rfl) ?_
  refine m_callq (va_runV (As := []) (rest := []) ⟨hx, hb, hml, hown, hts⟩ (c_X4_mostUrgent (l := l) (s.heap.size) hC ) (cwV 0 hts gX4_pickDownTheTree_X4_mostUrgent rfl rfl rfl (by decide +kernel) ⟨by decide, by decide⟩) (m_preV (r := (RX4, TX4, 11)) hE hV hS hA (hC.at (k := 0) (i := 0) rfl) rfl) rfl rfl hl.1 rfl (lv_room (by first | exact Nat.le_of_ble_eq_true rfl | simp [rf_cat, ct_ref, ct_int, ct_null, ct_long])) dX4_pickDownTheTree_1 ⟨by decide, by decide⟩) hV hS hA (fun r h1 H locs hV hS hp _ => ?_)
  obtain ⟨e1, e2⟩ := hp
  subst e2
  rw [e1] at hV; clear e1
  refine m_astore_nq (i := 1) (lv' := [(1, va_rf (((muS σ (kN σ 62 2)).1).map (L 3))), (0, .ref (L 0 0))]) hx hb dX4_pickDownTheTree_4 rfl hl (by decide) (by first | rfl | simp [rf_cat, ct_ref, ct_int, ct_long]) (fun ls hl => ?_)
  refine m_aload_nq hx hb dX4_pickDownTheTree_5 rfl (lv_at hl 0 rfl) ?_
  refine m_ifnull_q (o := ((muS σ (kN σ 62 2)).1)) (f := L 3) (tgt := 11) hx hb dX4_pickDownTheTree_6 (by decide) (fun c6 => ?_) (fun k6 c6 => ?_)
  · replace hl : lv_has ls 6 [(1, .null), (0, .ref (L 0 0))] := by have h9 := hl; rw [c6] at h9; exact h9
    refine lv_aload_n hx hb dX4_pickDownTheTree_11 rfl (lv_at hl 1 rfl) ?_
    refine m_callv (va_runV (As := []) (rest := []) ⟨hx, hb, hml, hown, hts⟩ (c_X4_markLiveGroups (l := l) (H.size) hC ) (cwV 0 hts gX4_pickDownTheTree_X4_markLiveGroups rfl rfl rfl (by decide +kernel) ⟨by decide, by decide⟩) (m_preV (r := (RX4, TX4, 11)) hE hV hS hA (hC.at (k := 0) (i := 0) rfl) rfl) rfl rfl hl.1 rfl (lv_room (by first | exact Nat.le_of_ble_eq_true rfl | simp [rf_cat, ct_ref, ct_int, ct_null, ct_long])) dX4_pickDownTheTree_12 ⟨by decide, by decide⟩) hV hS hA (fun h H locs hV hS hp _ => ?_)
    replace hC := hp; clear hp
    refine lv_aload_n hx hb dX4_pickDownTheTree_15 rfl (lv_at hl 1 rfl) ?_
    refine m_get (C := RX4) (T := TX4) (N := 11) hx hb hts hi_X4 hown hK hV 4 (v := .ref (L 2 0)) (g_kern4 hC rfl) rfl (by decide) k32 (fun _ h9 => h9) dX4_pickDownTheTree_16 ?_
    refine lv_astore_n (lv' := [(2, .ref (L 2 0)), (1, .null), (0, .ref (L 0 0))]) hx hb dX4_pickDownTheTree_19 rfl hl (by decide) rfl (fun ls hl => ?_)
    refine lv_iconst (v := 0) hx hb dX4_pickDownTheTree_20 (by decide) ?_
    refine lv_istore_n (lv' := [(3, .int 0), (2, .ref (L 2 0)), (1, .null), (0, .ref (L 0 0))]) hx hb dX4_pickDownTheTree_21 rfl hl (by decide) rfl (fun ls hl => ?_)
    have lp22 : ∀ (fu : Nat) (i : Nat) (g : Nat), (i ≤ 6) → (g < kN σ 62 1) → (pdL (markS σ) (6 - i) g = pdL (markS σ) 6 0) → 6 - i < fu → ∀ (h : mH) (H : Heap) (locs : List Loc), CRep cs df P h0 L (markS σ) h → mV D h (mA hh s.heap.size) H → va_S (mA hh s.heap.size) s.heap H locs → ∀ (ls : Array Slot), lv_has ls 6 [(1, .null), (0, .ref (L 0 0)), (2, .ref (L 2 g)), (3, .int (nI i))] → W p l e ({ frames := 4, cells := 0, slots := 0, locals := 88 } : Room) s m args below meth c H locs 0 0 (MQ below (va_Qq ((fun (r : Option Nat) (h1 : mH) => CRep cs df P h0 L (pdSt σ) h1 ∧ r = (((pdO σ)).map (L 3)))) (mB D hh s.heap.size) (mA hh s.heap.size)) args s 0 0 (mA hh s.heap.size)) (F0 m 22 ls []) := by
      intro fu
      induction fu with
      | zero =>
        intro i g hi hg hf hfu
        exact absurd hfu (Nat.not_lt_zero _)
      | succ fu ih22 =>
        intro i g hi hg hf hfu h H locs hC hV hS ls hl
        refine lv_iload_n hx hb dX4_pickDownTheTree_22 rfl (lv_at hl 3 rfl) ?_
        refine lv_bipush (v := 6) hx hb dX4_pickDownTheTree_23 (by decide) ?_
        refine lv_icmp_ge (tgt := 78) hx hb dX4_pickDownTheTree_25 (by decide) (fun c25 => ?_) (fun c25 => ?_)
        · replace c25 : 6 ≤ i := (nI_leI (a := 6) (b := i) (by omega) (by omega)).mp c25
          refine lv_null hx hb dX4_pickDownTheTree_78 ?_
          exact m_aret (v := none) hx hb hr hlocks (Or.inl ⟨_, rfl⟩) hV hS (⟨by unfold pdSt; rw [c6]; exact hC, by rw [pdO_n c6, ← hf, show 6 - i = 0 by omega]; rfl⟩) dX4_pickDownTheTree_79
        · replace c25 : ¬ 6 ≤ i := fun q9 => c25 ((nI_leI (a := 6) (b := i) (by omega) (by omega)).mpr q9)
          refine lv_aload_n hx hb dX4_pickDownTheTree_28 rfl (lv_at hl 1 rfl) ?_
          refine lv_aload_n hx hb dX4_pickDownTheTree_29 rfl (lv_at hl 2 rfl) ?_
          refine m_callq (va_runV (As := [.ref (L 2 g)]) (rest := []) ⟨hx, hb, hml, hown, hts⟩ (c_X4_leastLiveGroupIn (l := l) (H.size) hC g (by omega)) (cwV 1 hts gX4_pickDownTheTree_X4_leastLiveGroupIn rfl rfl rfl (by decide +kernel) ⟨by decide, by decide⟩) (m_preV (r := (RX4, TX4, 11)) hE hV hS hA (hC.at (k := 0) (i := 0) rfl) rfl) rfl rfl hl.1 rfl (lv_room (by first | exact Nat.le_of_ble_eq_true rfl | simp [rf_cat, ct_ref, ct_int, ct_null, ct_long])) dX4_pickDownTheTree_30 ⟨by decide, by decide⟩) hV hS hA (fun r h1 H locs hV hS hp _ => ?_)
          obtain ⟨e1, e2⟩ := hp
          subst e2
          rw [e1] at hV; clear e1
          refine m_astore_q (lv' := [(4, va_rf (((lgS (markS σ) g (kN (markS σ) 62 1))).map (L 2))), (1, .null), (0, .ref (L 0 0)), (2, .ref (L 2 g)), (3, .int (nI i))]) hx hb dX4_pickDownTheTree_33 hl (by decide) (by first | rfl | simp [rf_cat, ct_ref, ct_int, ct_long]) (fun ls hl => ?_)
          refine lv_aload_n hx hb dX4_pickDownTheTree_35 rfl (lv_at hl 2 rfl) ?_
          refine lv_aload_n hx hb dX4_pickDownTheTree_36 rfl (lv_at hl 3 rfl) ?_
          refine m_callq (va_runV (As := [.ref (L 2 g)]) (rest := []) ⟨hx, hb, hml, hown, hts⟩ (c_X4_leastTaskIn (l := l) (H.size) hC g (by omega)) (cwV 1 hts gX4_pickDownTheTree_X4_leastTaskIn rfl rfl rfl (by decide +kernel) ⟨by decide, by decide⟩) (m_preV (r := (RX4, TX4, 11)) hE hV hS hA (hC.at (k := 0) (i := 0) rfl) rfl) rfl rfl hl.1 rfl (lv_room (by first | exact Nat.le_of_ble_eq_true rfl | simp [rf_cat, ct_ref, ct_int, ct_null, ct_long])) dX4_pickDownTheTree_37 ⟨by decide, by decide⟩) hV hS hA (fun r h1 H locs hV hS hp _ => ?_)
          obtain ⟨e1, e2⟩ := hp
          subst e2
          rw [e1] at hV; clear e1
          refine m_astore_q (lv' := [(5, va_rf (((ltS (markS σ) g (kN (markS σ) 62 2))).map (L 3))), (4, va_rf (((lgS (markS σ) g (kN (markS σ) 62 1))).map (L 2))), (1, .null), (0, .ref (L 0 0)), (2, .ref (L 2 g)), (3, .int (nI i))]) hx hb dX4_pickDownTheTree_40 hl (by decide) (by first | rfl | simp [rf_cat, ct_ref, ct_int, ct_long]) (fun ls hl => ?_)
          refine m_aload_q hx hb dX4_pickDownTheTree_42 (lv_at hl 1 rfl) ?_
          refine m_ifnull_q (o := (lgS (markS σ) g (kN (markS σ) 62 1))) (f := L 2) (tgt := 66) hx hb dX4_pickDownTheTree_44 (by decide) (fun c44 => ?_) (fun k44 c44 => ?_)
          · replace hl : lv_has ls 6 [(5, va_rf (((ltS (markS σ) g (kN (markS σ) 62 2))).map (L 3))), (4, .null), (1, .null), (0, .ref (L 0 0)), (2, .ref (L 2 g)), (3, .int (nI i))] := by have h9 := hl; rw [c44] at h9; exact h9
            refine m_aload_q hx hb dX4_pickDownTheTree_66 (lv_at hl 0 rfl) ?_
            exact m_aret (v := (((ltS (markS σ) g (kN (markS σ) 62 2))).map (L 3))) hx hb hr hlocks (Or.inl ⟨_, rfl⟩) hV hS (⟨by unfold pdSt; rw [c6]; exact hC, by rw [pdO_n c6, ← hf, show 6 - i = (6 - (i + 1)) + 1 by omega, pdL, c44]⟩) dX4_pickDownTheTree_68
          · have bk44 := lgS_lt c44
            replace hl : lv_has ls 6 [(5, va_rf (((ltS (markS σ) g (kN (markS σ) 62 2))).map (L 3))), (4, .ref (L 2 k44)), (1, .null), (0, .ref (L 0 0)), (2, .ref (L 2 g)), (3, .int (nI i))] := by have h9 := hl; rw [c44] at h9; exact h9
            refine m_aload_q hx hb dX4_pickDownTheTree_47 (lv_at hl 0 rfl) ?_
            refine m_ifnull_q (o := (ltS (markS σ) g (kN (markS σ) 62 2))) (f := L 3) (tgt := 69) hx hb dX4_pickDownTheTree_49 (by decide) (fun c49 => ?_) (fun k49 c49 => ?_)
            · replace hl : lv_has ls 6 [(5, .null), (4, .ref (L 2 k44)), (1, .null), (0, .ref (L 0 0)), (2, .ref (L 2 g)), (3, .int (nI i))] := by have h9 := hl; rw [c49] at h9; exact h9
              refine lv_aload hx hb dX4_pickDownTheTree_69 (lv_at hl 1 rfl) ?_
              refine lv_astore_n (lv' := [(2, .ref (L 2 k44)), (5, .null), (4, .ref (L 2 k44)), (1, .null), (0, .ref (L 0 0)), (3, .int (nI i))]) hx hb dX4_pickDownTheTree_71 rfl hl (by decide) rfl (fun ls hl => ?_)
              refine lv_iinc (v := nI (i + 1)) (lv' := [(3, .int (nI (i + 1))), (2, .ref (L 2 k44)), (5, .null), (4, .ref (L 2 k44)), (1, .null), (0, .ref (L 0 0))]) hx hb dX4_pickDownTheTree_72 hl (k := 5) rfl (show nI i + Int32.ofInt 1 = _ from nI_add i 1) (by decide) rfl (fun ls hl => ?_)
              refine lv_goto (tgt := 22) hx hb dX4_pickDownTheTree_75 (by decide) ?_
              have w9 : pdL (markS σ) (6 - (i + 1)) k44 = pdL (markS σ) 6 0 := by rw [← hf, show 6 - i = (6 - (i + 1)) + 1 by omega, pdL, c44, c49]
              exact ih22 (i + 1) k44 (by omega) (by omega) w9 (by omega) _ _ _ hC hV hS ls (lv_sub hl [4, 5, 1, 0] rfl)
            · have bk49 := ltS_lt c49
              replace hl : lv_has ls 6 [(5, .ref (L 3 k49)), (4, .ref (L 2 k44)), (1, .null), (0, .ref (L 0 0)), (2, .ref (L 2 g)), (3, .int (nI i))] := by have h9 := hl; rw [c49] at h9; exact h9
              refine lv_aload hx hb dX4_pickDownTheTree_52 (lv_at hl 0 rfl) ?_
              refine m_getN (C := RX3) (T := TX3) (N := 16) (host := "TaskKernel") hx hb hts hi_X3 hown hK hV 3 (v := .long (kW (markS σ) 33 k49)) (g_task3 hC (by first | assumption | (show k49 < kN (markS σ) 62 2; omega))) rfl (by decide) kn191 (fun _ h9 => h9) dX4_pickDownTheTree_54 ?_
              refine lv_aload hx hb dX4_pickDownTheTree_57 (lv_at hl 1 rfl) ?_
              refine m_getN (C := RX1) (T := TX1) (N := 6) (host := "TaskKernel") hx hb hts hi_X1 hown hK hV 3 (v := .long (kW (markS σ) 23 k44)) (g_grp3 hC (by first | assumption | (show k44 < kN (markS σ) 62 1; omega))) rfl (by decide) kn197 (fun _ h9 => h9) dX4_pickDownTheTree_59 ?_
              refine m_lcmp_ge (tgt := 69) hx hb dX4_pickDownTheTree_62 dX4_pickDownTheTree_63 (by decide) (fun c63 => ?_) (fun c63 => ?_)
              · refine lv_aload hx hb dX4_pickDownTheTree_69 (lv_at hl 1 rfl) ?_
                refine lv_astore_n (lv' := [(2, .ref (L 2 k44)), (5, .ref (L 3 k49)), (4, .ref (L 2 k44)), (1, .null), (0, .ref (L 0 0)), (3, .int (nI i))]) hx hb dX4_pickDownTheTree_71 rfl hl (by decide) rfl (fun ls hl => ?_)
                refine lv_iinc (v := nI (i + 1)) (lv' := [(3, .int (nI (i + 1))), (2, .ref (L 2 k44)), (5, .ref (L 3 k49)), (4, .ref (L 2 k44)), (1, .null), (0, .ref (L 0 0))]) hx hb dX4_pickDownTheTree_72 hl (k := 5) rfl (show nI i + Int32.ofInt 1 = _ from nI_add i 1) (by decide) rfl (fun ls hl => ?_)
                refine lv_goto (tgt := 22) hx hb dX4_pickDownTheTree_75 (by decide) ?_
                have w9 : pdL (markS σ) (6 - (i + 1)) k44 = pdL (markS σ) 6 0 := by rw [← hf, show 6 - i = (6 - (i + 1)) + 1 by omega, pdL, c44, c49]; dsimp only; rw [if_neg (Int64.not_lt.mpr c63)]
                exact ih22 (i + 1) k44 (by omega) (by omega) w9 (by omega) _ _ _ hC hV hS ls (lv_sub hl [4, 5, 1, 0] rfl)
              · refine lv_aload hx hb dX4_pickDownTheTree_66 (lv_at hl 0 rfl) ?_
                exact m_aret (v := (some (L 3 k49))) hx hb hr hlocks (Or.inl ⟨_, rfl⟩) hV hS (⟨by unfold pdSt; rw [c6]; exact hC, by rw [pdO_n c6, ← hf, show 6 - i = (6 - (i + 1)) + 1 by omega, pdL, c44, c49]; dsimp only; rw [if_pos (Int64.not_le.mp c63)]; rfl⟩) dX4_pickDownTheTree_68
    have q1 : 0 = nI 0 := rfl
    replace hl : lv_has ls 6 [(3, .int (nI 0)), (2, .ref (L 2 0)), (1, .null), (0, .ref (L 0 0))] := (congrArg (lv_has ls 6) (m_lc (congrArg Value.int q1) (m_lc rfl (m_lc rfl (m_lc rfl rfl))))).mp hl
    exact lp22 ((6 - 0) + 1) 0 0 (Nat.zero_le _) (by omega) rfl (Nat.lt_succ_self _) _ _ _ hC hV hS ls (lv_sub hl [2, 3, 1, 0] rfl)
  · have bk6 := muS_lt c6
    replace hl : lv_has ls 6 [(1, .ref (L 3 k6)), (0, .ref (L 0 0))] := by have h9 := hl; rw [c6] at h9; exact h9
    refine lv_aload_n hx hb dX4_pickDownTheTree_9 rfl (lv_at hl 0 rfl) ?_
    exact m_aret (v := (some (L 3 k6))) hx hb hr hlocks (Or.inl ⟨_, rfl⟩) hV hS (⟨by unfold pdSt; rw [c6]; exact hC, by unfold pdO; rw [c6]; rfl⟩) dX4_pickDownTheTree_10
