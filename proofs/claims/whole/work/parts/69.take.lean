set_option maxHeartbeats 4000000 in
set_option maxRecDepth 100000 in
theorem c_X4_take2 {l : Launch} (hfl : l.stackTraces = false) {D : va_G} {cs : mC} {df : Nat} {P : Nat → Prop} {h0 : mH} {L : KL} {σ : KS} {hh : mH} (sz : Nat) (hC : CRep cs df P h0 L σ hh) (x0 : Int32) (x1 : Int32) (hz : ∀ w, w < 4 → kN σ 62 (4 + w) ≤ 50) : vx_Met l yX4_take wsX4_take ({ frames := 7, cells := 1, slots := 200, locals := 191 }) (mPre [.ref (L 0 0), .int x0, .int x1] D cs df hh sz) (va_Qi ((fun (r : Int32) (h1 : mH) => ∃ t w, inR x0 (kN σ 62 2) = some t ∧ inR x1 (kN σ 62 3) = some w ∧ kB σ 36 t = false ∧ kO σ 42 t = none ∧ kO σ 50 w ≠ some t ∧ ((kO σ 50 w = none ∧ CRep cs df P h0 L (sO σ 50 (va_up (kO σ 50) w (some t))) h1 ∧ r = 1) ∨ ∃ k, kO σ 50 w = some k ∧ weS t σ 12 (hbS σ k) = false ∧ CRep cs df P h0 L (lAdd (sO σ 42 (va_up (kO σ 42) t (some w))) (4 + w) t) h1 ∧ r = 0))) (mB D hh sz) (mA hh sz)) (mX D hh sz (fun E h1 => h1 = hh ∧ (E = "java/util/NoSuchElementException" ∧ inR x0 (kN σ 62 2) = none ∨ E = "java/lang/IndexOutOfBoundsException" ∧ (∃ t, inR x0 (kN σ 62 2) = some t ∧ inR x1 (kN σ 62 3) = none) ∨ E = "java/lang/IllegalStateException" ∧ (∃ t w, inR x0 (kN σ 62 2) = some t ∧ inR x1 (kN σ 62 3) = some w ∧ (kB σ 36 t = true ∨ kO σ 42 t ≠ none ∨ kO σ 50 w = some t)) ∨ E = "java/lang/UnsupportedOperationException" ∧ ∃ t w k, inR x0 (kN σ 62 2) = some t ∧ inR x1 (kN σ 62 3) = some w ∧ kB σ 36 t = false ∧ kO σ 42 t = none ∧ kO σ 50 w ≠ some t ∧ kO σ 50 w = some k ∧ weS t σ 12 (hbS σ k) = true))) 1 200 (mA hh sz) := by
  refine vx_ofW (cc := cX4_take) (maxL := 5) (ret := (some .boolean)) (by decide) rfl ?_
  intro p e s m args below meth c s₁ B0 hml hnx hv
  obtain ⟨hargs, hsz, hV, hE⟩ := hv
  subst hsz
  have hx := B0.exec
  have hb := B0.bytes
  have hr := B0.returns
  have hlocks := B0.notSynchronized
  have hts := atoms_spec (ws := wsX4_take) B0.pre
  have hown : s.vm.findClass RX4 = some m.cls := findClass_of_methodNamed B0.named
  have hK := hE.1.1
  have hA : ∀ q : Nat, s.heap.size ≤ q → mA hh s.heap.size q := mA.top
  have hS : va_S (mA hh s.heap.size) s.heap s.heap [] := va_S.rf
  have hi_X3 : ∀ w ∈ u_ws RX3 TX3 16, w ∈ wsX4_take := by decide +kernel
  have kn158 : va_Nw (.fieldLinkNest RX4 158 "TaskKernel$Task" "ended" "Z" "TaskKernel") s := hE.1.2.1 _ (List.mem_of_getElem? (i := 17) rfl)
  have kc73 : (Cond.classLink RX4 73 "java/lang/IllegalStateException").before args s = true := hts _ (by decide +kernel)
  have kn183 : va_Nw (.fieldLinkNest RX4 183 "TaskKernel$Task" "awaited" "LTaskKernel$Lock;" "TaskKernel") s := hE.1.2.1 _ (List.mem_of_getElem? (i := 23) rfl)
  have hi_X2 : ∀ w ∈ u_ws RX2 TX2 2, w ∈ wsX4_take := by decide +kernel
  have kn175 : va_Nw (.fieldLinkNest RX4 175 "TaskKernel$Lock" "holder" "LTaskKernel$Task;" "TaskKernel") s := hE.1.2.1 _ (List.mem_of_getElem? (i := 6) rfl)
  have kn242 : va_Nw (.fieldLinkNest RX4 242 "TaskKernel$Lock" "waiters" "Ljava/util/ArrayList;" "TaskKernel") s := hE.1.2.1 _ (List.mem_of_getElem? (i := 7) rfl)
  have kc132 : (Cond.classLink RX4 132 "java/lang/UnsupportedOperationException").before args s = true := hts _ (by decide +kernel)
  have kc91 : (Cond.classLink RX4 91 "java/lang/IndexOutOfBoundsException").before args s = true := hts _ (by decide +kernel)
  have kc153 : (Cond.classLink RX4 153 "java/util/NoSuchElementException").before args s = true := hts _ (by decide +kernel)
  have hl := lv_entry ([.ref (L 0 0), .int x0, .int x1]) (n := 5) (by first | exact Nat.le_of_ble_eq_true rfl | simp [lg_sl, rf_cat, ct_ref, ct_int, ct_null, ct_long])
  have hent := lg_entry_eq m ([.ref (L 0 0), .int x0, .int x1]) 5
  rw [← hargs] at hent
  rw [hent]
  generalize (lg_sl ([.ref (L 0 0), .int x0, .int x1]) ++ List.replicate (5 - (lg_sl ([.ref (L 0 0), .int x0, .int x1])).length) Slot.unset).toArray = ls at hl ⊢
  replace hl : lv_has ls 5 [(0, .ref (L 0 0)), (1, .int x0), (2, .int x1)] := hl
  have hwf := hC.wf
  obtain ⟨⟨z0, z1, z2, z3, z4⟩, z5, z6, z7, z8, z9, z10, z11, z12⟩ := hwf
  refine lv_aload_n hx hb dX4_take_0 rfl (lv_at hl 0 rfl) ?_
  refine lv_iload_n hx hb dX4_take_1 rfl (lv_at hl 1 rfl) ?_
  refine m_callq (va_runV (As := [.int x0]) (rest := []) ⟨hx, hb, hml, hown, hts⟩ (c_X4_taskAt (l := l) (s.heap.size) hC x0) (cwV 1 hts gX4_take_X4_taskAt rfl rfl rfl (by decide +kernel) ⟨by decide, by decide⟩) (m_preV (r := (RX4, TX4, 11)) hE hV hS hA (hC.at (k := 0) (i := 0) rfl) rfl) rfl rfl hl.1 rfl (lv_room (by first | exact Nat.le_of_ble_eq_true rfl | simp [rf_cat, ct_ref, ct_int, ct_null, ct_long])) dX4_take_2 ⟨by decide, by decide⟩) hV hS hA (fun r h1 H locs hV hS hp _ => ?_)
  obtain ⟨e1, e2⟩ := hp
  subst e2
  rw [e1] at hV; clear e1
  refine m_astore_nq (i := 3) (lv' := [(3, va_rf (((inR x0 (kN σ 62 2))).map (L 3))), (0, .ref (L 0 0)), (1, .int x0), (2, .int x1)]) hx hb dX4_take_5 rfl hl (by decide) (by first | rfl | simp [rf_cat, ct_ref, ct_int, ct_long]) (fun ls hl => ?_)
  refine m_aload_nq hx hb dX4_take_6 rfl (lv_at hl 0 rfl) ?_
  refine m_ifnonnull_q (o := (inR x0 (kN σ 62 2))) (f := L 3) (tgt := 20) hx hb dX4_take_7 (by decide) (fun k7 c7 => ?_) (fun c7 => ?_)
  · have bk7 := (inR_some c7).2
    replace hl : lv_has ls 5 [(3, .ref (L 3 k7)), (0, .ref (L 0 0)), (1, .int x0), (2, .int x1)] := by have h9 := hl; rw [c7] at h9; exact h9
    refine lv_aload_n hx hb dX4_take_20 rfl (lv_at hl 1 rfl) ?_
    refine lv_iload_n hx hb dX4_take_21 rfl (lv_at hl 3 rfl) ?_
    refine m_callq (va_runV (As := [.int x1]) (rest := []) ⟨hx, hb, hml, hown, hts⟩ (c_X4_lockAt (l := l) (H.size) hC x1) (cwV 1 hts gX4_take_X4_lockAt rfl rfl rfl (by decide +kernel) ⟨by decide, by decide⟩) (m_preV (r := (RX4, TX4, 11)) hE hV hS hA (hC.at (k := 0) (i := 0) rfl) rfl) rfl rfl hl.1 rfl (lv_room (by first | exact Nat.le_of_ble_eq_true rfl | simp [rf_cat, ct_ref, ct_int, ct_null, ct_long])) dX4_take_22 ⟨by decide, by decide⟩) hV hS hA (fun r h1 H locs hV hS hp _ => ?_)
    obtain ⟨e1, e2⟩ := hp
    subst e2
    rw [e1] at hV; clear e1
    refine m_astore_q (lv' := [(4, va_rf (((inR x1 (kN σ 62 3))).map (L 4))), (3, .ref (L 3 k7)), (0, .ref (L 0 0)), (1, .int x0), (2, .int x1)]) hx hb dX4_take_25 hl (by decide) (by first | rfl | simp [rf_cat, ct_ref, ct_int, ct_long]) (fun ls hl => ?_)
    refine m_aload_q hx hb dX4_take_27 (lv_at hl 0 rfl) ?_
    refine m_ifnonnull_q (o := (inR x1 (kN σ 62 3))) (f := L 4) (tgt := 42) hx hb dX4_take_29 (by decide) (fun k29 c29 => ?_) (fun c29 => ?_)
    · have bk29 := (inR_some c29).2
      replace hl : lv_has ls 5 [(4, .ref (L 4 k29)), (3, .ref (L 3 k7)), (0, .ref (L 0 0)), (1, .int x0), (2, .int x1)] := by have h9 := hl; rw [c29] at h9; exact h9
      refine lv_aload_n hx hb dX4_take_42 rfl (lv_at hl 1 rfl) ?_
      refine m_getN (C := RX3) (T := TX3) (N := 16) (host := "TaskKernel") hx hb hts hi_X3 hown hK hV 6 (v := .int (bI (kB σ 36 k7))) (g_task6 hC (by first | assumption | (show k7 < kN σ 62 2; omega))) rfl (by decide) kn158 (fun _ h9 => h9) dX4_take_43 ?_
      refine lv_if_ne (tgt := 65) hx hb dX4_take_46 (by decide) (fun c46 => ?_) (fun c46 => ?_)
      · replace c46 : kB σ 36 k7 = true := bI_1.mp c46
        exact m_throw hx hb hfl (own := RX4) (cls := "java/lang/IllegalStateException") (text := "the task has ended, waits, or holds this lock") (names := ["java/lang/RuntimeException", "java/lang/Exception"]) (ik := 73) (is := 234) (ic := 77) hown (by decide) (by decide) kc73 (hts _ (by decide +kernel)) (hE.1.2.2.2.1 _ (List.mem_of_getElem? (i := 17) rfl)) (m_hat hE (by decide +kernel) hts) (by decide +kernel) hE hV hS (by rw [hml]; exact hl.1) dX4_take_65 dX4_take_68 dX4_take_69 dX4_take_71 dX4_take_74 hnx (by decide) (by decide) (by decide) (by decide) hlocks (⟨rfl, Or.inr (Or.inr (Or.inl ⟨rfl, k7, k29, c7, c29, Or.inl c46⟩))⟩) (by decide) (by decide)
      · replace c46 : kB σ 36 k7 = false := bI_0.mp c46
        refine lv_aload_n hx hb dX4_take_49 rfl (lv_at hl 1 rfl) ?_
        refine m_getN (C := RX3) (T := TX3) (N := 16) (host := "TaskKernel") hx hb hts hi_X3 hown hK hV 12 (v := va_rf ((kO σ 42 k7).map (L 4))) (g_task12 hC (by first | assumption | (show k7 < kN σ 62 2; omega))) rfl (by decide) kn183 (fun _ h9 => h9) dX4_take_50 ?_
        refine m_ifnonnull_q (o := (kO σ 42 k7)) (f := L 4) (tgt := 65) hx hb dX4_take_53 (by decide) (fun k53 c53 => ?_) (fun c53 => ?_)
        · have bk53 : k53 < 4 := hC.wf.2.2.2.2.2.2.1 k7 (by first | assumption | (show k7 < kN σ 62 2; omega)) _ c53
          exact m_throw hx hb hfl (own := RX4) (cls := "java/lang/IllegalStateException") (text := "the task has ended, waits, or holds this lock") (names := ["java/lang/RuntimeException", "java/lang/Exception"]) (ik := 73) (is := 234) (ic := 77) hown (by decide) (by decide) kc73 (hts _ (by decide +kernel)) (hE.1.2.2.2.1 _ (List.mem_of_getElem? (i := 17) rfl)) (m_hat hE (by decide +kernel) hts) (by decide +kernel) hE hV hS (by rw [hml]; exact hl.1) dX4_take_65 dX4_take_68 dX4_take_69 dX4_take_71 dX4_take_74 hnx (by decide) (by decide) (by decide) (by decide) hlocks (⟨rfl, Or.inr (Or.inr (Or.inl ⟨rfl, k7, k29, c7, c29, Or.inr (Or.inl (fun q => nomatch (c53.symm.trans q)))⟩))⟩) (by decide) (by decide)
        · refine lv_aload hx hb dX4_take_56 (lv_at hl 0 rfl) ?_
          refine m_getN (C := RX2) (T := TX2) (N := 2) (host := "TaskKernel") hx hb hts hi_X2 hown hK hV 0 (v := va_rf ((kO σ 50 k29).map (L 3))) (g_lock0 hC (show k29 < 4 by omega)) rfl (by decide) kn175 (fun _ h9 => h9) dX4_take_58 ?_
          refine lv_aload_n hx hb dX4_take_61 rfl (lv_at hl 1 rfl) ?_
          refine lv_acmp_ne (rx := ((kO σ 50 k29).map (L 3))) (ry := (some (L 3 k7))) (tgt := 75) hx hb dX4_take_62 (by decide) (fun c62 => ?_) (fun c62 => ?_)
          · replace c62 : ¬ kO σ 50 k29 = some k7 := fun q9 => c62 (((map_inj (f := L 3) (t := k7) (fun k9 h9 e9 => (hC.inj (k := 3) (k2 := 3) ((hC.wf.2.2.2.2.2.2.2.2 k29 (show k29 < 4 by omega)) k9 h9) (by first | assumption | (show k7 < kN σ 62 2; omega)) e9).2)).mpr q9))
            refine lv_aload hx hb dX4_take_75 (lv_at hl 0 rfl) ?_
            refine m_getN (C := RX2) (T := TX2) (N := 2) (host := "TaskKernel") hx hb hts hi_X2 hown hK hV 0 (v := va_rf ((kO σ 50 k29).map (L 3))) (g_lock0 hC (show k29 < 4 by omega)) rfl (by decide) kn175 (fun _ h9 => h9) dX4_take_77 ?_
            refine m_ifnonnull_q (o := (kO σ 50 k29)) (f := L 3) (tgt := 91) hx hb dX4_take_80 (by decide) (fun k80 c80 => ?_) (fun c80 => ?_)
            · have bk80 : k80 < kN σ 62 2 := hC.wf.2.2.2.2.2.2.2.2 k29 (show k29 < 4 by omega) _ c80
              refine lv_aload hx hb dX4_take_91 (lv_at hl 0 rfl) ?_
              refine m_getN (C := RX2) (T := TX2) (N := 2) (host := "TaskKernel") hx hb hts hi_X2 hown hK hV 0 (v := .ref (L 3 k80)) ((by have g9 := g_lock0 hC (show k29 < 4 by omega); rw [c80] at g9; exact g9)) rfl (by decide) kn175 (fun _ h9 => h9) dX4_take_93 ?_
              refine lv_aload_n hx hb dX4_take_96 rfl (lv_at hl 1 rfl) ?_
              refine m_calli (va_runS (As := [.ref (L 3 k80), .ref (L 3 k7)]) (rest := []) ⟨hx, hb, hml, hown, hts⟩ (c_X4_waitsInTheEndFor (l := l) (H.size) hC k80 k7 (by first | assumption | omega) (by first | assumption | omega)) (va_cwS 2 hts gX4_take_X4_waitsInTheEndFor rfl rfl rfl (by decide +kernel) ⟨by decide, by decide⟩) (m_preS hE hV hS hA) rfl rfl hl.1 rfl (lv_room (by first | exact Nat.le_of_ble_eq_true rfl | simp [rf_cat, ct_ref, ct_int, ct_null, ct_long])) dX4_take_97 ⟨by decide, by decide⟩) hV hS hA (fun r h1 H locs hV hS hp _ => ?_)
              obtain ⟨e1, e2⟩ := hp
              subst e2
              rw [e1] at hV; clear e1
              refine lv_if_eq (tgt := 113) hx hb dX4_take_100 (by decide) (fun c100 => ?_) (fun c100 => ?_)
              · replace c100 : (weS k7 σ 12 (hbS σ k80)) = false := bI_0.mp c100
                refine lv_aload_n hx hb dX4_take_113 rfl (lv_at hl 1 rfl) ?_
                refine lv_aload hx hb dX4_take_114 (lv_at hl 0 rfl) ?_
                refine m_putN (host := "TaskKernel") (C := RX3) (T := TX3) (N := 16) (v := va_rf (((some k29)).map (L 4))) hx hb hts hi_X3 tyX3 tyX3_ok nmX3 hown hK hV hS 12 (p_task12 hC (by first | assumption | (show k7 < kN σ 62 2; omega)) (some k29) (fun t z => by cases z; first | assumption | omega)) rfl (by decide) kn183 (fun _ h9 => h9) rfl (tyX3_ok 12 (by decide)) (rf_narrow _ _) (rf_fits _ _) dX4_take_116 (fun h H locs hV hS hC => ?_)
                refine lv_aload hx hb dX4_take_119 (lv_at hl 0 rfl) ?_
                refine m_getN (C := RX2) (T := TX2) (N := 2) (host := "TaskKernel") hx hb hts hi_X2 hown hK hV 1 (v := .ref (L 5 (4 + k29))) (g_lock1 hC (show k29 < 4 by omega)) rfl (by decide) kn242 (fun _ h9 => h9) dX4_take_121 ?_
                refine lv_aload_n hx hb dX4_take_124 rfl (lv_at hl 1 rfl) ?_
                refine m_calli (va_runV (As := [.ref (L 3 k7)]) (rest := []) ⟨hx, hb, hml, hown, hts⟩ (l_addW (H.size) hC k29 k7 (by omega) (hz k29 (by omega)) (by first | assumption | (show k7 < kN σ 62 2; omega))) (cwV 1 hts gX4_take_Jx4a65c_add_9ea2d rfl rfl rfl (by decide +kernel) ⟨by decide, by decide⟩) (m_preV (r := (RJx4a65c, TJx4a65c, 3)) hE hV hS hA (CRep.atL hC (j := (4 + k29)) (by omega)) rfl) rfl rfl hl.1 rfl (lv_room (by first | exact Nat.le_of_ble_eq_true rfl | simp [rf_cat, ct_ref, ct_int, ct_null, ct_long])) dX4_take_125 ⟨by decide, by decide⟩) hV hS hA (fun r h1 H locs hV hS hp _ => ?_)
                obtain ⟨hC, e2⟩ := hp
                subst e2
                refine lv_pop hx hb dX4_take_128 rfl ?_
                refine lv_iconst (v := 0) hx hb dX4_take_129 (by decide) ?_
                exact vx_ret (m_zret (v := 0) hx hb hr hlocks (by decide) hV hS (⟨k7, k29, c7, c29, c46, c53, c62, Or.inr ⟨k80, c80, c100, hC, rfl⟩⟩) dX4_take_130)
              · replace c100 : (weS k7 σ 12 (hbS σ k80)) = true := bI_1.mp c100
                exact m_throw hx hb hfl (own := RX4) (cls := "java/lang/UnsupportedOperationException") (text := "the tasks would wait for one another") (names := ["java/lang/RuntimeException", "java/lang/Exception"]) (ik := 132) (is := 240) (ic := 136) hown (by decide) (by decide) kc132 (hts _ (by decide +kernel)) (hE.1.2.2.2.1 _ (List.mem_of_getElem? (i := 18) rfl)) (m_hat hE (by decide +kernel) hts) (by decide +kernel) hE hV hS (by rw [hml]; exact hl.1) dX4_take_103 dX4_take_106 dX4_take_107 dX4_take_109 dX4_take_112 hnx (by decide) (by decide) (by decide) (by decide) hlocks (⟨rfl, Or.inr (Or.inr (Or.inr ⟨rfl, k7, k29, k80, c7, c29, c46, c53, c62, c80, c100⟩))⟩) (by decide) (by decide)
            · refine lv_aload hx hb dX4_take_83 (lv_at hl 0 rfl) ?_
              refine lv_aload_n hx hb dX4_take_85 rfl (lv_at hl 1 rfl) ?_
              refine m_putN (host := "TaskKernel") (C := RX2) (T := TX2) (N := 2) (v := va_rf (((some k7)).map (L 3))) hx hb hts hi_X2 tyX2 tyX2_ok nmX2 hown hK hV hS 0 (p_lock0 hC (show k29 < 4 by omega) (some k7) (fun t z => by cases z; first | assumption | omega)) rfl (by decide) kn175 (fun _ h9 => h9) rfl (tyX2_ok 0 (by decide)) (rf_narrow _ _) (rf_fits _ _) dX4_take_86 (fun h H locs hV hS hC => ?_)
              refine lv_iconst (v := 1) hx hb dX4_take_89 (by decide) ?_
              refine W.widen (k := 1) (n := 200) (by decide) (by first | decide | omega) ?_
              exact vx_ret (m_zret (v := 1) hx hb hr hlocks (by decide) hV hS (⟨k7, k29, c7, c29, c46, c53, c62, Or.inl ⟨c80, hC, rfl⟩⟩) dX4_take_90)
          · replace c62 : kO σ 50 k29 = some k7 := (map_inj (f := L 3) (t := k7) (fun k9 h9 e9 => (hC.inj (k := 3) (k2 := 3) ((hC.wf.2.2.2.2.2.2.2.2 k29 (show k29 < 4 by omega)) k9 h9) (by first | assumption | (show k7 < kN σ 62 2; omega)) e9).2)).mp c62
            exact m_throw hx hb hfl (own := RX4) (cls := "java/lang/IllegalStateException") (text := "the task has ended, waits, or holds this lock") (names := ["java/lang/RuntimeException", "java/lang/Exception"]) (ik := 73) (is := 234) (ic := 77) hown (by decide) (by decide) kc73 (hts _ (by decide +kernel)) (hE.1.2.2.2.1 _ (List.mem_of_getElem? (i := 17) rfl)) (m_hat hE (by decide +kernel) hts) (by decide +kernel) hE hV hS (by rw [hml]; exact hl.1) dX4_take_65 dX4_take_68 dX4_take_69 dX4_take_71 dX4_take_74 hnx (by decide) (by decide) (by decide) (by decide) hlocks (⟨rfl, Or.inr (Or.inr (Or.inl ⟨rfl, k7, k29, c7, c29, Or.inr (Or.inr c62)⟩))⟩) (by decide) (by decide)
    · replace hl : lv_has ls 5 [(4, .null), (3, .ref (L 3 k7)), (0, .ref (L 0 0)), (1, .int x0), (2, .int x1)] := by have h9 := hl; rw [c29] at h9; exact h9
      exact m_throw hx hb hfl (own := RX4) (cls := "java/lang/IndexOutOfBoundsException") (text := "there is no such lock") (names := ["java/lang/RuntimeException", "java/lang/Exception"]) (ik := 91) (is := 232) (ic := 95) hown (by decide) (by decide) kc91 (hts _ (by decide +kernel)) (hE.1.2.2.2.1 _ (List.mem_of_getElem? (i := 16) rfl)) (m_hat hE (by decide +kernel) hts) (by decide +kernel) hE hV hS (by rw [hml]; exact hl.1) dX4_take_32 dX4_take_35 dX4_take_36 dX4_take_38 dX4_take_41 hnx (by decide) (by decide) (by decide) (by decide) hlocks (⟨rfl, Or.inr (Or.inl ⟨rfl, k7, c7, c29⟩)⟩) (by decide) (by decide)
  · replace hl : lv_has ls 5 [(3, .null), (0, .ref (L 0 0)), (1, .int x0), (2, .int x1)] := by have h9 := hl; rw [c7] at h9; exact h9
    exact m_throwX hx hb hfl (own := RX4) (cls := "java/util/NoSuchElementException") (text := "there is no such task") (names := ["java/lang/RuntimeException", "java/lang/Exception"]) (ik := 153) (is := 155) (ic := 157) (ix := 13) (rx := prog_29_method_4_code) (by decide +kernel) (by decide +kernel) (by decide +kernel) (by decide +kernel) hown (by decide) (by decide) kc153 (hts _ (by decide +kernel)) (hE.1.2.2.2.1 _ (List.mem_of_getElem? (i := 11) rfl)) (m_hat hE (by decide +kernel) hts) (by decide +kernel) hE hV hS (by rw [hml]; exact hl.1) dX4_take_10 dX4_take_13 dX4_take_14 dX4_take_16 dX4_take_19 hnx (by decide) (by decide) (by decide) (by decide) hlocks (⟨rfl, Or.inl ⟨rfl, c7⟩⟩) (by decide) (by decide)
