set_option maxHeartbeats 4000000 in
set_option maxRecDepth 100000 in
theorem c_X4_goesBeforeInTheTree {l : Launch} {D : va_G} {cs : mC} {df : Nat} {P : Nat → Prop} {h0 : mH} {L : KL} {σ : KS} {hh : mH} (sz : Nat) (hC : CRep cs df P h0 L σ hh) (a : Nat) (b : Nat) (ha : a < kN σ 62 2) (hb9 : b < kN σ 62 2) : Met l yX4_goesBeforeInTheTree wsX4_goesBeforeInTheTree ({ frames := 0, cells := 0, slots := 0, locals := 0 }) (mPre [.ref (L 3 a), .ref (L 3 b)] D cs df hh sz) (va_Qi ((fun (r : Int32) (h1 : mH) => h1 = hh ∧ r = bI (gtS σ a b))) (mB D hh sz) (mA hh sz)) 0 0 (mA hh sz) := by
  refine Met.ofW (cc := cX4_goesBeforeInTheTree) (maxL := 10) (ret := (some .boolean)) (by decide) rfl ?_
  intro p e s m args below meth c s₁ B0 hml hv
  obtain ⟨hargs, hsz, hV, hE⟩ := hv
  subst hsz
  have hx := B0.exec
  have hb := B0.bytes
  have hr := B0.returns
  have hlocks := B0.notSynchronized
  have hts := atoms_spec (ws := wsX4_goesBeforeInTheTree) B0.pre
  have hown : s.vm.findClass RX4 = some m.cls := findClass_of_methodNamed B0.named
  have hK := hE.1.1
  have hA : ∀ q : Nat, s.heap.size ≤ q → mA hh s.heap.size q := mA.top
  have hS : va_S (mA hh s.heap.size) s.heap s.heap [] := va_S.rf
  have hi_X3 : ∀ w ∈ u_ws RX3 TX3 16, w ∈ wsX4_goesBeforeInTheTree := by decide +kernel
  have kn296 : va_Nw (.fieldLinkNest RX4 296 "TaskKernel$Task" "group" "LTaskKernel$Group;" "TaskKernel") s := hE.1.2.1 _ (List.mem_of_getElem? (i := 12) rfl)
  have hi_X1 : ∀ w ∈ u_ws RX1 TX1 6, w ∈ wsX4_goesBeforeInTheTree := by decide +kernel
  have kn197 : va_Nw (.fieldLinkNest RX4 197 "TaskKernel$Group" "time" "J" "TaskKernel") s := hE.1.2.1 _ (List.mem_of_getElem? (i := 3) rfl)
  have kn349 : va_Nw (.fieldLinkNest RX4 349 "TaskKernel$Group" "number" "I" "TaskKernel") s := hE.1.2.1 _ (List.mem_of_getElem? (i := 0) rfl)
  have kn191 : va_Nw (.fieldLinkNest RX4 191 "TaskKernel$Task" "time" "J" "TaskKernel") s := hE.1.2.1 _ (List.mem_of_getElem? (i := 14) rfl)
  have kn283 : va_Nw (.fieldLinkNest RX4 283 "TaskKernel$Task" "number" "I" "TaskKernel") s := hE.1.2.1 _ (List.mem_of_getElem? (i := 11) rfl)
  have kn290 : va_Nw (.fieldLinkNest RX4 290 "TaskKernel$Group" "parent" "LTaskKernel$Group;" "TaskKernel") s := hE.1.2.1 _ (List.mem_of_getElem? (i := 1) rfl)
  have hl := lv_entry ([.ref (L 3 a), .ref (L 3 b)]) (n := 10) (by first | exact Nat.le_of_ble_eq_true rfl | simp [lg_sl, rf_cat, ct_ref, ct_int, ct_null, ct_long])
  have hent := lg_entry_eq m ([.ref (L 3 a), .ref (L 3 b)]) 10
  rw [← hargs] at hent
  rw [hent]
  generalize (lg_sl ([.ref (L 3 a), .ref (L 3 b)]) ++ List.replicate (10 - (lg_sl ([.ref (L 3 a), .ref (L 3 b)])).length) Slot.unset).toArray = ls at hl ⊢
  replace hl : lv_has ls 10 [(0, .ref (L 3 a)), (1, .ref (L 3 b))] := hl
  have hwf := hC.wf
  obtain ⟨⟨z0, z1, z2, z3, z4⟩, z5, z6, z7, z8, z9, z10, z11, z12⟩ := hwf
  refine lv_aload_n hx hb dX4_goesBeforeInTheTree_0 rfl (lv_at hl 0 rfl) ?_
  refine m_getN (C := RX3) (T := TX3) (N := 16) (host := "TaskKernel") hx hb hts hi_X3 hown hK hV 1 (v := .ref (L 2 (kN σ 31 a))) (g_task1 hC (by first | assumption | (show a < kN σ 62 2; omega))) rfl (by decide) kn296 (fun _ h9 => h9) dX4_goesBeforeInTheTree_1 ?_
  refine lv_astore_n (lv' := [(2, .ref (L 2 (kN σ 31 a))), (0, .ref (L 3 a)), (1, .ref (L 3 b))]) hx hb dX4_goesBeforeInTheTree_4 rfl hl (by decide) rfl (fun ls hl => ?_)
  refine lv_aload_n hx hb dX4_goesBeforeInTheTree_5 rfl (lv_at hl 2 rfl) ?_
  refine m_getN (C := RX3) (T := TX3) (N := 16) (host := "TaskKernel") hx hb hts hi_X3 hown hK hV 1 (v := .ref (L 2 (kN σ 31 b))) (g_task1 hC (by first | assumption | (show b < kN σ 62 2; omega))) rfl (by decide) kn296 (fun _ h9 => h9) dX4_goesBeforeInTheTree_6 ?_
  refine lv_astore_n (lv' := [(3, .ref (L 2 (kN σ 31 b))), (2, .ref (L 2 (kN σ 31 a))), (0, .ref (L 3 a)), (1, .ref (L 3 b))]) hx hb dX4_goesBeforeInTheTree_9 rfl hl (by decide) rfl (fun ls hl => ?_)
  refine lv_null hx hb dX4_goesBeforeInTheTree_10 ?_
  refine lv_astoreN (lv' := [(4, .null), (3, .ref (L 2 (kN σ 31 b))), (2, .ref (L 2 (kN σ 31 a))), (0, .ref (L 3 a)), (1, .ref (L 3 b))]) hx hb dX4_goesBeforeInTheTree_11 hl (by decide) rfl (fun ls hl => ?_)
  refine lv_null hx hb dX4_goesBeforeInTheTree_13 ?_
  refine lv_astoreN (lv' := [(5, .null), (4, .null), (3, .ref (L 2 (kN σ 31 b))), (2, .ref (L 2 (kN σ 31 a))), (0, .ref (L 3 a)), (1, .ref (L 3 b))]) hx hb dX4_goesBeforeInTheTree_14 hl (by decide) rfl (fun ls hl => ?_)
  refine lv_iconst (v := 0) hx hb dX4_goesBeforeInTheTree_16 (by decide) ?_
  refine lv_istore (lv' := [(6, .int 0), (5, .null), (4, .null), (3, .ref (L 2 (kN σ 31 b))), (2, .ref (L 2 (kN σ 31 a))), (0, .ref (L 3 a)), (1, .ref (L 3 b))]) hx hb dX4_goesBeforeInTheTree_17 hl (by decide) rfl (fun ls hl => ?_)
  have lp19 : ∀ (fu : Nat) (i : Nat) (oa : Option Nat) (ob : Option Nat) (x : Option Nat) (y : Option Nat), (i ≤ 12) → (∀ k, oa = some k → k < kN σ 62 1) → (∀ k, ob = some k → k < kN σ 62 1) → (∀ k, x = some k → k < kN σ 62 1) → (∀ k, y = some k → k < kN σ 62 1) → (gbL σ (12 - i) oa ob x y = gtR σ a b) → 12 - i < fu → ∀ (H : Heap) (locs : List Loc), mV D hh (mA hh s.heap.size) H → va_S (mA hh s.heap.size) s.heap H locs → ∀ (ls : Array Slot), lv_has ls 10 [(0, .ref (L 3 a)), (1, .ref (L 3 b)), (2, va_rf ((oa).map (L 2))), (3, va_rf ((ob).map (L 2))), (4, va_rf ((x).map (L 2))), (5, va_rf ((y).map (L 2))), (6, .int (nI i))] → W p l e ({ frames := 0, cells := 0, slots := 0, locals := 0 } : Room) s m args below meth c H locs 0 0 (MQ below (va_Qi ((fun (r : Int32) (h1 : mH) => h1 = hh ∧ r = bI (gtS σ a b))) (mB D hh s.heap.size) (mA hh s.heap.size)) args s 0 0 (mA hh s.heap.size)) (F0 m 19 ls []) := by
    intro fu
    induction fu with
    | zero =>
      intro i oa ob x y hi hoa hob hqx hqy hf hfu
      exact absurd hfu (Nat.not_lt_zero _)
    | succ fu ih19 =>
      intro i oa ob x y hi hoa hob hqx hqy hf hfu H locs hV hS ls hl
      refine lv_iload hx hb dX4_goesBeforeInTheTree_19 (lv_at hl 6 rfl) ?_
      refine lv_bipush (v := 12) hx hb dX4_goesBeforeInTheTree_21 (by decide) ?_
      refine lv_icmp_ge (tgt := 75) hx hb dX4_goesBeforeInTheTree_23 (by decide) (fun c23 => ?_) (fun c23 => ?_)
      · replace c23 : 12 ≤ i := (nI_leI (a := 12) (b := i) (by omega) (by omega)).mp c23
        have hR : gtR σ a b = (x, y) := by rw [← hf, show 12 - i = 0 by omega]; rfl
        refine m_aload_q hx hb dX4_goesBeforeInTheTree_75 (lv_at hl 4 rfl) ?_
        refine m_ifnonnull_q (o := x) (f := L 2) (tgt := 87) hx hb dX4_goesBeforeInTheTree_77 (by decide) (fun k77 c77 => ?_) (fun c77 => ?_)
        · have bk77 := hqx k77 c77
          replace hl : lv_has ls 10 [(0, .ref (L 3 a)), (1, .ref (L 3 b)), (2, va_rf ((oa).map (L 2))), (3, va_rf ((ob).map (L 2))), (4, .ref (L 2 k77)), (5, va_rf ((y).map (L 2))), (6, .int (nI i))] := by have h9 := hl; rw [c77] at h9; exact h9
          refine lv_aload hx hb dX4_goesBeforeInTheTree_87 (lv_at hl 4 rfl) ?_
          refine m_getN (C := RX1) (T := TX1) (N := 6) (host := "TaskKernel") hx hb hts hi_X1 hown hK hV 3 (v := .long (kW σ 23 k77)) (g_grp3 hC (by first | assumption | (show k77 < kN σ 62 1; omega))) rfl (by decide) kn197 (fun _ h9 => h9) dX4_goesBeforeInTheTree_89 ?_
          refine lv_lstore (lv' := [(6, .long (kW σ 23 k77)), (0, .ref (L 3 a)), (1, .ref (L 3 b)), (2, va_rf ((oa).map (L 2))), (3, va_rf ((ob).map (L 2))), (4, .ref (L 2 k77)), (5, va_rf ((y).map (L 2)))]) hx hb dX4_goesBeforeInTheTree_92 hl (by decide) (by first | rfl | simp [rf_cat, ct_ref, ct_int, ct_long]) (fun ls hl => ?_)
          refine m_aload_q hx hb dX4_goesBeforeInTheTree_94 (lv_at hl 6 rfl) ?_
          refine m_ifnonnull_q (o := y) (f := L 2) (tgt := 106) hx hb dX4_goesBeforeInTheTree_96 (by decide) (fun k96 c96 => ?_) (fun c96 => ?_)
          · have bk96 := hqy k96 c96
            replace hl : lv_has ls 10 [(6, .long (kW σ 23 k77)), (0, .ref (L 3 a)), (1, .ref (L 3 b)), (2, va_rf ((oa).map (L 2))), (3, va_rf ((ob).map (L 2))), (4, .ref (L 2 k77)), (5, .ref (L 2 k96))] := by have h9 := hl; rw [c96] at h9; exact h9
            refine lv_aload hx hb dX4_goesBeforeInTheTree_106 (lv_at hl 6 rfl) ?_
            refine m_getN (C := RX1) (T := TX1) (N := 6) (host := "TaskKernel") hx hb hts hi_X1 hown hK hV 3 (v := .long (kW σ 23 k96)) (g_grp3 hC (by first | assumption | (show k96 < kN σ 62 1; omega))) rfl (by decide) kn197 (fun _ h9 => h9) dX4_goesBeforeInTheTree_108 ?_
            refine lv_lstore (lv' := [(8, .long (kW σ 23 k96)), (6, .long (kW σ 23 k77)), (0, .ref (L 3 a)), (1, .ref (L 3 b)), (2, va_rf ((oa).map (L 2))), (3, va_rf ((ob).map (L 2))), (4, .ref (L 2 k77)), (5, .ref (L 2 k96))]) hx hb dX4_goesBeforeInTheTree_111 hl (by decide) (by first | rfl | simp [rf_cat, ct_ref, ct_int, ct_long]) (fun ls hl => ?_)
            refine lv_lload hx hb dX4_goesBeforeInTheTree_113 (lv_at hl 1 rfl) ?_
            refine lv_lload hx hb dX4_goesBeforeInTheTree_115 (lv_at hl 0 rfl) ?_
            refine m_lcmp_eq (tgt := 135) hx hb dX4_goesBeforeInTheTree_117 dX4_goesBeforeInTheTree_118 (by decide) (fun c118 => ?_) (fun c118 => ?_)
            · refine lv_aload hx hb dX4_goesBeforeInTheTree_135 (lv_at hl 6 rfl) ?_
              refine lv_ifnull hx hb dX4_goesBeforeInTheTree_137 ?_
              refine lv_aload hx hb dX4_goesBeforeInTheTree_140 (lv_at hl 7 rfl) ?_
              refine lv_ifnull hx hb dX4_goesBeforeInTheTree_142 ?_
              refine lv_aload hx hb dX4_goesBeforeInTheTree_145 (lv_at hl 6 rfl) ?_
              refine m_getN (C := RX1) (T := TX1) (N := 6) (host := "TaskKernel") hx hb hts hi_X1 hown hK hV 0 (v := .int (nI k77)) (g_grp0 hC (by first | assumption | (show k77 < kN σ 62 1; omega))) rfl (by decide) kn349 (fun _ h9 => h9) dX4_goesBeforeInTheTree_147 ?_
              refine lv_aload hx hb dX4_goesBeforeInTheTree_150 (lv_at hl 7 rfl) ?_
              refine m_getN (C := RX1) (T := TX1) (N := 6) (host := "TaskKernel") hx hb hts hi_X1 hown hK hV 0 (v := .int (nI k96)) (g_grp0 hC (by first | assumption | (show k96 < kN σ 62 1; omega))) rfl (by decide) kn349 (fun _ h9 => h9) dX4_goesBeforeInTheTree_152 ?_
              refine lv_icmp_ge (tgt := 162) hx hb dX4_goesBeforeInTheTree_155 (by decide) (fun c155 => ?_) (fun c155 => ?_)
              · replace c155 : k96 ≤ k77 := (nI_leI (a := k96) (b := k77) (by omega) (by omega)).mp c155
                refine lv_iconst (v := 0) hx hb dX4_goesBeforeInTheTree_162 (by decide) ?_
                exact m_zret (v := 0) hx hb hr hlocks (by decide) hV hS (⟨rfl, by unfold gtS gtE; rw [hR]; simp_all [tmS, bI]⟩) dX4_goesBeforeInTheTree_163
              · replace c155 : ¬ k96 ≤ k77 := fun q9 => c155 ((nI_leI (a := k96) (b := k77) (by omega) (by omega)).mpr q9)
                refine lv_iconst (v := 1) hx hb dX4_goesBeforeInTheTree_158 (by decide) ?_
                refine lv_goto (tgt := 163) hx hb dX4_goesBeforeInTheTree_159 (by decide) ?_
                exact m_zret (v := 1) hx hb hr hlocks (by decide) hV hS (⟨rfl, by unfold gtS gtE; rw [hR]; simp_all [tmS, bI]⟩) dX4_goesBeforeInTheTree_163
            · refine lv_lload hx hb dX4_goesBeforeInTheTree_121 (lv_at hl 1 rfl) ?_
              refine lv_lload hx hb dX4_goesBeforeInTheTree_123 (lv_at hl 0 rfl) ?_
              refine m_lcmp_ge (tgt := 133) hx hb dX4_goesBeforeInTheTree_125 dX4_goesBeforeInTheTree_126 (by decide) (fun c126 => ?_) (fun c126 => ?_)
              · refine lv_iconst (v := 0) hx hb dX4_goesBeforeInTheTree_133 (by decide) ?_
                exact m_zret (v := 0) hx hb hr hlocks (by decide) hV hS (⟨rfl, by unfold gtS gtE; rw [hR]; simp_all [tmS, bI]⟩) dX4_goesBeforeInTheTree_134
              · refine lv_iconst (v := 1) hx hb dX4_goesBeforeInTheTree_129 (by decide) ?_
                refine lv_goto (tgt := 134) hx hb dX4_goesBeforeInTheTree_130 (by decide) ?_
                exact m_zret (v := 1) hx hb hr hlocks (by decide) hV hS (⟨rfl, by unfold gtS gtE; rw [hR]; simp_all [tmS, bI]⟩) dX4_goesBeforeInTheTree_134
          · replace hl : lv_has ls 10 [(6, .long (kW σ 23 k77)), (0, .ref (L 3 a)), (1, .ref (L 3 b)), (2, va_rf ((oa).map (L 2))), (3, va_rf ((ob).map (L 2))), (4, .ref (L 2 k77)), (5, .null)] := by have h9 := hl; rw [c96] at h9; exact h9
            refine lv_aload_n hx hb dX4_goesBeforeInTheTree_99 rfl (lv_at hl 2 rfl) ?_
            refine m_getN (C := RX3) (T := TX3) (N := 16) (host := "TaskKernel") hx hb hts hi_X3 hown hK hV 3 (v := .long (kW σ 33 b)) (g_task3 hC (by first | assumption | (show b < kN σ 62 2; omega))) rfl (by decide) kn191 (fun _ h9 => h9) dX4_goesBeforeInTheTree_100 ?_
            refine lv_goto (tgt := 111) hx hb dX4_goesBeforeInTheTree_103 (by decide) ?_
            refine lv_lstore (lv' := [(8, .long (kW σ 33 b)), (6, .long (kW σ 23 k77)), (0, .ref (L 3 a)), (1, .ref (L 3 b)), (2, va_rf ((oa).map (L 2))), (3, va_rf ((ob).map (L 2))), (4, .ref (L 2 k77)), (5, .null)]) hx hb dX4_goesBeforeInTheTree_111 hl (by decide) (by first | rfl | simp [rf_cat, ct_ref, ct_int, ct_long]) (fun ls hl => ?_)
            refine lv_lload hx hb dX4_goesBeforeInTheTree_113 (lv_at hl 1 rfl) ?_
            refine lv_lload hx hb dX4_goesBeforeInTheTree_115 (lv_at hl 0 rfl) ?_
            refine m_lcmp_eq (tgt := 135) hx hb dX4_goesBeforeInTheTree_117 dX4_goesBeforeInTheTree_118 (by decide) (fun c118 => ?_) (fun c118 => ?_)
            · refine lv_aload hx hb dX4_goesBeforeInTheTree_135 (lv_at hl 6 rfl) ?_
              refine lv_ifnull hx hb dX4_goesBeforeInTheTree_137 ?_
              refine lv_aloadN hx hb dX4_goesBeforeInTheTree_140 (lv_at hl 7 rfl) ?_
              refine lv_ifnullN (tgt := 164) hx hb dX4_goesBeforeInTheTree_142 (by decide) ?_
              refine lv_aload hx hb dX4_goesBeforeInTheTree_164 (lv_at hl 6 rfl) ?_
              refine lv_ifnonnull (tgt := 191) hx hb dX4_goesBeforeInTheTree_166 (by decide) ?_
              refine lv_aload hx hb dX4_goesBeforeInTheTree_191 (lv_at hl 6 rfl) ?_
              refine lv_ifnull hx hb dX4_goesBeforeInTheTree_193 ?_
              refine lv_iconst (v := 1) hx hb dX4_goesBeforeInTheTree_196 (by decide) ?_
              refine lv_goto (tgt := 201) hx hb dX4_goesBeforeInTheTree_197 (by decide) ?_
              exact m_zret (v := 1) hx hb hr hlocks (by decide) hV hS (⟨rfl, by unfold gtS gtE; rw [hR]; simp_all [tmS, bI]⟩) dX4_goesBeforeInTheTree_201
            · refine lv_lload hx hb dX4_goesBeforeInTheTree_121 (lv_at hl 1 rfl) ?_
              refine lv_lload hx hb dX4_goesBeforeInTheTree_123 (lv_at hl 0 rfl) ?_
              refine m_lcmp_ge (tgt := 133) hx hb dX4_goesBeforeInTheTree_125 dX4_goesBeforeInTheTree_126 (by decide) (fun c126 => ?_) (fun c126 => ?_)
              · refine lv_iconst (v := 0) hx hb dX4_goesBeforeInTheTree_133 (by decide) ?_
                exact m_zret (v := 0) hx hb hr hlocks (by decide) hV hS (⟨rfl, by unfold gtS gtE; rw [hR]; simp_all [tmS, bI]⟩) dX4_goesBeforeInTheTree_134
              · refine lv_iconst (v := 1) hx hb dX4_goesBeforeInTheTree_129 (by decide) ?_
                refine lv_goto (tgt := 134) hx hb dX4_goesBeforeInTheTree_130 (by decide) ?_
                exact m_zret (v := 1) hx hb hr hlocks (by decide) hV hS (⟨rfl, by unfold gtS gtE; rw [hR]; simp_all [tmS, bI]⟩) dX4_goesBeforeInTheTree_134
        · replace hl : lv_has ls 10 [(0, .ref (L 3 a)), (1, .ref (L 3 b)), (2, va_rf ((oa).map (L 2))), (3, va_rf ((ob).map (L 2))), (4, .null), (5, va_rf ((y).map (L 2))), (6, .int (nI i))] := by have h9 := hl; rw [c77] at h9; exact h9
          refine lv_aload_n hx hb dX4_goesBeforeInTheTree_80 rfl (lv_at hl 0 rfl) ?_
          refine m_getN (C := RX3) (T := TX3) (N := 16) (host := "TaskKernel") hx hb hts hi_X3 hown hK hV 3 (v := .long (kW σ 33 a)) (g_task3 hC (by first | assumption | (show a < kN σ 62 2; omega))) rfl (by decide) kn191 (fun _ h9 => h9) dX4_goesBeforeInTheTree_81 ?_
          refine lv_goto (tgt := 92) hx hb dX4_goesBeforeInTheTree_84 (by decide) ?_
          refine lv_lstore (lv' := [(6, .long (kW σ 33 a)), (0, .ref (L 3 a)), (1, .ref (L 3 b)), (2, va_rf ((oa).map (L 2))), (3, va_rf ((ob).map (L 2))), (4, .null), (5, va_rf ((y).map (L 2)))]) hx hb dX4_goesBeforeInTheTree_92 hl (by decide) (by first | rfl | simp [rf_cat, ct_ref, ct_int, ct_long]) (fun ls hl => ?_)
          refine m_aload_q hx hb dX4_goesBeforeInTheTree_94 (lv_at hl 6 rfl) ?_
          refine m_ifnonnull_q (o := y) (f := L 2) (tgt := 106) hx hb dX4_goesBeforeInTheTree_96 (by decide) (fun k96 c96 => ?_) (fun c96 => ?_)
          · have bk96 := hqy k96 c96
            replace hl : lv_has ls 10 [(6, .long (kW σ 33 a)), (0, .ref (L 3 a)), (1, .ref (L 3 b)), (2, va_rf ((oa).map (L 2))), (3, va_rf ((ob).map (L 2))), (4, .null), (5, .ref (L 2 k96))] := by have h9 := hl; rw [c96] at h9; exact h9
            refine lv_aload hx hb dX4_goesBeforeInTheTree_106 (lv_at hl 6 rfl) ?_
            refine m_getN (C := RX1) (T := TX1) (N := 6) (host := "TaskKernel") hx hb hts hi_X1 hown hK hV 3 (v := .long (kW σ 23 k96)) (g_grp3 hC (by first | assumption | (show k96 < kN σ 62 1; omega))) rfl (by decide) kn197 (fun _ h9 => h9) dX4_goesBeforeInTheTree_108 ?_
            refine lv_lstore (lv' := [(8, .long (kW σ 23 k96)), (6, .long (kW σ 33 a)), (0, .ref (L 3 a)), (1, .ref (L 3 b)), (2, va_rf ((oa).map (L 2))), (3, va_rf ((ob).map (L 2))), (4, .null), (5, .ref (L 2 k96))]) hx hb dX4_goesBeforeInTheTree_111 hl (by decide) (by first | rfl | simp [rf_cat, ct_ref, ct_int, ct_long]) (fun ls hl => ?_)
            refine lv_lload hx hb dX4_goesBeforeInTheTree_113 (lv_at hl 1 rfl) ?_
            refine lv_lload hx hb dX4_goesBeforeInTheTree_115 (lv_at hl 0 rfl) ?_
            refine m_lcmp_eq (tgt := 135) hx hb dX4_goesBeforeInTheTree_117 dX4_goesBeforeInTheTree_118 (by decide) (fun c118 => ?_) (fun c118 => ?_)
            · refine lv_aloadN hx hb dX4_goesBeforeInTheTree_135 (lv_at hl 6 rfl) ?_
              refine lv_ifnullN (tgt := 164) hx hb dX4_goesBeforeInTheTree_137 (by decide) ?_
              refine lv_aloadN hx hb dX4_goesBeforeInTheTree_164 (lv_at hl 6 rfl) ?_
              refine lv_ifnonnullN hx hb dX4_goesBeforeInTheTree_166 ?_
              refine lv_aload hx hb dX4_goesBeforeInTheTree_169 (lv_at hl 7 rfl) ?_
              refine lv_ifnonnull (tgt := 191) hx hb dX4_goesBeforeInTheTree_171 (by decide) ?_
              refine lv_aloadN hx hb dX4_goesBeforeInTheTree_191 (lv_at hl 6 rfl) ?_
              refine lv_ifnullN (tgt := 200) hx hb dX4_goesBeforeInTheTree_193 (by decide) ?_
              refine lv_iconst (v := 0) hx hb dX4_goesBeforeInTheTree_200 (by decide) ?_
              exact m_zret (v := 0) hx hb hr hlocks (by decide) hV hS (⟨rfl, by unfold gtS gtE; rw [hR]; simp_all [tmS, bI]⟩) dX4_goesBeforeInTheTree_201
            · refine lv_lload hx hb dX4_goesBeforeInTheTree_121 (lv_at hl 1 rfl) ?_
              refine lv_lload hx hb dX4_goesBeforeInTheTree_123 (lv_at hl 0 rfl) ?_
              refine m_lcmp_ge (tgt := 133) hx hb dX4_goesBeforeInTheTree_125 dX4_goesBeforeInTheTree_126 (by decide) (fun c126 => ?_) (fun c126 => ?_)
              · refine lv_iconst (v := 0) hx hb dX4_goesBeforeInTheTree_133 (by decide) ?_
                exact m_zret (v := 0) hx hb hr hlocks (by decide) hV hS (⟨rfl, by unfold gtS gtE; rw [hR]; simp_all [tmS, bI]⟩) dX4_goesBeforeInTheTree_134
              · refine lv_iconst (v := 1) hx hb dX4_goesBeforeInTheTree_129 (by decide) ?_
                refine lv_goto (tgt := 134) hx hb dX4_goesBeforeInTheTree_130 (by decide) ?_
                exact m_zret (v := 1) hx hb hr hlocks (by decide) hV hS (⟨rfl, by unfold gtS gtE; rw [hR]; simp_all [tmS, bI]⟩) dX4_goesBeforeInTheTree_134
          · replace hl : lv_has ls 10 [(6, .long (kW σ 33 a)), (0, .ref (L 3 a)), (1, .ref (L 3 b)), (2, va_rf ((oa).map (L 2))), (3, va_rf ((ob).map (L 2))), (4, .null), (5, .null)] := by have h9 := hl; rw [c96] at h9; exact h9
            refine lv_aload_n hx hb dX4_goesBeforeInTheTree_99 rfl (lv_at hl 2 rfl) ?_
            refine m_getN (C := RX3) (T := TX3) (N := 16) (host := "TaskKernel") hx hb hts hi_X3 hown hK hV 3 (v := .long (kW σ 33 b)) (g_task3 hC (by first | assumption | (show b < kN σ 62 2; omega))) rfl (by decide) kn191 (fun _ h9 => h9) dX4_goesBeforeInTheTree_100 ?_
            refine lv_goto (tgt := 111) hx hb dX4_goesBeforeInTheTree_103 (by decide) ?_
            refine lv_lstore (lv' := [(8, .long (kW σ 33 b)), (6, .long (kW σ 33 a)), (0, .ref (L 3 a)), (1, .ref (L 3 b)), (2, va_rf ((oa).map (L 2))), (3, va_rf ((ob).map (L 2))), (4, .null), (5, .null)]) hx hb dX4_goesBeforeInTheTree_111 hl (by decide) (by first | rfl | simp [rf_cat, ct_ref, ct_int, ct_long]) (fun ls hl => ?_)
            refine lv_lload hx hb dX4_goesBeforeInTheTree_113 (lv_at hl 1 rfl) ?_
            refine lv_lload hx hb dX4_goesBeforeInTheTree_115 (lv_at hl 0 rfl) ?_
            refine m_lcmp_eq (tgt := 135) hx hb dX4_goesBeforeInTheTree_117 dX4_goesBeforeInTheTree_118 (by decide) (fun c118 => ?_) (fun c118 => ?_)
            · refine lv_aloadN hx hb dX4_goesBeforeInTheTree_135 (lv_at hl 6 rfl) ?_
              refine lv_ifnullN (tgt := 164) hx hb dX4_goesBeforeInTheTree_137 (by decide) ?_
              refine lv_aloadN hx hb dX4_goesBeforeInTheTree_164 (lv_at hl 6 rfl) ?_
              refine lv_ifnonnullN hx hb dX4_goesBeforeInTheTree_166 ?_
              refine lv_aloadN hx hb dX4_goesBeforeInTheTree_169 (lv_at hl 7 rfl) ?_
              refine lv_ifnonnullN hx hb dX4_goesBeforeInTheTree_171 ?_
              refine lv_aload_n hx hb dX4_goesBeforeInTheTree_174 rfl (lv_at hl 2 rfl) ?_
              refine m_getN (C := RX3) (T := TX3) (N := 16) (host := "TaskKernel") hx hb hts hi_X3 hown hK hV 0 (v := .int (nI a)) (g_task0 hC (by first | assumption | (show a < kN σ 62 2; omega))) rfl (by decide) kn283 (fun _ h9 => h9) dX4_goesBeforeInTheTree_175 ?_
              refine lv_aload_n hx hb dX4_goesBeforeInTheTree_178 rfl (lv_at hl 3 rfl) ?_
              refine m_getN (C := RX3) (T := TX3) (N := 16) (host := "TaskKernel") hx hb hts hi_X3 hown hK hV 0 (v := .int (nI b)) (g_task0 hC (by first | assumption | (show b < kN σ 62 2; omega))) rfl (by decide) kn283 (fun _ h9 => h9) dX4_goesBeforeInTheTree_179 ?_
              refine lv_icmp_ge (tgt := 189) hx hb dX4_goesBeforeInTheTree_182 (by decide) (fun c182 => ?_) (fun c182 => ?_)
              · replace c182 : b ≤ a := (nI_leI (a := b) (b := a) (by omega) (by omega)).mp c182
                refine lv_iconst (v := 0) hx hb dX4_goesBeforeInTheTree_189 (by decide) ?_
                exact m_zret (v := 0) hx hb hr hlocks (by decide) hV hS (⟨rfl, by unfold gtS gtE; rw [hR]; simp_all [tmS, bI]⟩) dX4_goesBeforeInTheTree_190
              · replace c182 : ¬ b ≤ a := fun q9 => c182 ((nI_leI (a := b) (b := a) (by omega) (by omega)).mpr q9)
                refine lv_iconst (v := 1) hx hb dX4_goesBeforeInTheTree_185 (by decide) ?_
                refine lv_goto (tgt := 190) hx hb dX4_goesBeforeInTheTree_186 (by decide) ?_
                exact m_zret (v := 1) hx hb hr hlocks (by decide) hV hS (⟨rfl, by unfold gtS gtE; rw [hR]; simp_all [tmS, bI]⟩) dX4_goesBeforeInTheTree_190
            · refine lv_lload hx hb dX4_goesBeforeInTheTree_121 (lv_at hl 1 rfl) ?_
              refine lv_lload hx hb dX4_goesBeforeInTheTree_123 (lv_at hl 0 rfl) ?_
              refine m_lcmp_ge (tgt := 133) hx hb dX4_goesBeforeInTheTree_125 dX4_goesBeforeInTheTree_126 (by decide) (fun c126 => ?_) (fun c126 => ?_)
              · refine lv_iconst (v := 0) hx hb dX4_goesBeforeInTheTree_133 (by decide) ?_
                exact m_zret (v := 0) hx hb hr hlocks (by decide) hV hS (⟨rfl, by unfold gtS gtE; rw [hR]; simp_all [tmS, bI]⟩) dX4_goesBeforeInTheTree_134
              · refine lv_iconst (v := 1) hx hb dX4_goesBeforeInTheTree_129 (by decide) ?_
                refine lv_goto (tgt := 134) hx hb dX4_goesBeforeInTheTree_130 (by decide) ?_
                exact m_zret (v := 1) hx hb hr hlocks (by decide) hV hS (⟨rfl, by unfold gtS gtE; rw [hR]; simp_all [tmS, bI]⟩) dX4_goesBeforeInTheTree_134
      · replace c23 : ¬ 12 ≤ i := fun q9 => c23 ((nI_leI (a := 12) (b := i) (by omega) (by omega)).mpr q9)
        refine m_aload_nq hx hb dX4_goesBeforeInTheTree_26 rfl (lv_at hl 2 rfl) ?_
        refine m_ifnull_q (o := oa) (f := L 2) (tgt := 75) hx hb dX4_goesBeforeInTheTree_27 (by decide) (fun c27 => ?_) (fun k27 c27 => ?_)
        · replace hl : lv_has ls 10 [(0, .ref (L 3 a)), (1, .ref (L 3 b)), (2, .null), (3, va_rf ((ob).map (L 2))), (4, va_rf ((x).map (L 2))), (5, va_rf ((y).map (L 2))), (6, .int (nI i))] := by have h9 := hl; rw [c27] at h9; exact h9
          have hR : gtR σ a b = (x, y) := by rw [← hf, c27, gbL_n1]
          refine m_aload_q hx hb dX4_goesBeforeInTheTree_75 (lv_at hl 4 rfl) ?_
          refine m_ifnonnull_q (o := x) (f := L 2) (tgt := 87) hx hb dX4_goesBeforeInTheTree_77 (by decide) (fun k77 c77 => ?_) (fun c77 => ?_)
          · have bk77 := hqx k77 c77
            replace hl : lv_has ls 10 [(0, .ref (L 3 a)), (1, .ref (L 3 b)), (2, .null), (3, va_rf ((ob).map (L 2))), (4, .ref (L 2 k77)), (5, va_rf ((y).map (L 2))), (6, .int (nI i))] := by have h9 := hl; rw [c77] at h9; exact h9
            refine lv_aload hx hb dX4_goesBeforeInTheTree_87 (lv_at hl 4 rfl) ?_
            refine m_getN (C := RX1) (T := TX1) (N := 6) (host := "TaskKernel") hx hb hts hi_X1 hown hK hV 3 (v := .long (kW σ 23 k77)) (g_grp3 hC (by first | assumption | (show k77 < kN σ 62 1; omega))) rfl (by decide) kn197 (fun _ h9 => h9) dX4_goesBeforeInTheTree_89 ?_
            refine lv_lstore (lv' := [(6, .long (kW σ 23 k77)), (0, .ref (L 3 a)), (1, .ref (L 3 b)), (2, .null), (3, va_rf ((ob).map (L 2))), (4, .ref (L 2 k77)), (5, va_rf ((y).map (L 2)))]) hx hb dX4_goesBeforeInTheTree_92 hl (by decide) (by first | rfl | simp [rf_cat, ct_ref, ct_int, ct_long]) (fun ls hl => ?_)
            refine m_aload_q hx hb dX4_goesBeforeInTheTree_94 (lv_at hl 6 rfl) ?_
            refine m_ifnonnull_q (o := y) (f := L 2) (tgt := 106) hx hb dX4_goesBeforeInTheTree_96 (by decide) (fun k96 c96 => ?_) (fun c96 => ?_)
            · have bk96 := hqy k96 c96
              replace hl : lv_has ls 10 [(6, .long (kW σ 23 k77)), (0, .ref (L 3 a)), (1, .ref (L 3 b)), (2, .null), (3, va_rf ((ob).map (L 2))), (4, .ref (L 2 k77)), (5, .ref (L 2 k96))] := by have h9 := hl; rw [c96] at h9; exact h9
              refine lv_aload hx hb dX4_goesBeforeInTheTree_106 (lv_at hl 6 rfl) ?_
              refine m_getN (C := RX1) (T := TX1) (N := 6) (host := "TaskKernel") hx hb hts hi_X1 hown hK hV 3 (v := .long (kW σ 23 k96)) (g_grp3 hC (by first | assumption | (show k96 < kN σ 62 1; omega))) rfl (by decide) kn197 (fun _ h9 => h9) dX4_goesBeforeInTheTree_108 ?_
              refine lv_lstore (lv' := [(8, .long (kW σ 23 k96)), (6, .long (kW σ 23 k77)), (0, .ref (L 3 a)), (1, .ref (L 3 b)), (2, .null), (3, va_rf ((ob).map (L 2))), (4, .ref (L 2 k77)), (5, .ref (L 2 k96))]) hx hb dX4_goesBeforeInTheTree_111 hl (by decide) (by first | rfl | simp [rf_cat, ct_ref, ct_int, ct_long]) (fun ls hl => ?_)
              refine lv_lload hx hb dX4_goesBeforeInTheTree_113 (lv_at hl 1 rfl) ?_
              refine lv_lload hx hb dX4_goesBeforeInTheTree_115 (lv_at hl 0 rfl) ?_
              refine m_lcmp_eq (tgt := 135) hx hb dX4_goesBeforeInTheTree_117 dX4_goesBeforeInTheTree_118 (by decide) (fun c118 => ?_) (fun c118 => ?_)
              · refine lv_aload hx hb dX4_goesBeforeInTheTree_135 (lv_at hl 6 rfl) ?_
                refine lv_ifnull hx hb dX4_goesBeforeInTheTree_137 ?_
                refine lv_aload hx hb dX4_goesBeforeInTheTree_140 (lv_at hl 7 rfl) ?_
                refine lv_ifnull hx hb dX4_goesBeforeInTheTree_142 ?_
                refine lv_aload hx hb dX4_goesBeforeInTheTree_145 (lv_at hl 6 rfl) ?_
                refine m_getN (C := RX1) (T := TX1) (N := 6) (host := "TaskKernel") hx hb hts hi_X1 hown hK hV 0 (v := .int (nI k77)) (g_grp0 hC (by first | assumption | (show k77 < kN σ 62 1; omega))) rfl (by decide) kn349 (fun _ h9 => h9) dX4_goesBeforeInTheTree_147 ?_
                refine lv_aload hx hb dX4_goesBeforeInTheTree_150 (lv_at hl 7 rfl) ?_
                refine m_getN (C := RX1) (T := TX1) (N := 6) (host := "TaskKernel") hx hb hts hi_X1 hown hK hV 0 (v := .int (nI k96)) (g_grp0 hC (by first | assumption | (show k96 < kN σ 62 1; omega))) rfl (by decide) kn349 (fun _ h9 => h9) dX4_goesBeforeInTheTree_152 ?_
                refine lv_icmp_ge (tgt := 162) hx hb dX4_goesBeforeInTheTree_155 (by decide) (fun c155 => ?_) (fun c155 => ?_)
                · replace c155 : k96 ≤ k77 := (nI_leI (a := k96) (b := k77) (by omega) (by omega)).mp c155
                  refine lv_iconst (v := 0) hx hb dX4_goesBeforeInTheTree_162 (by decide) ?_
                  exact m_zret (v := 0) hx hb hr hlocks (by decide) hV hS (⟨rfl, by unfold gtS gtE; rw [hR]; simp_all [tmS, bI]⟩) dX4_goesBeforeInTheTree_163
                · replace c155 : ¬ k96 ≤ k77 := fun q9 => c155 ((nI_leI (a := k96) (b := k77) (by omega) (by omega)).mpr q9)
                  refine lv_iconst (v := 1) hx hb dX4_goesBeforeInTheTree_158 (by decide) ?_
                  refine lv_goto (tgt := 163) hx hb dX4_goesBeforeInTheTree_159 (by decide) ?_
                  exact m_zret (v := 1) hx hb hr hlocks (by decide) hV hS (⟨rfl, by unfold gtS gtE; rw [hR]; simp_all [tmS, bI]⟩) dX4_goesBeforeInTheTree_163
              · refine lv_lload hx hb dX4_goesBeforeInTheTree_121 (lv_at hl 1 rfl) ?_
                refine lv_lload hx hb dX4_goesBeforeInTheTree_123 (lv_at hl 0 rfl) ?_
                refine m_lcmp_ge (tgt := 133) hx hb dX4_goesBeforeInTheTree_125 dX4_goesBeforeInTheTree_126 (by decide) (fun c126 => ?_) (fun c126 => ?_)
                · refine lv_iconst (v := 0) hx hb dX4_goesBeforeInTheTree_133 (by decide) ?_
                  exact m_zret (v := 0) hx hb hr hlocks (by decide) hV hS (⟨rfl, by unfold gtS gtE; rw [hR]; simp_all [tmS, bI]⟩) dX4_goesBeforeInTheTree_134
                · refine lv_iconst (v := 1) hx hb dX4_goesBeforeInTheTree_129 (by decide) ?_
                  refine lv_goto (tgt := 134) hx hb dX4_goesBeforeInTheTree_130 (by decide) ?_
                  exact m_zret (v := 1) hx hb hr hlocks (by decide) hV hS (⟨rfl, by unfold gtS gtE; rw [hR]; simp_all [tmS, bI]⟩) dX4_goesBeforeInTheTree_134
            · replace hl : lv_has ls 10 [(6, .long (kW σ 23 k77)), (0, .ref (L 3 a)), (1, .ref (L 3 b)), (2, .null), (3, va_rf ((ob).map (L 2))), (4, .ref (L 2 k77)), (5, .null)] := by have h9 := hl; rw [c96] at h9; exact h9
              refine lv_aload_n hx hb dX4_goesBeforeInTheTree_99 rfl (lv_at hl 2 rfl) ?_
              refine m_getN (C := RX3) (T := TX3) (N := 16) (host := "TaskKernel") hx hb hts hi_X3 hown hK hV 3 (v := .long (kW σ 33 b)) (g_task3 hC (by first | assumption | (show b < kN σ 62 2; omega))) rfl (by decide) kn191 (fun _ h9 => h9) dX4_goesBeforeInTheTree_100 ?_
              refine lv_goto (tgt := 111) hx hb dX4_goesBeforeInTheTree_103 (by decide) ?_
              refine lv_lstore (lv' := [(8, .long (kW σ 33 b)), (6, .long (kW σ 23 k77)), (0, .ref (L 3 a)), (1, .ref (L 3 b)), (2, .null), (3, va_rf ((ob).map (L 2))), (4, .ref (L 2 k77)), (5, .null)]) hx hb dX4_goesBeforeInTheTree_111 hl (by decide) (by first | rfl | simp [rf_cat, ct_ref, ct_int, ct_long]) (fun ls hl => ?_)
              refine lv_lload hx hb dX4_goesBeforeInTheTree_113 (lv_at hl 1 rfl) ?_
              refine lv_lload hx hb dX4_goesBeforeInTheTree_115 (lv_at hl 0 rfl) ?_
              refine m_lcmp_eq (tgt := 135) hx hb dX4_goesBeforeInTheTree_117 dX4_goesBeforeInTheTree_118 (by decide) (fun c118 => ?_) (fun c118 => ?_)
              · refine lv_aload hx hb dX4_goesBeforeInTheTree_135 (lv_at hl 6 rfl) ?_
                refine lv_ifnull hx hb dX4_goesBeforeInTheTree_137 ?_
                refine lv_aloadN hx hb dX4_goesBeforeInTheTree_140 (lv_at hl 7 rfl) ?_
                refine lv_ifnullN (tgt := 164) hx hb dX4_goesBeforeInTheTree_142 (by decide) ?_
                refine lv_aload hx hb dX4_goesBeforeInTheTree_164 (lv_at hl 6 rfl) ?_
                refine lv_ifnonnull (tgt := 191) hx hb dX4_goesBeforeInTheTree_166 (by decide) ?_
                refine lv_aload hx hb dX4_goesBeforeInTheTree_191 (lv_at hl 6 rfl) ?_
                refine lv_ifnull hx hb dX4_goesBeforeInTheTree_193 ?_
                refine lv_iconst (v := 1) hx hb dX4_goesBeforeInTheTree_196 (by decide) ?_
                refine lv_goto (tgt := 201) hx hb dX4_goesBeforeInTheTree_197 (by decide) ?_
                exact m_zret (v := 1) hx hb hr hlocks (by decide) hV hS (⟨rfl, by unfold gtS gtE; rw [hR]; simp_all [tmS, bI]⟩) dX4_goesBeforeInTheTree_201
              · refine lv_lload hx hb dX4_goesBeforeInTheTree_121 (lv_at hl 1 rfl) ?_
                refine lv_lload hx hb dX4_goesBeforeInTheTree_123 (lv_at hl 0 rfl) ?_
                refine m_lcmp_ge (tgt := 133) hx hb dX4_goesBeforeInTheTree_125 dX4_goesBeforeInTheTree_126 (by decide) (fun c126 => ?_) (fun c126 => ?_)
                · refine lv_iconst (v := 0) hx hb dX4_goesBeforeInTheTree_133 (by decide) ?_
                  exact m_zret (v := 0) hx hb hr hlocks (by decide) hV hS (⟨rfl, by unfold gtS gtE; rw [hR]; simp_all [tmS, bI]⟩) dX4_goesBeforeInTheTree_134
                · refine lv_iconst (v := 1) hx hb dX4_goesBeforeInTheTree_129 (by decide) ?_
                  refine lv_goto (tgt := 134) hx hb dX4_goesBeforeInTheTree_130 (by decide) ?_
                  exact m_zret (v := 1) hx hb hr hlocks (by decide) hV hS (⟨rfl, by unfold gtS gtE; rw [hR]; simp_all [tmS, bI]⟩) dX4_goesBeforeInTheTree_134
          · replace hl : lv_has ls 10 [(0, .ref (L 3 a)), (1, .ref (L 3 b)), (2, .null), (3, va_rf ((ob).map (L 2))), (4, .null), (5, va_rf ((y).map (L 2))), (6, .int (nI i))] := by have h9 := hl; rw [c77] at h9; exact h9
            refine lv_aload_n hx hb dX4_goesBeforeInTheTree_80 rfl (lv_at hl 0 rfl) ?_
            refine m_getN (C := RX3) (T := TX3) (N := 16) (host := "TaskKernel") hx hb hts hi_X3 hown hK hV 3 (v := .long (kW σ 33 a)) (g_task3 hC (by first | assumption | (show a < kN σ 62 2; omega))) rfl (by decide) kn191 (fun _ h9 => h9) dX4_goesBeforeInTheTree_81 ?_
            refine lv_goto (tgt := 92) hx hb dX4_goesBeforeInTheTree_84 (by decide) ?_
            refine lv_lstore (lv' := [(6, .long (kW σ 33 a)), (0, .ref (L 3 a)), (1, .ref (L 3 b)), (2, .null), (3, va_rf ((ob).map (L 2))), (4, .null), (5, va_rf ((y).map (L 2)))]) hx hb dX4_goesBeforeInTheTree_92 hl (by decide) (by first | rfl | simp [rf_cat, ct_ref, ct_int, ct_long]) (fun ls hl => ?_)
            refine m_aload_q hx hb dX4_goesBeforeInTheTree_94 (lv_at hl 6 rfl) ?_
            refine m_ifnonnull_q (o := y) (f := L 2) (tgt := 106) hx hb dX4_goesBeforeInTheTree_96 (by decide) (fun k96 c96 => ?_) (fun c96 => ?_)
            · have bk96 := hqy k96 c96
              replace hl : lv_has ls 10 [(6, .long (kW σ 33 a)), (0, .ref (L 3 a)), (1, .ref (L 3 b)), (2, .null), (3, va_rf ((ob).map (L 2))), (4, .null), (5, .ref (L 2 k96))] := by have h9 := hl; rw [c96] at h9; exact h9
              refine lv_aload hx hb dX4_goesBeforeInTheTree_106 (lv_at hl 6 rfl) ?_
              refine m_getN (C := RX1) (T := TX1) (N := 6) (host := "TaskKernel") hx hb hts hi_X1 hown hK hV 3 (v := .long (kW σ 23 k96)) (g_grp3 hC (by first | assumption | (show k96 < kN σ 62 1; omega))) rfl (by decide) kn197 (fun _ h9 => h9) dX4_goesBeforeInTheTree_108 ?_
              refine lv_lstore (lv' := [(8, .long (kW σ 23 k96)), (6, .long (kW σ 33 a)), (0, .ref (L 3 a)), (1, .ref (L 3 b)), (2, .null), (3, va_rf ((ob).map (L 2))), (4, .null), (5, .ref (L 2 k96))]) hx hb dX4_goesBeforeInTheTree_111 hl (by decide) (by first | rfl | simp [rf_cat, ct_ref, ct_int, ct_long]) (fun ls hl => ?_)
              refine lv_lload hx hb dX4_goesBeforeInTheTree_113 (lv_at hl 1 rfl) ?_
              refine lv_lload hx hb dX4_goesBeforeInTheTree_115 (lv_at hl 0 rfl) ?_
              refine m_lcmp_eq (tgt := 135) hx hb dX4_goesBeforeInTheTree_117 dX4_goesBeforeInTheTree_118 (by decide) (fun c118 => ?_) (fun c118 => ?_)
              · refine lv_aloadN hx hb dX4_goesBeforeInTheTree_135 (lv_at hl 6 rfl) ?_
                refine lv_ifnullN (tgt := 164) hx hb dX4_goesBeforeInTheTree_137 (by decide) ?_
                refine lv_aloadN hx hb dX4_goesBeforeInTheTree_164 (lv_at hl 6 rfl) ?_
                refine lv_ifnonnullN hx hb dX4_goesBeforeInTheTree_166 ?_
                refine lv_aload hx hb dX4_goesBeforeInTheTree_169 (lv_at hl 7 rfl) ?_
                refine lv_ifnonnull (tgt := 191) hx hb dX4_goesBeforeInTheTree_171 (by decide) ?_
                refine lv_aloadN hx hb dX4_goesBeforeInTheTree_191 (lv_at hl 6 rfl) ?_
                refine lv_ifnullN (tgt := 200) hx hb dX4_goesBeforeInTheTree_193 (by decide) ?_
                refine lv_iconst (v := 0) hx hb dX4_goesBeforeInTheTree_200 (by decide) ?_
                exact m_zret (v := 0) hx hb hr hlocks (by decide) hV hS (⟨rfl, by unfold gtS gtE; rw [hR]; simp_all [tmS, bI]⟩) dX4_goesBeforeInTheTree_201
              · refine lv_lload hx hb dX4_goesBeforeInTheTree_121 (lv_at hl 1 rfl) ?_
                refine lv_lload hx hb dX4_goesBeforeInTheTree_123 (lv_at hl 0 rfl) ?_
                refine m_lcmp_ge (tgt := 133) hx hb dX4_goesBeforeInTheTree_125 dX4_goesBeforeInTheTree_126 (by decide) (fun c126 => ?_) (fun c126 => ?_)
                · refine lv_iconst (v := 0) hx hb dX4_goesBeforeInTheTree_133 (by decide) ?_
                  exact m_zret (v := 0) hx hb hr hlocks (by decide) hV hS (⟨rfl, by unfold gtS gtE; rw [hR]; simp_all [tmS, bI]⟩) dX4_goesBeforeInTheTree_134
                · refine lv_iconst (v := 1) hx hb dX4_goesBeforeInTheTree_129 (by decide) ?_
                  refine lv_goto (tgt := 134) hx hb dX4_goesBeforeInTheTree_130 (by decide) ?_
                  exact m_zret (v := 1) hx hb hr hlocks (by decide) hV hS (⟨rfl, by unfold gtS gtE; rw [hR]; simp_all [tmS, bI]⟩) dX4_goesBeforeInTheTree_134
            · replace hl : lv_has ls 10 [(6, .long (kW σ 33 a)), (0, .ref (L 3 a)), (1, .ref (L 3 b)), (2, .null), (3, va_rf ((ob).map (L 2))), (4, .null), (5, .null)] := by have h9 := hl; rw [c96] at h9; exact h9
              refine lv_aload_n hx hb dX4_goesBeforeInTheTree_99 rfl (lv_at hl 2 rfl) ?_
              refine m_getN (C := RX3) (T := TX3) (N := 16) (host := "TaskKernel") hx hb hts hi_X3 hown hK hV 3 (v := .long (kW σ 33 b)) (g_task3 hC (by first | assumption | (show b < kN σ 62 2; omega))) rfl (by decide) kn191 (fun _ h9 => h9) dX4_goesBeforeInTheTree_100 ?_
              refine lv_goto (tgt := 111) hx hb dX4_goesBeforeInTheTree_103 (by decide) ?_
              refine lv_lstore (lv' := [(8, .long (kW σ 33 b)), (6, .long (kW σ 33 a)), (0, .ref (L 3 a)), (1, .ref (L 3 b)), (2, .null), (3, va_rf ((ob).map (L 2))), (4, .null), (5, .null)]) hx hb dX4_goesBeforeInTheTree_111 hl (by decide) (by first | rfl | simp [rf_cat, ct_ref, ct_int, ct_long]) (fun ls hl => ?_)
              refine lv_lload hx hb dX4_goesBeforeInTheTree_113 (lv_at hl 1 rfl) ?_
              refine lv_lload hx hb dX4_goesBeforeInTheTree_115 (lv_at hl 0 rfl) ?_
              refine m_lcmp_eq (tgt := 135) hx hb dX4_goesBeforeInTheTree_117 dX4_goesBeforeInTheTree_118 (by decide) (fun c118 => ?_) (fun c118 => ?_)
              · refine lv_aloadN hx hb dX4_goesBeforeInTheTree_135 (lv_at hl 6 rfl) ?_
                refine lv_ifnullN (tgt := 164) hx hb dX4_goesBeforeInTheTree_137 (by decide) ?_
                refine lv_aloadN hx hb dX4_goesBeforeInTheTree_164 (lv_at hl 6 rfl) ?_
                refine lv_ifnonnullN hx hb dX4_goesBeforeInTheTree_166 ?_
                refine lv_aloadN hx hb dX4_goesBeforeInTheTree_169 (lv_at hl 7 rfl) ?_
                refine lv_ifnonnullN hx hb dX4_goesBeforeInTheTree_171 ?_
                refine lv_aload_n hx hb dX4_goesBeforeInTheTree_174 rfl (lv_at hl 2 rfl) ?_
                refine m_getN (C := RX3) (T := TX3) (N := 16) (host := "TaskKernel") hx hb hts hi_X3 hown hK hV 0 (v := .int (nI a)) (g_task0 hC (by first | assumption | (show a < kN σ 62 2; omega))) rfl (by decide) kn283 (fun _ h9 => h9) dX4_goesBeforeInTheTree_175 ?_
                refine lv_aload_n hx hb dX4_goesBeforeInTheTree_178 rfl (lv_at hl 3 rfl) ?_
                refine m_getN (C := RX3) (T := TX3) (N := 16) (host := "TaskKernel") hx hb hts hi_X3 hown hK hV 0 (v := .int (nI b)) (g_task0 hC (by first | assumption | (show b < kN σ 62 2; omega))) rfl (by decide) kn283 (fun _ h9 => h9) dX4_goesBeforeInTheTree_179 ?_
                refine lv_icmp_ge (tgt := 189) hx hb dX4_goesBeforeInTheTree_182 (by decide) (fun c182 => ?_) (fun c182 => ?_)
                · replace c182 : b ≤ a := (nI_leI (a := b) (b := a) (by omega) (by omega)).mp c182
                  refine lv_iconst (v := 0) hx hb dX4_goesBeforeInTheTree_189 (by decide) ?_
                  exact m_zret (v := 0) hx hb hr hlocks (by decide) hV hS (⟨rfl, by unfold gtS gtE; rw [hR]; simp_all [tmS, bI]⟩) dX4_goesBeforeInTheTree_190
                · replace c182 : ¬ b ≤ a := fun q9 => c182 ((nI_leI (a := b) (b := a) (by omega) (by omega)).mpr q9)
                  refine lv_iconst (v := 1) hx hb dX4_goesBeforeInTheTree_185 (by decide) ?_
                  refine lv_goto (tgt := 190) hx hb dX4_goesBeforeInTheTree_186 (by decide) ?_
                  exact m_zret (v := 1) hx hb hr hlocks (by decide) hV hS (⟨rfl, by unfold gtS gtE; rw [hR]; simp_all [tmS, bI]⟩) dX4_goesBeforeInTheTree_190
              · refine lv_lload hx hb dX4_goesBeforeInTheTree_121 (lv_at hl 1 rfl) ?_
                refine lv_lload hx hb dX4_goesBeforeInTheTree_123 (lv_at hl 0 rfl) ?_
                refine m_lcmp_ge (tgt := 133) hx hb dX4_goesBeforeInTheTree_125 dX4_goesBeforeInTheTree_126 (by decide) (fun c126 => ?_) (fun c126 => ?_)
                · refine lv_iconst (v := 0) hx hb dX4_goesBeforeInTheTree_133 (by decide) ?_
                  exact m_zret (v := 0) hx hb hr hlocks (by decide) hV hS (⟨rfl, by unfold gtS gtE; rw [hR]; simp_all [tmS, bI]⟩) dX4_goesBeforeInTheTree_134
                · refine lv_iconst (v := 1) hx hb dX4_goesBeforeInTheTree_129 (by decide) ?_
                  refine lv_goto (tgt := 134) hx hb dX4_goesBeforeInTheTree_130 (by decide) ?_
                  exact m_zret (v := 1) hx hb hr hlocks (by decide) hV hS (⟨rfl, by unfold gtS gtE; rw [hR]; simp_all [tmS, bI]⟩) dX4_goesBeforeInTheTree_134
        · have bk27 := hoa k27 c27
          replace hl : lv_has ls 10 [(0, .ref (L 3 a)), (1, .ref (L 3 b)), (2, .ref (L 2 k27)), (3, va_rf ((ob).map (L 2))), (4, va_rf ((x).map (L 2))), (5, va_rf ((y).map (L 2))), (6, .int (nI i))] := by have h9 := hl; rw [c27] at h9; exact h9
          refine m_aload_nq hx hb dX4_goesBeforeInTheTree_30 rfl (lv_at hl 3 rfl) ?_
          refine m_ifnull_q (o := ob) (f := L 2) (tgt := 75) hx hb dX4_goesBeforeInTheTree_31 (by decide) (fun c31 => ?_) (fun k31 c31 => ?_)
          · replace hl : lv_has ls 10 [(0, .ref (L 3 a)), (1, .ref (L 3 b)), (2, .ref (L 2 k27)), (3, .null), (4, va_rf ((x).map (L 2))), (5, va_rf ((y).map (L 2))), (6, .int (nI i))] := by have h9 := hl; rw [c31] at h9; exact h9
            have hR : gtR σ a b = (x, y) := by rw [← hf, c31, gbL_n2]
            refine m_aload_q hx hb dX4_goesBeforeInTheTree_75 (lv_at hl 4 rfl) ?_
            refine m_ifnonnull_q (o := x) (f := L 2) (tgt := 87) hx hb dX4_goesBeforeInTheTree_77 (by decide) (fun k77 c77 => ?_) (fun c77 => ?_)
            · have bk77 := hqx k77 c77
              replace hl : lv_has ls 10 [(0, .ref (L 3 a)), (1, .ref (L 3 b)), (2, .ref (L 2 k27)), (3, .null), (4, .ref (L 2 k77)), (5, va_rf ((y).map (L 2))), (6, .int (nI i))] := by have h9 := hl; rw [c77] at h9; exact h9
              refine lv_aload hx hb dX4_goesBeforeInTheTree_87 (lv_at hl 4 rfl) ?_
              refine m_getN (C := RX1) (T := TX1) (N := 6) (host := "TaskKernel") hx hb hts hi_X1 hown hK hV 3 (v := .long (kW σ 23 k77)) (g_grp3 hC (by first | assumption | (show k77 < kN σ 62 1; omega))) rfl (by decide) kn197 (fun _ h9 => h9) dX4_goesBeforeInTheTree_89 ?_
              refine lv_lstore (lv' := [(6, .long (kW σ 23 k77)), (0, .ref (L 3 a)), (1, .ref (L 3 b)), (2, .ref (L 2 k27)), (3, .null), (4, .ref (L 2 k77)), (5, va_rf ((y).map (L 2)))]) hx hb dX4_goesBeforeInTheTree_92 hl (by decide) (by first | rfl | simp [rf_cat, ct_ref, ct_int, ct_long]) (fun ls hl => ?_)
              refine m_aload_q hx hb dX4_goesBeforeInTheTree_94 (lv_at hl 6 rfl) ?_
              refine m_ifnonnull_q (o := y) (f := L 2) (tgt := 106) hx hb dX4_goesBeforeInTheTree_96 (by decide) (fun k96 c96 => ?_) (fun c96 => ?_)
              · have bk96 := hqy k96 c96
                replace hl : lv_has ls 10 [(6, .long (kW σ 23 k77)), (0, .ref (L 3 a)), (1, .ref (L 3 b)), (2, .ref (L 2 k27)), (3, .null), (4, .ref (L 2 k77)), (5, .ref (L 2 k96))] := by have h9 := hl; rw [c96] at h9; exact h9
                refine lv_aload hx hb dX4_goesBeforeInTheTree_106 (lv_at hl 6 rfl) ?_
                refine m_getN (C := RX1) (T := TX1) (N := 6) (host := "TaskKernel") hx hb hts hi_X1 hown hK hV 3 (v := .long (kW σ 23 k96)) (g_grp3 hC (by first | assumption | (show k96 < kN σ 62 1; omega))) rfl (by decide) kn197 (fun _ h9 => h9) dX4_goesBeforeInTheTree_108 ?_
                refine lv_lstore (lv' := [(8, .long (kW σ 23 k96)), (6, .long (kW σ 23 k77)), (0, .ref (L 3 a)), (1, .ref (L 3 b)), (2, .ref (L 2 k27)), (3, .null), (4, .ref (L 2 k77)), (5, .ref (L 2 k96))]) hx hb dX4_goesBeforeInTheTree_111 hl (by decide) rfl (fun ls hl => ?_)
                refine lv_lload hx hb dX4_goesBeforeInTheTree_113 (lv_at hl 1 rfl) ?_
                refine lv_lload hx hb dX4_goesBeforeInTheTree_115 (lv_at hl 0 rfl) ?_
                refine m_lcmp_eq (tgt := 135) hx hb dX4_goesBeforeInTheTree_117 dX4_goesBeforeInTheTree_118 (by decide) (fun c118 => ?_) (fun c118 => ?_)
                · refine lv_aload hx hb dX4_goesBeforeInTheTree_135 (lv_at hl 6 rfl) ?_
                  refine lv_ifnull hx hb dX4_goesBeforeInTheTree_137 ?_
                  refine lv_aload hx hb dX4_goesBeforeInTheTree_140 (lv_at hl 7 rfl) ?_
                  refine lv_ifnull hx hb dX4_goesBeforeInTheTree_142 ?_
                  refine lv_aload hx hb dX4_goesBeforeInTheTree_145 (lv_at hl 6 rfl) ?_
                  refine m_getN (C := RX1) (T := TX1) (N := 6) (host := "TaskKernel") hx hb hts hi_X1 hown hK hV 0 (v := .int (nI k77)) (g_grp0 hC (by first | assumption | (show k77 < kN σ 62 1; omega))) rfl (by decide) kn349 (fun _ h9 => h9) dX4_goesBeforeInTheTree_147 ?_
                  refine lv_aload hx hb dX4_goesBeforeInTheTree_150 (lv_at hl 7 rfl) ?_
                  refine m_getN (C := RX1) (T := TX1) (N := 6) (host := "TaskKernel") hx hb hts hi_X1 hown hK hV 0 (v := .int (nI k96)) (g_grp0 hC (by first | assumption | (show k96 < kN σ 62 1; omega))) rfl (by decide) kn349 (fun _ h9 => h9) dX4_goesBeforeInTheTree_152 ?_
                  refine lv_icmp_ge (tgt := 162) hx hb dX4_goesBeforeInTheTree_155 (by decide) (fun c155 => ?_) (fun c155 => ?_)
                  · replace c155 : k96 ≤ k77 := (nI_leI (a := k96) (b := k77) (by omega) (by omega)).mp c155
                    refine lv_iconst (v := 0) hx hb dX4_goesBeforeInTheTree_162 (by decide) ?_
                    exact m_zret (v := 0) hx hb hr hlocks (by decide) hV hS (⟨rfl, by unfold gtS gtE; rw [hR]; simp_all [tmS, bI]⟩) dX4_goesBeforeInTheTree_163
                  · replace c155 : ¬ k96 ≤ k77 := fun q9 => c155 ((nI_leI (a := k96) (b := k77) (by omega) (by omega)).mpr q9)
                    refine lv_iconst (v := 1) hx hb dX4_goesBeforeInTheTree_158 (by decide) ?_
                    refine lv_goto (tgt := 163) hx hb dX4_goesBeforeInTheTree_159 (by decide) ?_
                    exact m_zret (v := 1) hx hb hr hlocks (by decide) hV hS (⟨rfl, by unfold gtS gtE; rw [hR]; simp_all [tmS, bI]⟩) dX4_goesBeforeInTheTree_163
                · refine lv_lload hx hb dX4_goesBeforeInTheTree_121 (lv_at hl 1 rfl) ?_
                  refine lv_lload hx hb dX4_goesBeforeInTheTree_123 (lv_at hl 0 rfl) ?_
                  refine m_lcmp_ge (tgt := 133) hx hb dX4_goesBeforeInTheTree_125 dX4_goesBeforeInTheTree_126 (by decide) (fun c126 => ?_) (fun c126 => ?_)
                  · refine lv_iconst (v := 0) hx hb dX4_goesBeforeInTheTree_133 (by decide) ?_
                    exact m_zret (v := 0) hx hb hr hlocks (by decide) hV hS (⟨rfl, by unfold gtS gtE; rw [hR]; simp_all [tmS, bI]⟩) dX4_goesBeforeInTheTree_134
                  · refine lv_iconst (v := 1) hx hb dX4_goesBeforeInTheTree_129 (by decide) ?_
                    refine lv_goto (tgt := 134) hx hb dX4_goesBeforeInTheTree_130 (by decide) ?_
                    exact m_zret (v := 1) hx hb hr hlocks (by decide) hV hS (⟨rfl, by unfold gtS gtE; rw [hR]; simp_all [tmS, bI]⟩) dX4_goesBeforeInTheTree_134
              · replace hl : lv_has ls 10 [(6, .long (kW σ 23 k77)), (0, .ref (L 3 a)), (1, .ref (L 3 b)), (2, .ref (L 2 k27)), (3, .null), (4, .ref (L 2 k77)), (5, .null)] := by have h9 := hl; rw [c96] at h9; exact h9
                refine lv_aload_n hx hb dX4_goesBeforeInTheTree_99 rfl (lv_at hl 2 rfl) ?_
                refine m_getN (C := RX3) (T := TX3) (N := 16) (host := "TaskKernel") hx hb hts hi_X3 hown hK hV 3 (v := .long (kW σ 33 b)) (g_task3 hC (by first | assumption | (show b < kN σ 62 2; omega))) rfl (by decide) kn191 (fun _ h9 => h9) dX4_goesBeforeInTheTree_100 ?_
                refine lv_goto (tgt := 111) hx hb dX4_goesBeforeInTheTree_103 (by decide) ?_
                refine lv_lstore (lv' := [(8, .long (kW σ 33 b)), (6, .long (kW σ 23 k77)), (0, .ref (L 3 a)), (1, .ref (L 3 b)), (2, .ref (L 2 k27)), (3, .null), (4, .ref (L 2 k77)), (5, .null)]) hx hb dX4_goesBeforeInTheTree_111 hl (by decide) rfl (fun ls hl => ?_)
                refine lv_lload hx hb dX4_goesBeforeInTheTree_113 (lv_at hl 1 rfl) ?_
                refine lv_lload hx hb dX4_goesBeforeInTheTree_115 (lv_at hl 0 rfl) ?_
                refine m_lcmp_eq (tgt := 135) hx hb dX4_goesBeforeInTheTree_117 dX4_goesBeforeInTheTree_118 (by decide) (fun c118 => ?_) (fun c118 => ?_)
                · refine lv_aload hx hb dX4_goesBeforeInTheTree_135 (lv_at hl 6 rfl) ?_
                  refine lv_ifnull hx hb dX4_goesBeforeInTheTree_137 ?_
                  refine lv_aloadN hx hb dX4_goesBeforeInTheTree_140 (lv_at hl 7 rfl) ?_
                  refine lv_ifnullN (tgt := 164) hx hb dX4_goesBeforeInTheTree_142 (by decide) ?_
                  refine lv_aload hx hb dX4_goesBeforeInTheTree_164 (lv_at hl 6 rfl) ?_
                  refine lv_ifnonnull (tgt := 191) hx hb dX4_goesBeforeInTheTree_166 (by decide) ?_
                  refine lv_aload hx hb dX4_goesBeforeInTheTree_191 (lv_at hl 6 rfl) ?_
                  refine lv_ifnull hx hb dX4_goesBeforeInTheTree_193 ?_
                  refine lv_iconst (v := 1) hx hb dX4_goesBeforeInTheTree_196 (by decide) ?_
                  refine lv_goto (tgt := 201) hx hb dX4_goesBeforeInTheTree_197 (by decide) ?_
                  exact m_zret (v := 1) hx hb hr hlocks (by decide) hV hS (⟨rfl, by unfold gtS gtE; rw [hR]; simp_all [tmS, bI]⟩) dX4_goesBeforeInTheTree_201
                · refine lv_lload hx hb dX4_goesBeforeInTheTree_121 (lv_at hl 1 rfl) ?_
                  refine lv_lload hx hb dX4_goesBeforeInTheTree_123 (lv_at hl 0 rfl) ?_
                  refine m_lcmp_ge (tgt := 133) hx hb dX4_goesBeforeInTheTree_125 dX4_goesBeforeInTheTree_126 (by decide) (fun c126 => ?_) (fun c126 => ?_)
                  · refine lv_iconst (v := 0) hx hb dX4_goesBeforeInTheTree_133 (by decide) ?_
                    exact m_zret (v := 0) hx hb hr hlocks (by decide) hV hS (⟨rfl, by unfold gtS gtE; rw [hR]; simp_all [tmS, bI]⟩) dX4_goesBeforeInTheTree_134
                  · refine lv_iconst (v := 1) hx hb dX4_goesBeforeInTheTree_129 (by decide) ?_
                    refine lv_goto (tgt := 134) hx hb dX4_goesBeforeInTheTree_130 (by decide) ?_
                    exact m_zret (v := 1) hx hb hr hlocks (by decide) hV hS (⟨rfl, by unfold gtS gtE; rw [hR]; simp_all [tmS, bI]⟩) dX4_goesBeforeInTheTree_134
            · replace hl : lv_has ls 10 [(0, .ref (L 3 a)), (1, .ref (L 3 b)), (2, .ref (L 2 k27)), (3, .null), (4, .null), (5, va_rf ((y).map (L 2))), (6, .int (nI i))] := by have h9 := hl; rw [c77] at h9; exact h9
              refine lv_aload_n hx hb dX4_goesBeforeInTheTree_80 rfl (lv_at hl 0 rfl) ?_
              refine m_getN (C := RX3) (T := TX3) (N := 16) (host := "TaskKernel") hx hb hts hi_X3 hown hK hV 3 (v := .long (kW σ 33 a)) (g_task3 hC (by first | assumption | (show a < kN σ 62 2; omega))) rfl (by decide) kn191 (fun _ h9 => h9) dX4_goesBeforeInTheTree_81 ?_
              refine lv_goto (tgt := 92) hx hb dX4_goesBeforeInTheTree_84 (by decide) ?_
              refine lv_lstore (lv' := [(6, .long (kW σ 33 a)), (0, .ref (L 3 a)), (1, .ref (L 3 b)), (2, .ref (L 2 k27)), (3, .null), (4, .null), (5, va_rf ((y).map (L 2)))]) hx hb dX4_goesBeforeInTheTree_92 hl (by decide) (by first | rfl | simp [rf_cat, ct_ref, ct_int, ct_long]) (fun ls hl => ?_)
              refine m_aload_q hx hb dX4_goesBeforeInTheTree_94 (lv_at hl 6 rfl) ?_
              refine m_ifnonnull_q (o := y) (f := L 2) (tgt := 106) hx hb dX4_goesBeforeInTheTree_96 (by decide) (fun k96 c96 => ?_) (fun c96 => ?_)
              · have bk96 := hqy k96 c96
                replace hl : lv_has ls 10 [(6, .long (kW σ 33 a)), (0, .ref (L 3 a)), (1, .ref (L 3 b)), (2, .ref (L 2 k27)), (3, .null), (4, .null), (5, .ref (L 2 k96))] := by have h9 := hl; rw [c96] at h9; exact h9
                refine lv_aload hx hb dX4_goesBeforeInTheTree_106 (lv_at hl 6 rfl) ?_
                refine m_getN (C := RX1) (T := TX1) (N := 6) (host := "TaskKernel") hx hb hts hi_X1 hown hK hV 3 (v := .long (kW σ 23 k96)) (g_grp3 hC (by first | assumption | (show k96 < kN σ 62 1; omega))) rfl (by decide) kn197 (fun _ h9 => h9) dX4_goesBeforeInTheTree_108 ?_
                refine lv_lstore (lv' := [(8, .long (kW σ 23 k96)), (6, .long (kW σ 33 a)), (0, .ref (L 3 a)), (1, .ref (L 3 b)), (2, .ref (L 2 k27)), (3, .null), (4, .null), (5, .ref (L 2 k96))]) hx hb dX4_goesBeforeInTheTree_111 hl (by decide) rfl (fun ls hl => ?_)
                refine lv_lload hx hb dX4_goesBeforeInTheTree_113 (lv_at hl 1 rfl) ?_
                refine lv_lload hx hb dX4_goesBeforeInTheTree_115 (lv_at hl 0 rfl) ?_
                refine m_lcmp_eq (tgt := 135) hx hb dX4_goesBeforeInTheTree_117 dX4_goesBeforeInTheTree_118 (by decide) (fun c118 => ?_) (fun c118 => ?_)
                · refine lv_aloadN hx hb dX4_goesBeforeInTheTree_135 (lv_at hl 6 rfl) ?_
                  refine lv_ifnullN (tgt := 164) hx hb dX4_goesBeforeInTheTree_137 (by decide) ?_
                  refine lv_aloadN hx hb dX4_goesBeforeInTheTree_164 (lv_at hl 6 rfl) ?_
                  refine lv_ifnonnullN hx hb dX4_goesBeforeInTheTree_166 ?_
                  refine lv_aload hx hb dX4_goesBeforeInTheTree_169 (lv_at hl 7 rfl) ?_
                  refine lv_ifnonnull (tgt := 191) hx hb dX4_goesBeforeInTheTree_171 (by decide) ?_
                  refine lv_aloadN hx hb dX4_goesBeforeInTheTree_191 (lv_at hl 6 rfl) ?_
                  refine lv_ifnullN (tgt := 200) hx hb dX4_goesBeforeInTheTree_193 (by decide) ?_
                  refine lv_iconst (v := 0) hx hb dX4_goesBeforeInTheTree_200 (by decide) ?_
                  exact m_zret (v := 0) hx hb hr hlocks (by decide) hV hS (⟨rfl, by unfold gtS gtE; rw [hR]; simp_all [tmS, bI]⟩) dX4_goesBeforeInTheTree_201
                · refine lv_lload hx hb dX4_goesBeforeInTheTree_121 (lv_at hl 1 rfl) ?_
                  refine lv_lload hx hb dX4_goesBeforeInTheTree_123 (lv_at hl 0 rfl) ?_
                  refine m_lcmp_ge (tgt := 133) hx hb dX4_goesBeforeInTheTree_125 dX4_goesBeforeInTheTree_126 (by decide) (fun c126 => ?_) (fun c126 => ?_)
                  · refine lv_iconst (v := 0) hx hb dX4_goesBeforeInTheTree_133 (by decide) ?_
                    exact m_zret (v := 0) hx hb hr hlocks (by decide) hV hS (⟨rfl, by unfold gtS gtE; rw [hR]; simp_all [tmS, bI]⟩) dX4_goesBeforeInTheTree_134
                  · refine lv_iconst (v := 1) hx hb dX4_goesBeforeInTheTree_129 (by decide) ?_
                    refine lv_goto (tgt := 134) hx hb dX4_goesBeforeInTheTree_130 (by decide) ?_
                    exact m_zret (v := 1) hx hb hr hlocks (by decide) hV hS (⟨rfl, by unfold gtS gtE; rw [hR]; simp_all [tmS, bI]⟩) dX4_goesBeforeInTheTree_134
              · replace hl : lv_has ls 10 [(6, .long (kW σ 33 a)), (0, .ref (L 3 a)), (1, .ref (L 3 b)), (2, .ref (L 2 k27)), (3, .null), (4, .null), (5, .null)] := by have h9 := hl; rw [c96] at h9; exact h9
                refine lv_aload_n hx hb dX4_goesBeforeInTheTree_99 rfl (lv_at hl 2 rfl) ?_
                refine m_getN (C := RX3) (T := TX3) (N := 16) (host := "TaskKernel") hx hb hts hi_X3 hown hK hV 3 (v := .long (kW σ 33 b)) (g_task3 hC (by first | assumption | (show b < kN σ 62 2; omega))) rfl (by decide) kn191 (fun _ h9 => h9) dX4_goesBeforeInTheTree_100 ?_
                refine lv_goto (tgt := 111) hx hb dX4_goesBeforeInTheTree_103 (by decide) ?_
                refine lv_lstore (lv' := [(8, .long (kW σ 33 b)), (6, .long (kW σ 33 a)), (0, .ref (L 3 a)), (1, .ref (L 3 b)), (2, .ref (L 2 k27)), (3, .null), (4, .null), (5, .null)]) hx hb dX4_goesBeforeInTheTree_111 hl (by decide) rfl (fun ls hl => ?_)
                refine lv_lload hx hb dX4_goesBeforeInTheTree_113 (lv_at hl 1 rfl) ?_
                refine lv_lload hx hb dX4_goesBeforeInTheTree_115 (lv_at hl 0 rfl) ?_
                refine m_lcmp_eq (tgt := 135) hx hb dX4_goesBeforeInTheTree_117 dX4_goesBeforeInTheTree_118 (by decide) (fun c118 => ?_) (fun c118 => ?_)
                · refine lv_aloadN hx hb dX4_goesBeforeInTheTree_135 (lv_at hl 6 rfl) ?_
                  refine lv_ifnullN (tgt := 164) hx hb dX4_goesBeforeInTheTree_137 (by decide) ?_
                  refine lv_aloadN hx hb dX4_goesBeforeInTheTree_164 (lv_at hl 6 rfl) ?_
                  refine lv_ifnonnullN hx hb dX4_goesBeforeInTheTree_166 ?_
                  refine lv_aloadN hx hb dX4_goesBeforeInTheTree_169 (lv_at hl 7 rfl) ?_
                  refine lv_ifnonnullN hx hb dX4_goesBeforeInTheTree_171 ?_
                  refine lv_aload_n hx hb dX4_goesBeforeInTheTree_174 rfl (lv_at hl 2 rfl) ?_
                  refine m_getN (C := RX3) (T := TX3) (N := 16) (host := "TaskKernel") hx hb hts hi_X3 hown hK hV 0 (v := .int (nI a)) (g_task0 hC (by first | assumption | (show a < kN σ 62 2; omega))) rfl (by decide) kn283 (fun _ h9 => h9) dX4_goesBeforeInTheTree_175 ?_
                  refine lv_aload_n hx hb dX4_goesBeforeInTheTree_178 rfl (lv_at hl 3 rfl) ?_
                  refine m_getN (C := RX3) (T := TX3) (N := 16) (host := "TaskKernel") hx hb hts hi_X3 hown hK hV 0 (v := .int (nI b)) (g_task0 hC (by first | assumption | (show b < kN σ 62 2; omega))) rfl (by decide) kn283 (fun _ h9 => h9) dX4_goesBeforeInTheTree_179 ?_
                  refine lv_icmp_ge (tgt := 189) hx hb dX4_goesBeforeInTheTree_182 (by decide) (fun c182 => ?_) (fun c182 => ?_)
                  · replace c182 : b ≤ a := (nI_leI (a := b) (b := a) (by omega) (by omega)).mp c182
                    refine lv_iconst (v := 0) hx hb dX4_goesBeforeInTheTree_189 (by decide) ?_
                    exact m_zret (v := 0) hx hb hr hlocks (by decide) hV hS (⟨rfl, by unfold gtS gtE; rw [hR]; simp_all [tmS, bI]⟩) dX4_goesBeforeInTheTree_190
                  · replace c182 : ¬ b ≤ a := fun q9 => c182 ((nI_leI (a := b) (b := a) (by omega) (by omega)).mpr q9)
                    refine lv_iconst (v := 1) hx hb dX4_goesBeforeInTheTree_185 (by decide) ?_
                    refine lv_goto (tgt := 190) hx hb dX4_goesBeforeInTheTree_186 (by decide) ?_
                    exact m_zret (v := 1) hx hb hr hlocks (by decide) hV hS (⟨rfl, by unfold gtS gtE; rw [hR]; simp_all [tmS, bI]⟩) dX4_goesBeforeInTheTree_190
                · refine lv_lload hx hb dX4_goesBeforeInTheTree_121 (lv_at hl 1 rfl) ?_
                  refine lv_lload hx hb dX4_goesBeforeInTheTree_123 (lv_at hl 0 rfl) ?_
                  refine m_lcmp_ge (tgt := 133) hx hb dX4_goesBeforeInTheTree_125 dX4_goesBeforeInTheTree_126 (by decide) (fun c126 => ?_) (fun c126 => ?_)
                  · refine lv_iconst (v := 0) hx hb dX4_goesBeforeInTheTree_133 (by decide) ?_
                    exact m_zret (v := 0) hx hb hr hlocks (by decide) hV hS (⟨rfl, by unfold gtS gtE; rw [hR]; simp_all [tmS, bI]⟩) dX4_goesBeforeInTheTree_134
                  · refine lv_iconst (v := 1) hx hb dX4_goesBeforeInTheTree_129 (by decide) ?_
                    refine lv_goto (tgt := 134) hx hb dX4_goesBeforeInTheTree_130 (by decide) ?_
                    exact m_zret (v := 1) hx hb hr hlocks (by decide) hV hS (⟨rfl, by unfold gtS gtE; rw [hR]; simp_all [tmS, bI]⟩) dX4_goesBeforeInTheTree_134
          · have bk31 := hob k31 c31
            replace hl : lv_has ls 10 [(0, .ref (L 3 a)), (1, .ref (L 3 b)), (2, .ref (L 2 k27)), (3, .ref (L 2 k31)), (4, va_rf ((x).map (L 2))), (5, va_rf ((y).map (L 2))), (6, .int (nI i))] := by have h9 := hl; rw [c31] at h9; exact h9
            refine lv_aload_n hx hb dX4_goesBeforeInTheTree_34 rfl (lv_at hl 2 rfl) ?_
            refine lv_aload_n hx hb dX4_goesBeforeInTheTree_35 rfl (lv_at hl 3 rfl) ?_
            refine lv_acmp_eq (rx := (some (L 2 k27))) (ry := (some (L 2 k31))) (tgt := 75) hx hb dX4_goesBeforeInTheTree_36 (by decide) (fun c36 => ?_) (fun c36 => ?_)
            · replace c36 : k27 = k31 := (hC.inj (k := 2) (k2 := 2) (by first | assumption | (show k27 < kN σ 62 1; omega)) (by first | assumption | (show k31 < kN σ 62 1; omega)) (Option.some.inj c36)).2
              have hR : gtR σ a b = (x, y) := by rw [← hf, c27, c31, c36, gbL_e]
              refine m_aload_q hx hb dX4_goesBeforeInTheTree_75 (lv_at hl 4 rfl) ?_
              refine m_ifnonnull_q (o := x) (f := L 2) (tgt := 87) hx hb dX4_goesBeforeInTheTree_77 (by decide) (fun k77 c77 => ?_) (fun c77 => ?_)
              · have bk77 := hqx k77 c77
                replace hl : lv_has ls 10 [(0, .ref (L 3 a)), (1, .ref (L 3 b)), (2, .ref (L 2 k27)), (3, .ref (L 2 k31)), (4, .ref (L 2 k77)), (5, va_rf ((y).map (L 2))), (6, .int (nI i))] := by have h9 := hl; rw [c77] at h9; exact h9
                refine lv_aload hx hb dX4_goesBeforeInTheTree_87 (lv_at hl 4 rfl) ?_
                refine m_getN (C := RX1) (T := TX1) (N := 6) (host := "TaskKernel") hx hb hts hi_X1 hown hK hV 3 (v := .long (kW σ 23 k77)) (g_grp3 hC (by first | assumption | (show k77 < kN σ 62 1; omega))) rfl (by decide) kn197 (fun _ h9 => h9) dX4_goesBeforeInTheTree_89 ?_
                refine lv_lstore (lv' := [(6, .long (kW σ 23 k77)), (0, .ref (L 3 a)), (1, .ref (L 3 b)), (2, .ref (L 2 k27)), (3, .ref (L 2 k31)), (4, .ref (L 2 k77)), (5, va_rf ((y).map (L 2)))]) hx hb dX4_goesBeforeInTheTree_92 hl (by decide) (by first | rfl | simp [rf_cat, ct_ref, ct_int, ct_long]) (fun ls hl => ?_)
                refine m_aload_q hx hb dX4_goesBeforeInTheTree_94 (lv_at hl 6 rfl) ?_
                refine m_ifnonnull_q (o := y) (f := L 2) (tgt := 106) hx hb dX4_goesBeforeInTheTree_96 (by decide) (fun k96 c96 => ?_) (fun c96 => ?_)
                · have bk96 := hqy k96 c96
                  replace hl : lv_has ls 10 [(6, .long (kW σ 23 k77)), (0, .ref (L 3 a)), (1, .ref (L 3 b)), (2, .ref (L 2 k27)), (3, .ref (L 2 k31)), (4, .ref (L 2 k77)), (5, .ref (L 2 k96))] := by have h9 := hl; rw [c96] at h9; exact h9
                  refine lv_aload hx hb dX4_goesBeforeInTheTree_106 (lv_at hl 6 rfl) ?_
                  refine m_getN (C := RX1) (T := TX1) (N := 6) (host := "TaskKernel") hx hb hts hi_X1 hown hK hV 3 (v := .long (kW σ 23 k96)) (g_grp3 hC (by first | assumption | (show k96 < kN σ 62 1; omega))) rfl (by decide) kn197 (fun _ h9 => h9) dX4_goesBeforeInTheTree_108 ?_
                  refine lv_lstore (lv' := [(8, .long (kW σ 23 k96)), (6, .long (kW σ 23 k77)), (0, .ref (L 3 a)), (1, .ref (L 3 b)), (2, .ref (L 2 k27)), (3, .ref (L 2 k31)), (4, .ref (L 2 k77)), (5, .ref (L 2 k96))]) hx hb dX4_goesBeforeInTheTree_111 hl (by decide) rfl (fun ls hl => ?_)
                  refine lv_lload hx hb dX4_goesBeforeInTheTree_113 (lv_at hl 1 rfl) ?_
                  refine lv_lload hx hb dX4_goesBeforeInTheTree_115 (lv_at hl 0 rfl) ?_
                  refine m_lcmp_eq (tgt := 135) hx hb dX4_goesBeforeInTheTree_117 dX4_goesBeforeInTheTree_118 (by decide) (fun c118 => ?_) (fun c118 => ?_)
                  · refine lv_aload hx hb dX4_goesBeforeInTheTree_135 (lv_at hl 6 rfl) ?_
                    refine lv_ifnull hx hb dX4_goesBeforeInTheTree_137 ?_
                    refine lv_aload hx hb dX4_goesBeforeInTheTree_140 (lv_at hl 7 rfl) ?_
                    refine lv_ifnull hx hb dX4_goesBeforeInTheTree_142 ?_
                    refine lv_aload hx hb dX4_goesBeforeInTheTree_145 (lv_at hl 6 rfl) ?_
                    refine m_getN (C := RX1) (T := TX1) (N := 6) (host := "TaskKernel") hx hb hts hi_X1 hown hK hV 0 (v := .int (nI k77)) (g_grp0 hC (by first | assumption | (show k77 < kN σ 62 1; omega))) rfl (by decide) kn349 (fun _ h9 => h9) dX4_goesBeforeInTheTree_147 ?_
                    refine lv_aload hx hb dX4_goesBeforeInTheTree_150 (lv_at hl 7 rfl) ?_
                    refine m_getN (C := RX1) (T := TX1) (N := 6) (host := "TaskKernel") hx hb hts hi_X1 hown hK hV 0 (v := .int (nI k96)) (g_grp0 hC (by first | assumption | (show k96 < kN σ 62 1; omega))) rfl (by decide) kn349 (fun _ h9 => h9) dX4_goesBeforeInTheTree_152 ?_
                    refine lv_icmp_ge (tgt := 162) hx hb dX4_goesBeforeInTheTree_155 (by decide) (fun c155 => ?_) (fun c155 => ?_)
                    · replace c155 : k96 ≤ k77 := (nI_leI (a := k96) (b := k77) (by omega) (by omega)).mp c155
                      refine lv_iconst (v := 0) hx hb dX4_goesBeforeInTheTree_162 (by decide) ?_
                      exact m_zret (v := 0) hx hb hr hlocks (by decide) hV hS (⟨rfl, by unfold gtS gtE; rw [hR]; simp_all [tmS, bI]⟩) dX4_goesBeforeInTheTree_163
                    · replace c155 : ¬ k96 ≤ k77 := fun q9 => c155 ((nI_leI (a := k96) (b := k77) (by omega) (by omega)).mpr q9)
                      refine lv_iconst (v := 1) hx hb dX4_goesBeforeInTheTree_158 (by decide) ?_
                      refine lv_goto (tgt := 163) hx hb dX4_goesBeforeInTheTree_159 (by decide) ?_
                      exact m_zret (v := 1) hx hb hr hlocks (by decide) hV hS (⟨rfl, by unfold gtS gtE; rw [hR]; simp_all [tmS, bI]⟩) dX4_goesBeforeInTheTree_163
                  · refine lv_lload hx hb dX4_goesBeforeInTheTree_121 (lv_at hl 1 rfl) ?_
                    refine lv_lload hx hb dX4_goesBeforeInTheTree_123 (lv_at hl 0 rfl) ?_
                    refine m_lcmp_ge (tgt := 133) hx hb dX4_goesBeforeInTheTree_125 dX4_goesBeforeInTheTree_126 (by decide) (fun c126 => ?_) (fun c126 => ?_)
                    · refine lv_iconst (v := 0) hx hb dX4_goesBeforeInTheTree_133 (by decide) ?_
                      exact m_zret (v := 0) hx hb hr hlocks (by decide) hV hS (⟨rfl, by unfold gtS gtE; rw [hR]; simp_all [tmS, bI]⟩) dX4_goesBeforeInTheTree_134
                    · refine lv_iconst (v := 1) hx hb dX4_goesBeforeInTheTree_129 (by decide) ?_
                      refine lv_goto (tgt := 134) hx hb dX4_goesBeforeInTheTree_130 (by decide) ?_
                      exact m_zret (v := 1) hx hb hr hlocks (by decide) hV hS (⟨rfl, by unfold gtS gtE; rw [hR]; simp_all [tmS, bI]⟩) dX4_goesBeforeInTheTree_134
                · replace hl : lv_has ls 10 [(6, .long (kW σ 23 k77)), (0, .ref (L 3 a)), (1, .ref (L 3 b)), (2, .ref (L 2 k27)), (3, .ref (L 2 k31)), (4, .ref (L 2 k77)), (5, .null)] := by have h9 := hl; rw [c96] at h9; exact h9
                  refine lv_aload_n hx hb dX4_goesBeforeInTheTree_99 rfl (lv_at hl 2 rfl) ?_
                  refine m_getN (C := RX3) (T := TX3) (N := 16) (host := "TaskKernel") hx hb hts hi_X3 hown hK hV 3 (v := .long (kW σ 33 b)) (g_task3 hC (by first | assumption | (show b < kN σ 62 2; omega))) rfl (by decide) kn191 (fun _ h9 => h9) dX4_goesBeforeInTheTree_100 ?_
                  refine lv_goto (tgt := 111) hx hb dX4_goesBeforeInTheTree_103 (by decide) ?_
                  refine lv_lstore (lv' := [(8, .long (kW σ 33 b)), (6, .long (kW σ 23 k77)), (0, .ref (L 3 a)), (1, .ref (L 3 b)), (2, .ref (L 2 k27)), (3, .ref (L 2 k31)), (4, .ref (L 2 k77)), (5, .null)]) hx hb dX4_goesBeforeInTheTree_111 hl (by decide) rfl (fun ls hl => ?_)
                  refine lv_lload hx hb dX4_goesBeforeInTheTree_113 (lv_at hl 1 rfl) ?_
                  refine lv_lload hx hb dX4_goesBeforeInTheTree_115 (lv_at hl 0 rfl) ?_
                  refine m_lcmp_eq (tgt := 135) hx hb dX4_goesBeforeInTheTree_117 dX4_goesBeforeInTheTree_118 (by decide) (fun c118 => ?_) (fun c118 => ?_)
                  · refine lv_aload hx hb dX4_goesBeforeInTheTree_135 (lv_at hl 6 rfl) ?_
                    refine lv_ifnull hx hb dX4_goesBeforeInTheTree_137 ?_
                    refine lv_aloadN hx hb dX4_goesBeforeInTheTree_140 (lv_at hl 7 rfl) ?_
                    refine lv_ifnullN (tgt := 164) hx hb dX4_goesBeforeInTheTree_142 (by decide) ?_
                    refine lv_aload hx hb dX4_goesBeforeInTheTree_164 (lv_at hl 6 rfl) ?_
                    refine lv_ifnonnull (tgt := 191) hx hb dX4_goesBeforeInTheTree_166 (by decide) ?_
                    refine lv_aload hx hb dX4_goesBeforeInTheTree_191 (lv_at hl 6 rfl) ?_
                    refine lv_ifnull hx hb dX4_goesBeforeInTheTree_193 ?_
                    refine lv_iconst (v := 1) hx hb dX4_goesBeforeInTheTree_196 (by decide) ?_
                    refine lv_goto (tgt := 201) hx hb dX4_goesBeforeInTheTree_197 (by decide) ?_
                    exact m_zret (v := 1) hx hb hr hlocks (by decide) hV hS (⟨rfl, by unfold gtS gtE; rw [hR]; simp_all [tmS, bI]⟩) dX4_goesBeforeInTheTree_201
                  · refine lv_lload hx hb dX4_goesBeforeInTheTree_121 (lv_at hl 1 rfl) ?_
                    refine lv_lload hx hb dX4_goesBeforeInTheTree_123 (lv_at hl 0 rfl) ?_
                    refine m_lcmp_ge (tgt := 133) hx hb dX4_goesBeforeInTheTree_125 dX4_goesBeforeInTheTree_126 (by decide) (fun c126 => ?_) (fun c126 => ?_)
                    · refine lv_iconst (v := 0) hx hb dX4_goesBeforeInTheTree_133 (by decide) ?_
                      exact m_zret (v := 0) hx hb hr hlocks (by decide) hV hS (⟨rfl, by unfold gtS gtE; rw [hR]; simp_all [tmS, bI]⟩) dX4_goesBeforeInTheTree_134
                    · refine lv_iconst (v := 1) hx hb dX4_goesBeforeInTheTree_129 (by decide) ?_
                      refine lv_goto (tgt := 134) hx hb dX4_goesBeforeInTheTree_130 (by decide) ?_
                      exact m_zret (v := 1) hx hb hr hlocks (by decide) hV hS (⟨rfl, by unfold gtS gtE; rw [hR]; simp_all [tmS, bI]⟩) dX4_goesBeforeInTheTree_134
              · replace hl : lv_has ls 10 [(0, .ref (L 3 a)), (1, .ref (L 3 b)), (2, .ref (L 2 k27)), (3, .ref (L 2 k31)), (4, .null), (5, va_rf ((y).map (L 2))), (6, .int (nI i))] := by have h9 := hl; rw [c77] at h9; exact h9
                refine lv_aload_n hx hb dX4_goesBeforeInTheTree_80 rfl (lv_at hl 0 rfl) ?_
                refine m_getN (C := RX3) (T := TX3) (N := 16) (host := "TaskKernel") hx hb hts hi_X3 hown hK hV 3 (v := .long (kW σ 33 a)) (g_task3 hC (by first | assumption | (show a < kN σ 62 2; omega))) rfl (by decide) kn191 (fun _ h9 => h9) dX4_goesBeforeInTheTree_81 ?_
                refine lv_goto (tgt := 92) hx hb dX4_goesBeforeInTheTree_84 (by decide) ?_
                refine lv_lstore (lv' := [(6, .long (kW σ 33 a)), (0, .ref (L 3 a)), (1, .ref (L 3 b)), (2, .ref (L 2 k27)), (3, .ref (L 2 k31)), (4, .null), (5, va_rf ((y).map (L 2)))]) hx hb dX4_goesBeforeInTheTree_92 hl (by decide) (by first | rfl | simp [rf_cat, ct_ref, ct_int, ct_long]) (fun ls hl => ?_)
                refine m_aload_q hx hb dX4_goesBeforeInTheTree_94 (lv_at hl 6 rfl) ?_
                refine m_ifnonnull_q (o := y) (f := L 2) (tgt := 106) hx hb dX4_goesBeforeInTheTree_96 (by decide) (fun k96 c96 => ?_) (fun c96 => ?_)
                · have bk96 := hqy k96 c96
                  replace hl : lv_has ls 10 [(6, .long (kW σ 33 a)), (0, .ref (L 3 a)), (1, .ref (L 3 b)), (2, .ref (L 2 k27)), (3, .ref (L 2 k31)), (4, .null), (5, .ref (L 2 k96))] := by have h9 := hl; rw [c96] at h9; exact h9
                  refine lv_aload hx hb dX4_goesBeforeInTheTree_106 (lv_at hl 6 rfl) ?_
                  refine m_getN (C := RX1) (T := TX1) (N := 6) (host := "TaskKernel") hx hb hts hi_X1 hown hK hV 3 (v := .long (kW σ 23 k96)) (g_grp3 hC (by first | assumption | (show k96 < kN σ 62 1; omega))) rfl (by decide) kn197 (fun _ h9 => h9) dX4_goesBeforeInTheTree_108 ?_
                  refine lv_lstore (lv' := [(8, .long (kW σ 23 k96)), (6, .long (kW σ 33 a)), (0, .ref (L 3 a)), (1, .ref (L 3 b)), (2, .ref (L 2 k27)), (3, .ref (L 2 k31)), (4, .null), (5, .ref (L 2 k96))]) hx hb dX4_goesBeforeInTheTree_111 hl (by decide) rfl (fun ls hl => ?_)
                  refine lv_lload hx hb dX4_goesBeforeInTheTree_113 (lv_at hl 1 rfl) ?_
                  refine lv_lload hx hb dX4_goesBeforeInTheTree_115 (lv_at hl 0 rfl) ?_
                  refine m_lcmp_eq (tgt := 135) hx hb dX4_goesBeforeInTheTree_117 dX4_goesBeforeInTheTree_118 (by decide) (fun c118 => ?_) (fun c118 => ?_)
                  · refine lv_aloadN hx hb dX4_goesBeforeInTheTree_135 (lv_at hl 6 rfl) ?_
                    refine lv_ifnullN (tgt := 164) hx hb dX4_goesBeforeInTheTree_137 (by decide) ?_
                    refine lv_aloadN hx hb dX4_goesBeforeInTheTree_164 (lv_at hl 6 rfl) ?_
                    refine lv_ifnonnullN hx hb dX4_goesBeforeInTheTree_166 ?_
                    refine lv_aload hx hb dX4_goesBeforeInTheTree_169 (lv_at hl 7 rfl) ?_
                    refine lv_ifnonnull (tgt := 191) hx hb dX4_goesBeforeInTheTree_171 (by decide) ?_
                    refine lv_aloadN hx hb dX4_goesBeforeInTheTree_191 (lv_at hl 6 rfl) ?_
                    refine lv_ifnullN (tgt := 200) hx hb dX4_goesBeforeInTheTree_193 (by decide) ?_
                    refine lv_iconst (v := 0) hx hb dX4_goesBeforeInTheTree_200 (by decide) ?_
                    exact m_zret (v := 0) hx hb hr hlocks (by decide) hV hS (⟨rfl, by unfold gtS gtE; rw [hR]; simp_all [tmS, bI]⟩) dX4_goesBeforeInTheTree_201
                  · refine lv_lload hx hb dX4_goesBeforeInTheTree_121 (lv_at hl 1 rfl) ?_
                    refine lv_lload hx hb dX4_goesBeforeInTheTree_123 (lv_at hl 0 rfl) ?_
                    refine m_lcmp_ge (tgt := 133) hx hb dX4_goesBeforeInTheTree_125 dX4_goesBeforeInTheTree_126 (by decide) (fun c126 => ?_) (fun c126 => ?_)
                    · refine lv_iconst (v := 0) hx hb dX4_goesBeforeInTheTree_133 (by decide) ?_
                      exact m_zret (v := 0) hx hb hr hlocks (by decide) hV hS (⟨rfl, by unfold gtS gtE; rw [hR]; simp_all [tmS, bI]⟩) dX4_goesBeforeInTheTree_134
                    · refine lv_iconst (v := 1) hx hb dX4_goesBeforeInTheTree_129 (by decide) ?_
                      refine lv_goto (tgt := 134) hx hb dX4_goesBeforeInTheTree_130 (by decide) ?_
                      exact m_zret (v := 1) hx hb hr hlocks (by decide) hV hS (⟨rfl, by unfold gtS gtE; rw [hR]; simp_all [tmS, bI]⟩) dX4_goesBeforeInTheTree_134
                · replace hl : lv_has ls 10 [(6, .long (kW σ 33 a)), (0, .ref (L 3 a)), (1, .ref (L 3 b)), (2, .ref (L 2 k27)), (3, .ref (L 2 k31)), (4, .null), (5, .null)] := by have h9 := hl; rw [c96] at h9; exact h9
                  refine lv_aload_n hx hb dX4_goesBeforeInTheTree_99 rfl (lv_at hl 2 rfl) ?_
                  refine m_getN (C := RX3) (T := TX3) (N := 16) (host := "TaskKernel") hx hb hts hi_X3 hown hK hV 3 (v := .long (kW σ 33 b)) (g_task3 hC (by first | assumption | (show b < kN σ 62 2; omega))) rfl (by decide) kn191 (fun _ h9 => h9) dX4_goesBeforeInTheTree_100 ?_
                  refine lv_goto (tgt := 111) hx hb dX4_goesBeforeInTheTree_103 (by decide) ?_
                  refine lv_lstore (lv' := [(8, .long (kW σ 33 b)), (6, .long (kW σ 33 a)), (0, .ref (L 3 a)), (1, .ref (L 3 b)), (2, .ref (L 2 k27)), (3, .ref (L 2 k31)), (4, .null), (5, .null)]) hx hb dX4_goesBeforeInTheTree_111 hl (by decide) rfl (fun ls hl => ?_)
                  refine lv_lload hx hb dX4_goesBeforeInTheTree_113 (lv_at hl 1 rfl) ?_
                  refine lv_lload hx hb dX4_goesBeforeInTheTree_115 (lv_at hl 0 rfl) ?_
                  refine m_lcmp_eq (tgt := 135) hx hb dX4_goesBeforeInTheTree_117 dX4_goesBeforeInTheTree_118 (by decide) (fun c118 => ?_) (fun c118 => ?_)
                  · refine lv_aloadN hx hb dX4_goesBeforeInTheTree_135 (lv_at hl 6 rfl) ?_
                    refine lv_ifnullN (tgt := 164) hx hb dX4_goesBeforeInTheTree_137 (by decide) ?_
                    refine lv_aloadN hx hb dX4_goesBeforeInTheTree_164 (lv_at hl 6 rfl) ?_
                    refine lv_ifnonnullN hx hb dX4_goesBeforeInTheTree_166 ?_
                    refine lv_aloadN hx hb dX4_goesBeforeInTheTree_169 (lv_at hl 7 rfl) ?_
                    refine lv_ifnonnullN hx hb dX4_goesBeforeInTheTree_171 ?_
                    refine lv_aload_n hx hb dX4_goesBeforeInTheTree_174 rfl (lv_at hl 2 rfl) ?_
                    refine m_getN (C := RX3) (T := TX3) (N := 16) (host := "TaskKernel") hx hb hts hi_X3 hown hK hV 0 (v := .int (nI a)) (g_task0 hC (by first | assumption | (show a < kN σ 62 2; omega))) rfl (by decide) kn283 (fun _ h9 => h9) dX4_goesBeforeInTheTree_175 ?_
                    refine lv_aload_n hx hb dX4_goesBeforeInTheTree_178 rfl (lv_at hl 3 rfl) ?_
                    refine m_getN (C := RX3) (T := TX3) (N := 16) (host := "TaskKernel") hx hb hts hi_X3 hown hK hV 0 (v := .int (nI b)) (g_task0 hC (by first | assumption | (show b < kN σ 62 2; omega))) rfl (by decide) kn283 (fun _ h9 => h9) dX4_goesBeforeInTheTree_179 ?_
                    refine lv_icmp_ge (tgt := 189) hx hb dX4_goesBeforeInTheTree_182 (by decide) (fun c182 => ?_) (fun c182 => ?_)
                    · replace c182 : b ≤ a := (nI_leI (a := b) (b := a) (by omega) (by omega)).mp c182
                      refine lv_iconst (v := 0) hx hb dX4_goesBeforeInTheTree_189 (by decide) ?_
                      exact m_zret (v := 0) hx hb hr hlocks (by decide) hV hS (⟨rfl, by unfold gtS gtE; rw [hR]; simp_all [tmS, bI]⟩) dX4_goesBeforeInTheTree_190
                    · replace c182 : ¬ b ≤ a := fun q9 => c182 ((nI_leI (a := b) (b := a) (by omega) (by omega)).mpr q9)
                      refine lv_iconst (v := 1) hx hb dX4_goesBeforeInTheTree_185 (by decide) ?_
                      refine lv_goto (tgt := 190) hx hb dX4_goesBeforeInTheTree_186 (by decide) ?_
                      exact m_zret (v := 1) hx hb hr hlocks (by decide) hV hS (⟨rfl, by unfold gtS gtE; rw [hR]; simp_all [tmS, bI]⟩) dX4_goesBeforeInTheTree_190
                  · refine lv_lload hx hb dX4_goesBeforeInTheTree_121 (lv_at hl 1 rfl) ?_
                    refine lv_lload hx hb dX4_goesBeforeInTheTree_123 (lv_at hl 0 rfl) ?_
                    refine m_lcmp_ge (tgt := 133) hx hb dX4_goesBeforeInTheTree_125 dX4_goesBeforeInTheTree_126 (by decide) (fun c126 => ?_) (fun c126 => ?_)
                    · refine lv_iconst (v := 0) hx hb dX4_goesBeforeInTheTree_133 (by decide) ?_
                      exact m_zret (v := 0) hx hb hr hlocks (by decide) hV hS (⟨rfl, by unfold gtS gtE; rw [hR]; simp_all [tmS, bI]⟩) dX4_goesBeforeInTheTree_134
                    · refine lv_iconst (v := 1) hx hb dX4_goesBeforeInTheTree_129 (by decide) ?_
                      refine lv_goto (tgt := 134) hx hb dX4_goesBeforeInTheTree_130 (by decide) ?_
                      exact m_zret (v := 1) hx hb hr hlocks (by decide) hV hS (⟨rfl, by unfold gtS gtE; rw [hR]; simp_all [tmS, bI]⟩) dX4_goesBeforeInTheTree_134
            · replace c36 : ¬ k27 = k31 := fun q9 => c36 (by rw [q9])
              refine lv_aload_n hx hb dX4_goesBeforeInTheTree_39 rfl (lv_at hl 2 rfl) ?_
              refine m_getN (C := RX1) (T := TX1) (N := 6) (host := "TaskKernel") hx hb hts hi_X1 hown hK hV 0 (v := .int (nI k27)) (g_grp0 hC (by first | assumption | (show k27 < kN σ 62 1; omega))) rfl (by decide) kn349 (fun _ h9 => h9) dX4_goesBeforeInTheTree_40 ?_
              refine lv_aload_n hx hb dX4_goesBeforeInTheTree_43 rfl (lv_at hl 3 rfl) ?_
              refine m_getN (C := RX1) (T := TX1) (N := 6) (host := "TaskKernel") hx hb hts hi_X1 hown hK hV 0 (v := .int (nI k31)) (g_grp0 hC (by first | assumption | (show k31 < kN σ 62 1; omega))) rfl (by decide) kn349 (fun _ h9 => h9) dX4_goesBeforeInTheTree_44 ?_
              refine lv_icmp_le (tgt := 61) hx hb dX4_goesBeforeInTheTree_47 (by decide) (fun c47 => ?_) (fun c47 => ?_)
              · replace c47 : k27 ≤ k31 := (nI_leI (a := k27) (b := k31) (by omega) (by omega)).mp c47
                refine lv_aload_n hx hb dX4_goesBeforeInTheTree_61 rfl (lv_at hl 3 rfl) ?_
                refine lv_astore (lv' := [(5, .ref (L 2 k31)), (0, .ref (L 3 a)), (1, .ref (L 3 b)), (2, .ref (L 2 k27)), (3, .ref (L 2 k31)), (4, va_rf ((x).map (L 2))), (6, .int (nI i))]) hx hb dX4_goesBeforeInTheTree_62 hl (by decide) (by first | rfl | simp [rf_cat, ct_ref, ct_int, ct_long]) (fun ls hl => ?_)
                refine lv_aload_n hx hb dX4_goesBeforeInTheTree_64 rfl (lv_at hl 4 rfl) ?_
                refine m_getN (C := RX1) (T := TX1) (N := 6) (host := "TaskKernel") hx hb hts hi_X1 hown hK hV 1 (v := va_rf ((kO σ 20 k31).map (L 2))) (g_grp1 hC (by first | assumption | (show k31 < kN σ 62 1; omega))) rfl (by decide) kn290 (fun _ h9 => h9) dX4_goesBeforeInTheTree_65 ?_
                refine m_astore_nq (i := 3) (lv' := [(3, va_rf ((kO σ 20 k31).map (L 2))), (5, .ref (L 2 k31)), (0, .ref (L 3 a)), (1, .ref (L 3 b)), (2, .ref (L 2 k27)), (4, va_rf ((x).map (L 2))), (6, .int (nI i))]) hx hb dX4_goesBeforeInTheTree_68 rfl hl (by decide) (by first | rfl | simp [rf_cat, ct_ref, ct_int, ct_long]) (fun ls hl => ?_)
                refine lv_iinc (v := nI (i + 1)) (lv' := [(6, .int (nI (i + 1))), (3, va_rf ((kO σ 20 k31).map (L 2))), (5, .ref (L 2 k31)), (0, .ref (L 3 a)), (1, .ref (L 3 b)), (2, .ref (L 2 k27)), (4, va_rf ((x).map (L 2)))]) hx hb dX4_goesBeforeInTheTree_69 hl (k := 6) rfl (show nI i + Int32.ofInt 1 = _ from nI_add i 1) (by decide) (by first | rfl | simp [rf_cat, ct_ref, ct_int, ct_long]) (fun ls hl => ?_)
                refine lv_goto (tgt := 19) hx hb dX4_goesBeforeInTheTree_72 (by decide) ?_
                have w9 : gbL σ (12 - (i + 1)) (some k27) (kO σ 20 k31) x (some k31) = gtR σ a b := by rw [← hf, show 12 - i = (12 - (i + 1)) + 1 by omega, c27, c31, gbL, if_neg c36, if_neg (by omega)]
                have q1 : (.ref (L 2 k27) : Value) = va_rf (((some k27)).map (L 2)) := rfl
                have q2 : (va_rf ((kO σ 20 k31).map (L 2)) : Value) = va_rf (((kO σ 20 k31)).map (L 2)) := rfl
                have q3 : (.ref (L 2 k31) : Value) = va_rf (((some k31)).map (L 2)) := rfl
                replace hl : lv_has ls 10 [(6, .int (nI (i + 1))), (3, va_rf (((kO σ 20 k31)).map (L 2))), (5, va_rf (((some k31)).map (L 2))), (0, .ref (L 3 a)), (1, .ref (L 3 b)), (2, va_rf (((some k27)).map (L 2))), (4, va_rf ((x).map (L 2)))] := (congrArg (lv_has ls 10) (m_lc rfl (m_lc q2 (m_lc q3 (m_lc rfl (m_lc rfl (m_lc q1 (m_lc rfl rfl)))))))).mp hl
                exact ih19 (i + 1) (some k27) (kO σ 20 k31) x (some k31) (by omega) (fun k9 h9 => by cases h9; exact bk27) (fun k9 h9 => (wf_par hC.wf bk31 h9).2) hqx (fun k9 h9 => by cases h9; exact bk31) w9 (by omega) _ _ hV hS ls (lv_sub hl [3, 4, 5, 1, 6, 2, 0] rfl)
              · replace c47 : ¬ k27 ≤ k31 := fun q9 => c47 ((nI_leI (a := k27) (b := k31) (by omega) (by omega)).mpr q9)
                refine lv_aload_n hx hb dX4_goesBeforeInTheTree_50 rfl (lv_at hl 2 rfl) ?_
                refine lv_astore (lv' := [(4, .ref (L 2 k27)), (0, .ref (L 3 a)), (1, .ref (L 3 b)), (2, .ref (L 2 k27)), (3, .ref (L 2 k31)), (5, va_rf ((y).map (L 2))), (6, .int (nI i))]) hx hb dX4_goesBeforeInTheTree_51 hl (by decide) (by first | rfl | simp [rf_cat, ct_ref, ct_int, ct_long]) (fun ls hl => ?_)
                refine lv_aload_n hx hb dX4_goesBeforeInTheTree_53 rfl (lv_at hl 3 rfl) ?_
                refine m_getN (C := RX1) (T := TX1) (N := 6) (host := "TaskKernel") hx hb hts hi_X1 hown hK hV 1 (v := va_rf ((kO σ 20 k27).map (L 2))) (g_grp1 hC (by first | assumption | (show k27 < kN σ 62 1; omega))) rfl (by decide) kn290 (fun _ h9 => h9) dX4_goesBeforeInTheTree_54 ?_
                refine m_astore_nq (i := 2) (lv' := [(2, va_rf ((kO σ 20 k27).map (L 2))), (4, .ref (L 2 k27)), (0, .ref (L 3 a)), (1, .ref (L 3 b)), (3, .ref (L 2 k31)), (5, va_rf ((y).map (L 2))), (6, .int (nI i))]) hx hb dX4_goesBeforeInTheTree_57 rfl hl (by decide) (by first | rfl | simp [rf_cat, ct_ref, ct_int, ct_long]) (fun ls hl => ?_)
                refine lv_goto (tgt := 69) hx hb dX4_goesBeforeInTheTree_58 (by decide) ?_
                refine lv_iinc (v := nI (i + 1)) (lv' := [(6, .int (nI (i + 1))), (2, va_rf ((kO σ 20 k27).map (L 2))), (4, .ref (L 2 k27)), (0, .ref (L 3 a)), (1, .ref (L 3 b)), (3, .ref (L 2 k31)), (5, va_rf ((y).map (L 2)))]) hx hb dX4_goesBeforeInTheTree_69 hl (k := 6) rfl (show nI i + Int32.ofInt 1 = _ from nI_add i 1) (by decide) (by first | rfl | simp [rf_cat, ct_ref, ct_int, ct_long]) (fun ls hl => ?_)
                refine lv_goto (tgt := 19) hx hb dX4_goesBeforeInTheTree_72 (by decide) ?_
                have w9 : gbL σ (12 - (i + 1)) (kO σ 20 k27) (some k31) (some k27) y = gtR σ a b := by rw [← hf, show 12 - i = (12 - (i + 1)) + 1 by omega, c27, c31, gbL, if_neg c36, if_pos (by omega)]
                have q4 : (va_rf ((kO σ 20 k27).map (L 2)) : Value) = va_rf (((kO σ 20 k27)).map (L 2)) := rfl
                have q5 : (.ref (L 2 k31) : Value) = va_rf (((some k31)).map (L 2)) := rfl
                have q6 : (.ref (L 2 k27) : Value) = va_rf (((some k27)).map (L 2)) := rfl
                replace hl : lv_has ls 10 [(6, .int (nI (i + 1))), (2, va_rf (((kO σ 20 k27)).map (L 2))), (4, va_rf (((some k27)).map (L 2))), (0, .ref (L 3 a)), (1, .ref (L 3 b)), (3, va_rf (((some k31)).map (L 2))), (5, va_rf ((y).map (L 2)))] := (congrArg (lv_has ls 10) (m_lc rfl (m_lc q4 (m_lc q6 (m_lc rfl (m_lc rfl (m_lc q5 (m_lc rfl rfl)))))))).mp hl
                exact ih19 (i + 1) (kO σ 20 k27) (some k31) (some k27) y (by omega) (fun k9 h9 => (wf_par hC.wf bk27 h9).2) (fun k9 h9 => by cases h9; exact bk31) (fun k9 h9 => by cases h9; exact bk27) hqy w9 (by omega) _ _ hV hS ls (lv_sub hl [3, 4, 1, 5, 2, 6, 0] rfl)
  have q7 : (.ref (L 2 (kN σ 31 a)) : Value) = va_rf (((some (kN σ 31 a))).map (L 2)) := rfl
  have q8 : (.ref (L 2 (kN σ 31 b)) : Value) = va_rf (((some (kN σ 31 b))).map (L 2)) := rfl
  have q9 : (.null : Value) = va_rf ((none).map (L 2)) := rfl
  have q10 : (.null : Value) = va_rf ((none).map (L 2)) := rfl
  have q11 : 0 = nI 0 := rfl
  replace hl : lv_has ls 10 [(6, .int (nI 0)), (5, va_rf ((none).map (L 2))), (4, va_rf ((none).map (L 2))), (3, va_rf (((some (kN σ 31 b))).map (L 2))), (2, va_rf (((some (kN σ 31 a))).map (L 2))), (0, .ref (L 3 a)), (1, .ref (L 3 b))] := (congrArg (lv_has ls 10) (m_lc (congrArg Value.int q11) (m_lc q10 (m_lc q9 (m_lc q8 (m_lc q7 (m_lc rfl (m_lc rfl rfl)))))))).mp hl
  exact lp19 ((12 - 0) + 1) 0 (some (kN σ 31 a)) (some (kN σ 31 b)) none none (Nat.zero_le _) (fun k9 h9 => by cases h9; exact hC.wf.2.2.2.2.2.1 a ha) (fun k9 h9 => by cases h9; exact hC.wf.2.2.2.2.2.1 b hb9) (fun _ z => nomatch z) (fun _ z => nomatch z) rfl (Nat.lt_succ_self _) _ _ hV hS ls (lv_sub hl [5, 6, 4, 3, 2, 1, 0] rfl)
