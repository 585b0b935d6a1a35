set_option maxHeartbeats 4000000 in
set_option maxRecDepth 100000 in
theorem c_X4_leastTimeIn {l : Launch} {D : va_G} {cs : mC} {df : Nat} {P : Nat → Prop} {h0 : mH} {L : KL} {σ : KS} {hh : mH} (sz : Nat) (hC : CRep cs df P h0 L σ hh) (g : Nat) (hg : g < kN σ 62 1) : Met l yX4_leastTimeIn wsX4_leastTimeIn ({ frames := 3, cells := 0, slots := 0, locals := 64 }) (mPre [.ref (L 0 0), .ref (L 2 g)] D cs df hh sz) (va_Ql ((fun (r : Int64) (h1 : mH) => h1 = hh ∧ r = (leastS σ g))) (mB D hh sz) (mA hh sz)) 0 0 (mA hh sz) := by
  refine Met.ofW (cc := cX4_leastTimeIn) (maxL := 6) (ret := (some .long)) (by decide) rfl ?_
  intro p e s m args below meth c s₁ B0 hml hv
  obtain ⟨hargs, hsz, hV, hE⟩ := hv
  subst hsz
  have hx := B0.exec
  have hb := B0.bytes
  have hr := B0.returns
  have hlocks := B0.notSynchronized
  have hts := atoms_spec (ws := wsX4_leastTimeIn) B0.pre
  have hown : s.vm.findClass RX4 = some m.cls := findClass_of_methodNamed B0.named
  have hK := hE.1.1
  have hA : ∀ q : Nat, s.heap.size ≤ q → mA hh s.heap.size q := mA.top
  have hS : va_S (mA hh s.heap.size) s.heap s.heap [] := va_S.rf
  have kk288 : (Cond.constantLong RX4 288 (9223372036854775807)).before args s = true := hts _ (by decide +kernel)
  have hi_X4 : ∀ w ∈ u_ws RX4 TX4 11, w ∈ wsX4_leastTimeIn := by decide +kernel
  have k18 : (Cond.fieldLink RX4 18 "TaskKernel" "groups" "Ljava/util/ArrayList;").before args s = true := hts _ (by decide +kernel)
  have k21 : (Cond.fieldLink RX4 21 "TaskKernel" "tasks" "Ljava/util/ArrayList;").before args s = true := hts _ (by decide +kernel)
  have kc121 : (Cond.classLink RX4 121 "TaskKernel$Task").before args s = true := hts _ (by decide +kernel)
  have hi_X3 : ∀ w ∈ u_ws RX3 TX3 16, w ∈ wsX4_leastTimeIn := by decide +kernel
  have kn296 : va_Nw (.fieldLinkNest RX4 296 "TaskKernel$Task" "group" "LTaskKernel$Group;" "TaskKernel") s := hE.1.2.1 _ (List.mem_of_getElem? (i := 12) rfl)
  have kn191 : va_Nw (.fieldLinkNest RX4 191 "TaskKernel$Task" "time" "J" "TaskKernel") s := hE.1.2.1 _ (List.mem_of_getElem? (i := 14) rfl)
  have kc27 : (Cond.classLink RX4 27 "TaskKernel$Group").before args s = true := hts _ (by decide +kernel)
  have hi_X1 : ∀ w ∈ u_ws RX1 TX1 6, w ∈ wsX4_leastTimeIn := by decide +kernel
  have kn290 : va_Nw (.fieldLinkNest RX4 290 "TaskKernel$Group" "parent" "LTaskKernel$Group;" "TaskKernel") s := hE.1.2.1 _ (List.mem_of_getElem? (i := 1) rfl)
  have kn197 : va_Nw (.fieldLinkNest RX4 197 "TaskKernel$Group" "time" "J" "TaskKernel") s := hE.1.2.1 _ (List.mem_of_getElem? (i := 3) rfl)
  have hl := lv_entry ([.ref (L 0 0), .ref (L 2 g)]) (n := 6) (by first | exact Nat.le_of_ble_eq_true rfl | simp [lg_sl, rf_cat, ct_ref, ct_int, ct_null, ct_long])
  have hent := lg_entry_eq m ([.ref (L 0 0), .ref (L 2 g)]) 6
  rw [← hargs] at hent
  rw [hent]
  generalize (lg_sl ([.ref (L 0 0), .ref (L 2 g)]) ++ List.replicate (6 - (lg_sl ([.ref (L 0 0), .ref (L 2 g)])).length) Slot.unset).toArray = ls at hl ⊢
  replace hl : lv_has ls 6 [(0, .ref (L 0 0)), (1, .ref (L 2 g))] := hl
  have hwf := hC.wf
  obtain ⟨⟨z0, z1, z2, z3, z4⟩, z5, z6, z7, z8, z9, z10, z11, z12⟩ := hwf
  refine lv_ldc2 (v := 9223372036854775807) hx hb hown kk288 dX4_leastTimeIn_0 ?_
  refine lv_lstore_n (lv' := [(2, .long 9223372036854775807), (0, .ref (L 0 0)), (1, .ref (L 2 g))]) hx hb dX4_leastTimeIn_3 rfl hl (by decide) rfl (fun ls hl => ?_)
  refine lv_iconst (v := 0) hx hb dX4_leastTimeIn_4 (by decide) ?_
  refine lv_istore (lv' := [(4, .int 0), (2, .long 9223372036854775807), (0, .ref (L 0 0)), (1, .ref (L 2 g))]) hx hb dX4_leastTimeIn_5 hl (by decide) rfl (fun ls hl => ?_)
  have lp7 : ∀ (fu : Nat) (i : Nat), (i ≤ kN σ 62 1) → kN σ 62 1 - i < fu → ∀ (H : Heap) (locs : List Loc), mV D hh (mA hh s.heap.size) H → va_S (mA hh s.heap.size) s.heap H locs → ∀ (ls : Array Slot), lv_has ls 6 [(0, .ref (L 0 0)), (1, .ref (L 2 g)), (2, .long (lmG σ g i)), (4, .int (nI i))] → W p l e ({ frames := 3, cells := 0, slots := 0, locals := 64 } : Room) s m args below meth c H locs 0 0 (MQ below (va_Ql ((fun (r : Int64) (h1 : mH) => h1 = hh ∧ r = (leastS σ g))) (mB D hh s.heap.size) (mA hh s.heap.size)) args s 0 0 (mA hh s.heap.size)) (F0 m 7 ls []) := by
    intro fu
    induction fu with
    | zero =>
      intro i hi hfu
      exact absurd hfu (Nat.not_lt_zero _)
    | succ fu ih7 =>
      intro i hi hfu H locs hV hS ls hl
      refine lv_iload hx hb dX4_leastTimeIn_7 (lv_at hl 3 rfl) ?_
      refine lv_aload_n hx hb dX4_leastTimeIn_9 rfl (lv_at hl 0 rfl) ?_
      refine m_get (C := RX4) (T := TX4) (N := 11) hx hb hts hi_X4 hown hK hV 1 (v := .ref (L 5 1)) (g_kern1 hC rfl) rfl (by decide) k18 (fun _ h9 => h9) dX4_leastTimeIn_10 ?_
      refine m_calli (va_runV (As := []) (rest := [.int (nI i)]) ⟨hx, hb, hml, hown, hts⟩ (l_size (H.size) hC 1 (by decide)) (cwV 0 hts gX4_leastTimeIn_Jx4a65c_size_8abf5 rfl rfl rfl (by decide +kernel) ⟨by decide, by decide⟩) (m_preV (r := (RJx4a65c, TJx4a65c, 3)) hE hV hS hA (CRep.atL hC (j := 1) (by decide)) rfl) rfl rfl hl.1 rfl (lv_room (by first | exact Nat.le_of_ble_eq_true rfl | simp [rf_cat, ct_ref, ct_int, ct_null, ct_long])) dX4_leastTimeIn_13 ⟨by decide, by decide⟩) hV hS hA (fun r h1 H locs hV hS hp _ => ?_)
      obtain ⟨e1, e2⟩ := hp
      subst e2
      rw [e1] at hV; clear e1
      refine lv_icmp_ge (tgt := 58) hx hb dX4_leastTimeIn_16 (by decide) (fun c16 => ?_) (fun c16 => ?_)
      · replace c16 : kN σ 62 1 ≤ i := (nI_leI (a := kN σ 62 1) (b := i) (by omega) (by omega)).mp c16
        refine lv_iconst (v := 0) hx hb dX4_leastTimeIn_58 (by decide) ?_
        refine lv_istore (lv' := [(4, .int 0), (0, .ref (L 0 0)), (1, .ref (L 2 g)), (2, .long (lmG σ g i))]) hx hb dX4_leastTimeIn_59 hl (by decide) rfl (fun ls hl => ?_)
        have lp61 : ∀ (fu : Nat) (k : Nat), (k ≤ kN σ 62 2) → kN σ 62 2 - k < fu → ∀ (H : Heap) (locs : List Loc), mV D hh (mA hh s.heap.size) H → va_S (mA hh s.heap.size) s.heap H locs → ∀ (ls : Array Slot), lv_has ls 6 [(0, .ref (L 0 0)), (1, .ref (L 2 g)), (2, .long (lmT σ g k)), (4, .int (nI k))] → W p l e ({ frames := 3, cells := 0, slots := 0, locals := 64 } : Room) s m args below meth c H locs 0 0 (MQ below (va_Ql ((fun (r : Int64) (h1 : mH) => h1 = hh ∧ r = (leastS σ g))) (mB D hh s.heap.size) (mA hh s.heap.size)) args s 0 0 (mA hh s.heap.size)) (F0 m 61 ls []) := by
          intro fu
          induction fu with
          | zero =>
            intro k hk hfu
            exact absurd hfu (Nat.not_lt_zero _)
          | succ fu ih61 =>
            intro k hk hfu H locs hV hS ls hl
            refine lv_iload hx hb dX4_leastTimeIn_61 (lv_at hl 3 rfl) ?_
            refine lv_aload_n hx hb dX4_leastTimeIn_63 rfl (lv_at hl 0 rfl) ?_
            refine m_get (C := RX4) (T := TX4) (N := 11) hx hb hts hi_X4 hown hK hV 2 (v := .ref (L 5 2)) (g_kern2 hC rfl) rfl (by decide) k21 (fun _ h9 => h9) dX4_leastTimeIn_64 ?_
            refine m_calli (va_runV (As := []) (rest := [.int (nI k)]) ⟨hx, hb, hml, hown, hts⟩ (l_size (H.size) hC 2 (by decide)) (cwV 0 hts gX4_leastTimeIn_Jx4a65c_size_8abf5 rfl rfl rfl (by decide +kernel) ⟨by decide, by decide⟩) (m_preV (r := (RJx4a65c, TJx4a65c, 3)) hE hV hS hA (CRep.atL hC (j := 2) (by decide)) rfl) rfl rfl hl.1 rfl (lv_room (by first | exact Nat.le_of_ble_eq_true rfl | simp [rf_cat, ct_ref, ct_int, ct_null, ct_long])) dX4_leastTimeIn_67 ⟨by decide, by decide⟩) hV hS hA (fun r h1 H locs hV hS hp _ => ?_)
            obtain ⟨e1, e2⟩ := hp
            subst e2
            rw [e1] at hV; clear e1
            refine lv_icmp_ge (tgt := 112) hx hb dX4_leastTimeIn_70 (by decide) (fun c70 => ?_) (fun c70 => ?_)
            · replace c70 : kN σ 62 2 ≤ k := (nI_leI (a := kN σ 62 2) (b := k) (by omega) (by omega)).mp c70
              refine lv_lload_n hx hb dX4_leastTimeIn_112 rfl (lv_at hl 2 rfl) ?_
              refine lv_ldc2 (v := 9223372036854775807) hx hb hown kk288 dX4_leastTimeIn_113 ?_
              refine m_lcmp_ne (tgt := 124) hx hb dX4_leastTimeIn_116 dX4_leastTimeIn_117 (by decide) (fun c117 => ?_) (fun c117 => ?_)
              · refine lv_lload_n hx hb dX4_leastTimeIn_124 rfl (lv_at hl 2 rfl) ?_
                exact m_lret (v := (lmT σ g k)) hx hb hr hlocks hV hS (⟨rfl, by rw [show k = kN σ 62 2 by omega] at c117; unfold leastS; rw [if_neg c117, show k = kN σ 62 2 by omega]⟩) dX4_leastTimeIn_125
              · refine lv_lconst (v := 0) hx hb dX4_leastTimeIn_120 (by decide) ?_
                refine lv_goto (tgt := 125) hx hb dX4_leastTimeIn_121 (by decide) ?_
                exact m_lret (v := 0) hx hb hr hlocks hV hS (⟨rfl, by rw [show k = kN σ 62 2 by omega] at c117; unfold leastS; rw [if_pos c117]⟩) dX4_leastTimeIn_125
            · replace c70 : ¬ kN σ 62 2 ≤ k := fun q9 => c70 ((nI_leI (a := kN σ 62 2) (b := k) (by omega) (by omega)).mpr q9)
              refine lv_aload_n hx hb dX4_leastTimeIn_73 rfl (lv_at hl 0 rfl) ?_
              refine m_get (C := RX4) (T := TX4) (N := 11) hx hb hts hi_X4 hown hK hV 2 (v := .ref (L 5 2)) (g_kern2 hC rfl) rfl (by decide) k21 (fun _ h9 => h9) dX4_leastTimeIn_74 ?_
              refine lv_iload hx hb dX4_leastTimeIn_77 (lv_at hl 3 rfl) ?_
              refine m_callq (va_runV (As := [.int (nI k)]) (rest := []) ⟨hx, hb, hml, hown, hts⟩ (l_get2 (H.size) hC k (by first | assumption | omega)) (cwV 1 hts gX4_leastTimeIn_Jx4a65c_get_915e3 rfl rfl rfl (by decide +kernel) ⟨by decide, by decide⟩) (m_preV (r := (RJx4a65c, TJx4a65c, 3)) hE hV hS hA (CRep.atL hC (j := 2) (by decide)) rfl) rfl rfl hl.1 rfl (lv_room (by first | exact Nat.le_of_ble_eq_true rfl | simp [rf_cat, ct_ref, ct_int, ct_null, ct_long])) dX4_leastTimeIn_79 ⟨by decide, by decide⟩) hV hS hA (fun r h1 H locs hV hS hp _ => ?_)
              obtain ⟨e1, e2⟩ := hp
              subst e2
              rw [e1] at hV; clear e1
              refine m_cast (r := (RX3, TX3, 16)) hx hb hE hV (hC.at (k := 3) (i := k) (by first | assumption | (show k < kN σ 62 2; omega))) rfl hown kc121 dX4_leastTimeIn_82 ?_
              refine lv_astore (lv' := [(5, .ref (L 3 k)), (0, .ref (L 0 0)), (1, .ref (L 2 g)), (2, .long (lmT σ g k)), (4, .int (nI k))]) hx hb dX4_leastTimeIn_85 hl (by decide) rfl (fun ls hl => ?_)
              refine lv_aload hx hb dX4_leastTimeIn_87 (lv_at hl 0 rfl) ?_
              refine m_getN (C := RX3) (T := TX3) (N := 16) (host := "TaskKernel") hx hb hts hi_X3 hown hK hV 1 (v := .ref (L 2 (kN σ 31 k))) (g_task1 hC (by first | assumption | (show k < kN σ 62 2; omega))) rfl (by decide) kn296 (fun _ h9 => h9) dX4_leastTimeIn_89 ?_
              refine lv_aload_n hx hb dX4_leastTimeIn_92 rfl (lv_at hl 2 rfl) ?_
              refine lv_acmp_ne (rx := (some (L 2 (kN σ 31 k)))) (ry := (some (L 2 g))) (tgt := 106) hx hb dX4_leastTimeIn_93 (by decide) (fun c93 => ?_) (fun c93 => ?_)
              · replace c93 : ¬ (kN σ 31 k) = g := fun q9 => c93 (by rw [q9])
                refine lv_iinc (v := nI (k + 1)) (lv' := [(4, .int (nI (k + 1))), (5, .ref (L 3 k)), (0, .ref (L 0 0)), (1, .ref (L 2 g)), (2, .long (lmT σ g k))]) hx hb dX4_leastTimeIn_106 hl (k := 4) rfl (show nI k + Int32.ofInt 1 = _ from nI_add k 1) (by decide) rfl (fun ls hl => ?_)
                refine lv_goto (tgt := 61) hx hb dX4_leastTimeIn_109 (by decide) ?_
                have q1 : (lmT σ g k) = (lmT σ g (k + 1)) := (by rw [lmT, if_neg c93])
                replace hl : lv_has ls 6 [(4, .int (nI (k + 1))), (5, .ref (L 3 k)), (0, .ref (L 0 0)), (1, .ref (L 2 g)), (2, .long (lmT σ g (k + 1)))] := (congrArg (lv_has ls 6) (m_lc rfl (m_lc rfl (m_lc rfl (m_lc rfl (m_lc (congrArg Value.long q1) rfl)))))).mp hl
                exact ih61 (k + 1) (by omega) (by omega) _ _ hV hS ls (lv_sub hl [2, 3, 4, 0] rfl)
              · replace c93 : (kN σ 31 k) = g := (hC.inj (k := 2) (k2 := 2) (hC.wf.2.2.2.2.2.1 k (by first | assumption | (show k < kN σ 62 2; omega))) (by first | assumption | (show g < kN σ 62 1; omega)) (Option.some.inj c93)).2
                refine lv_lload_n hx hb dX4_leastTimeIn_96 rfl (lv_at hl 3 rfl) ?_
                refine lv_aload hx hb dX4_leastTimeIn_97 (lv_at hl 0 rfl) ?_
                refine m_getN (C := RX3) (T := TX3) (N := 16) (host := "TaskKernel") hx hb hts hi_X3 hown hK hV 3 (v := .long (kW σ 33 k)) (g_task3 hC (by first | assumption | (show k < kN σ 62 2; omega))) rfl (by decide) kn191 (fun _ h9 => h9) dX4_leastTimeIn_99 ?_
                refine va_mmin_long hx hb (by rw [hml]; exact hl.1.symm) hown (hts (.methodLink RX4 293 Lib.MathLoose.min_long.x) (by decide +kernel)) (hts (.static Lib.MathLoose.min_long.x) (by decide +kernel)) (hts (.initialized "java/lang/Math") (by decide +kernel)) (hts (.code Lib.MathLoose.min_long.x Lib.MathLoose.min_long.code 4 (some .long)) (by decide +kernel)) (by decide) (by first | exact Nat.le_of_ble_eq_true rfl | decide | (simp [rf_cat, ct_ref, ct_int, ct_null, ct_long]; done)) (by decide) (by decide) dX4_leastTimeIn_102 ?_
                refine lv_lstore_n (lv' := [(2, .long (if (kW σ 33 k) < (lmT σ g k) then (kW σ 33 k) else (lmT σ g k))), (5, .ref (L 3 k)), (0, .ref (L 0 0)), (1, .ref (L 2 g)), (4, .int (nI k))]) hx hb dX4_leastTimeIn_105 rfl hl (by decide) rfl (fun ls hl => ?_)
                refine lv_iinc (v := nI (k + 1)) (lv' := [(4, .int (nI (k + 1))), (2, .long (if (kW σ 33 k) < (lmT σ g k) then (kW σ 33 k) else (lmT σ g k))), (5, .ref (L 3 k)), (0, .ref (L 0 0)), (1, .ref (L 2 g))]) hx hb dX4_leastTimeIn_106 hl (k := 4) rfl (show nI k + Int32.ofInt 1 = _ from nI_add k 1) (by decide) rfl (fun ls hl => ?_)
                refine lv_goto (tgt := 61) hx hb dX4_leastTimeIn_109 (by decide) ?_
                have q2 : (if (kW σ 33 k) < (lmT σ g k) then (kW σ 33 k) else (lmT σ g k)) = (lmT σ g (k + 1)) := (by rw [lmT, if_pos c93])
                replace hl : lv_has ls 6 [(4, .int (nI (k + 1))), (2, .long (lmT σ g (k + 1))), (5, .ref (L 3 k)), (0, .ref (L 0 0)), (1, .ref (L 2 g))] := (congrArg (lv_has ls 6) (m_lc rfl (m_lc (congrArg Value.long q2) (m_lc rfl (m_lc rfl (m_lc rfl rfl)))))).mp hl
                exact ih61 (k + 1) (by omega) (by omega) _ _ hV hS ls (lv_sub hl [3, 4, 1, 0] rfl)
        have q3 : (lmG σ g i) = (lmT σ g 0) := (by rw [show i = kN σ 62 1 by omega]; rfl)
        have q4 : 0 = nI 0 := rfl
        replace hl : lv_has ls 6 [(4, .int (nI 0)), (0, .ref (L 0 0)), (1, .ref (L 2 g)), (2, .long (lmT σ g 0))] := (congrArg (lv_has ls 6) (m_lc (congrArg Value.int q4) (m_lc rfl (m_lc rfl (m_lc (congrArg Value.long q3) rfl))))).mp hl
        exact lp61 ((kN σ 62 2 - 0) + 1) 0 (Nat.zero_le _) (Nat.lt_succ_self _) _ _ hV hS ls (lv_sub hl [1, 2, 3, 0] rfl)
      · replace c16 : ¬ kN σ 62 1 ≤ i := fun q9 => c16 ((nI_leI (a := kN σ 62 1) (b := i) (by omega) (by omega)).mpr q9)
        refine lv_aload_n hx hb dX4_leastTimeIn_19 rfl (lv_at hl 0 rfl) ?_
        refine m_get (C := RX4) (T := TX4) (N := 11) hx hb hts hi_X4 hown hK hV 1 (v := .ref (L 5 1)) (g_kern1 hC rfl) rfl (by decide) k18 (fun _ h9 => h9) dX4_leastTimeIn_20 ?_
        refine lv_iload hx hb dX4_leastTimeIn_23 (lv_at hl 3 rfl) ?_
        refine m_callq (va_runV (As := [.int (nI i)]) (rest := []) ⟨hx, hb, hml, hown, hts⟩ (l_get1 (H.size) hC i (by first | assumption | omega)) (cwV 1 hts gX4_leastTimeIn_Jx4a65c_get_915e3 rfl rfl rfl (by decide +kernel) ⟨by decide, by decide⟩) (m_preV (r := (RJx4a65c, TJx4a65c, 3)) hE hV hS hA (CRep.atL hC (j := 1) (by decide)) rfl) rfl rfl hl.1 rfl (lv_room (by first | exact Nat.le_of_ble_eq_true rfl | simp [rf_cat, ct_ref, ct_int, ct_null, ct_long])) dX4_leastTimeIn_25 ⟨by decide, by decide⟩) hV hS hA (fun r h1 H locs hV hS hp _ => ?_)
        obtain ⟨e1, e2⟩ := hp
        subst e2
        rw [e1] at hV; clear e1
        refine m_cast (r := (RX1, TX1, 6)) hx hb hE hV (hC.at (k := 2) (i := i) (by first | assumption | (show i < kN σ 62 1; omega))) rfl hown kc27 dX4_leastTimeIn_28 ?_
        refine lv_astore (lv' := [(5, .ref (L 2 i)), (0, .ref (L 0 0)), (1, .ref (L 2 g)), (2, .long (lmG σ g i)), (4, .int (nI i))]) hx hb dX4_leastTimeIn_31 hl (by decide) rfl (fun ls hl => ?_)
        refine lv_aload hx hb dX4_leastTimeIn_33 (lv_at hl 0 rfl) ?_
        refine m_getN (C := RX1) (T := TX1) (N := 6) (host := "TaskKernel") hx hb hts hi_X1 hown hK hV 1 (v := va_rf ((kO σ 20 i).map (L 2))) (g_grp1 hC (by first | assumption | (show i < kN σ 62 1; omega))) rfl (by decide) kn290 (fun _ h9 => h9) dX4_leastTimeIn_35 ?_
        refine lv_aload_n hx hb dX4_leastTimeIn_38 rfl (lv_at hl 2 rfl) ?_
        refine lv_acmp_ne (rx := ((kO σ 20 i).map (L 2))) (ry := (some (L 2 g))) (tgt := 52) hx hb dX4_leastTimeIn_39 (by decide) (fun c39 => ?_) (fun c39 => ?_)
        · replace c39 : ¬ kO σ 20 i = some g := fun q9 => c39 (((map_inj (f := L 2) (t := g) (fun k9 h9 e9 => (hC.inj (k := 2) (k2 := 2) ((fun k9 h9 => (wf_par hC.wf (by first | assumption | (show i < kN σ 62 1; omega)) h9).2) k9 h9) (by first | assumption | (show g < kN σ 62 1; omega)) e9).2)).mpr q9))
          refine lv_iinc (v := nI (i + 1)) (lv' := [(4, .int (nI (i + 1))), (5, .ref (L 2 i)), (0, .ref (L 0 0)), (1, .ref (L 2 g)), (2, .long (lmG σ g i))]) hx hb dX4_leastTimeIn_52 hl (k := 4) rfl (show nI i + Int32.ofInt 1 = _ from nI_add i 1) (by decide) rfl (fun ls hl => ?_)
          refine lv_goto (tgt := 7) hx hb dX4_leastTimeIn_55 (by decide) ?_
          have q5 : (lmG σ g i) = (lmG σ g (i + 1)) := (by rw [lmG, if_neg c39])
          replace hl : lv_has ls 6 [(4, .int (nI (i + 1))), (5, .ref (L 2 i)), (0, .ref (L 0 0)), (1, .ref (L 2 g)), (2, .long (lmG σ g (i + 1)))] := (congrArg (lv_has ls 6) (m_lc rfl (m_lc rfl (m_lc rfl (m_lc rfl (m_lc (congrArg Value.long q5) rfl)))))).mp hl
          exact ih7 (i + 1) (by omega) (by omega) _ _ hV hS ls (lv_sub hl [2, 3, 4, 0] rfl)
        · replace c39 : kO σ 20 i = some g := (map_inj (f := L 2) (t := g) (fun k9 h9 e9 => (hC.inj (k := 2) (k2 := 2) ((fun k9 h9 => (wf_par hC.wf (by first | assumption | (show i < kN σ 62 1; omega)) h9).2) k9 h9) (by first | assumption | (show g < kN σ 62 1; omega)) e9).2)).mp c39
          refine lv_lload_n hx hb dX4_leastTimeIn_42 rfl (lv_at hl 3 rfl) ?_
          refine lv_aload hx hb dX4_leastTimeIn_43 (lv_at hl 0 rfl) ?_
          refine m_getN (C := RX1) (T := TX1) (N := 6) (host := "TaskKernel") hx hb hts hi_X1 hown hK hV 3 (v := .long (kW σ 23 i)) (g_grp3 hC (by first | assumption | (show i < kN σ 62 1; omega))) rfl (by decide) kn197 (fun _ h9 => h9) dX4_leastTimeIn_45 ?_
          refine va_mmin_long hx hb (by rw [hml]; exact hl.1.symm) hown (hts (.methodLink RX4 293 Lib.MathLoose.min_long.x) (by decide +kernel)) (hts (.static Lib.MathLoose.min_long.x) (by decide +kernel)) (hts (.initialized "java/lang/Math") (by decide +kernel)) (hts (.code Lib.MathLoose.min_long.x Lib.MathLoose.min_long.code 4 (some .long)) (by decide +kernel)) (by decide) (by first | exact Nat.le_of_ble_eq_true rfl | decide | (simp [rf_cat, ct_ref, ct_int, ct_null, ct_long]; done)) (by decide) (by decide) dX4_leastTimeIn_48 ?_
          refine lv_lstore_n (lv' := [(2, .long (if (kW σ 23 i) < (lmG σ g i) then (kW σ 23 i) else (lmG σ g i))), (5, .ref (L 2 i)), (0, .ref (L 0 0)), (1, .ref (L 2 g)), (4, .int (nI i))]) hx hb dX4_leastTimeIn_51 rfl hl (by decide) rfl (fun ls hl => ?_)
          refine lv_iinc (v := nI (i + 1)) (lv' := [(4, .int (nI (i + 1))), (2, .long (if (kW σ 23 i) < (lmG σ g i) then (kW σ 23 i) else (lmG σ g i))), (5, .ref (L 2 i)), (0, .ref (L 0 0)), (1, .ref (L 2 g))]) hx hb dX4_leastTimeIn_52 hl (k := 4) rfl (show nI i + Int32.ofInt 1 = _ from nI_add i 1) (by decide) rfl (fun ls hl => ?_)
          refine lv_goto (tgt := 7) hx hb dX4_leastTimeIn_55 (by decide) ?_
          have q6 : (if (kW σ 23 i) < (lmG σ g i) then (kW σ 23 i) else (lmG σ g i)) = (lmG σ g (i + 1)) := (by rw [lmG, if_pos c39])
          replace hl : lv_has ls 6 [(4, .int (nI (i + 1))), (2, .long (lmG σ g (i + 1))), (5, .ref (L 2 i)), (0, .ref (L 0 0)), (1, .ref (L 2 g))] := (congrArg (lv_has ls 6) (m_lc rfl (m_lc (congrArg Value.long q6) (m_lc rfl (m_lc rfl (m_lc rfl rfl)))))).mp hl
          exact ih7 (i + 1) (by omega) (by omega) _ _ hV hS ls (lv_sub hl [3, 4, 1, 0] rfl)
  have q7 : 9223372036854775807 = (lmG σ g 0) := rfl
  have q8 : 0 = nI 0 := rfl
  replace hl : lv_has ls 6 [(4, .int (nI 0)), (2, .long (lmG σ g 0)), (0, .ref (L 0 0)), (1, .ref (L 2 g))] := (congrArg (lv_has ls 6) (m_lc (congrArg Value.int q8) (m_lc (congrArg Value.long q7) (m_lc rfl (m_lc rfl rfl))))).mp hl
  exact lp7 ((kN σ 62 1 - 0) + 1) 0 (Nat.zero_le _) (Nat.lt_succ_self _) _ _ hV hS ls (lv_sub hl [2, 3, 1, 0] rfl)
set_option maxHeartbeats 4000000 in
set_option maxRecDepth 100000 in
theorem c_X4_release {l : Launch} (hfl : l.stackTraces = false) {D : va_G} {cs : mC} {df : Nat} {P : Nat → Prop} {h0 : mH} {L : KL} {σ : KS} {hh : mH} (sz : Nat) (hC : CRep cs df P h0 L σ hh) (x0 : Int32) : vx_Met l yX4_release wsX4_release ({ frames := 6, cells := 1, slots := 6, locals := 127 }) (mPre [.ref (L 0 0), .int x0] D cs df hh sz) (va_Qi ((fun (r : Int32) (h1 : mH) => ∃ w t, inR x0 (kN σ 62 3) = some w ∧ kO σ 50 w = some t ∧ CRep cs df P h0 L (passS σ w) h1 ∧ r = oI (kO (passS σ w) 50 w))) (mB D hh sz) (mA hh sz)) (mX D hh sz (fun E h1 => h1 = hh ∧ (E = "java/lang/IndexOutOfBoundsException" ∧ inR x0 (kN σ 62 3) = none ∨ E = "java/lang/IllegalStateException" ∧ ∃ w, inR x0 (kN σ 62 3) = some w ∧ kO σ 50 w = none))) 1 6 (mA hh sz) := by
  refine vx_ofW (cc := cX4_release) (maxL := 3) (ret := (some .int)) (by decide) rfl ?_
  intro p e s m args below meth c s₁ B0 hml hnx hv
  obtain ⟨hargs, hsz, hV, hE⟩ := hv
  subst hsz
  have hx := B0.exec
  have hb := B0.bytes
  have hr := B0.returns
  have hlocks := B0.notSynchronized
  have hts := atoms_spec (ws := wsX4_release) B0.pre
  have hown : s.vm.findClass RX4 = some m.cls := findClass_of_methodNamed B0.named
  have hK := hE.1.1
  have hA : ∀ q : Nat, s.heap.size ≤ q → mA hh s.heap.size q := mA.top
  have hS : va_S (mA hh s.heap.size) s.heap s.heap [] := va_S.rf
  have hi_X2 : ∀ w ∈ u_ws RX2 TX2 2, w ∈ wsX4_release := by decide +kernel
  have kn175 : va_Nw (.fieldLinkNest RX4 175 "TaskKernel$Lock" "holder" "LTaskKernel$Task;" "TaskKernel") s := hE.1.2.1 _ (List.mem_of_getElem? (i := 6) rfl)
  have kc73 : (Cond.classLink RX4 73 "java/lang/IllegalStateException").before args s = true := hts _ (by decide +kernel)
  have kc91 : (Cond.classLink RX4 91 "java/lang/IndexOutOfBoundsException").before args s = true := hts _ (by decide +kernel)
  have hl := lv_entry ([.ref (L 0 0), .int x0]) (n := 3) (by first | exact Nat.le_of_ble_eq_true rfl | simp [lg_sl, rf_cat, ct_ref, ct_int, ct_null, ct_long])
  have hent := lg_entry_eq m ([.ref (L 0 0), .int x0]) 3
  rw [← hargs] at hent
  rw [hent]
  generalize (lg_sl ([.ref (L 0 0), .int x0]) ++ List.replicate (3 - (lg_sl ([.ref (L 0 0), .int x0])).length) Slot.unset).toArray = ls at hl ⊢
  replace hl : lv_has ls 3 [(0, .ref (L 0 0)), (1, .int x0)] := hl
  have hwf := hC.wf
  obtain ⟨⟨z0, z1, z2, z3, z4⟩, z5, z6, z7, z8, z9, z10, z11, z12⟩ := hwf
  refine lv_aload_n hx hb dX4_release_0 rfl (lv_at hl 0 rfl) ?_
  refine lv_iload_n hx hb dX4_release_1 rfl (lv_at hl 1 rfl) ?_
  refine m_callq (va_runV (As := [.int x0]) (rest := []) ⟨hx, hb, hml, hown, hts⟩ (c_X4_lockAt (l := l) (s.heap.size) hC x0) (cwV 1 hts gX4_release_X4_lockAt rfl rfl rfl (by decide +kernel) ⟨by decide, by decide⟩) (m_preV (r := (RX4, TX4, 11)) hE hV hS hA (hC.at (k := 0) (i := 0) rfl) rfl) rfl rfl hl.1 rfl (lv_room (by first | exact Nat.le_of_ble_eq_true rfl | simp [rf_cat, ct_ref, ct_int, ct_null, ct_long])) dX4_release_2 ⟨by decide, by decide⟩) hV hS hA (fun r h1 H locs hV hS hp _ => ?_)
  obtain ⟨e1, e2⟩ := hp
  subst e2
  rw [e1] at hV; clear e1
  refine m_astore_nq (i := 2) (lv' := [(2, va_rf (((inR x0 (kN σ 62 3))).map (L 4))), (0, .ref (L 0 0)), (1, .int x0)]) hx hb dX4_release_5 rfl hl (by decide) (by first | rfl | simp [rf_cat, ct_ref, ct_int, ct_long]) (fun ls hl => ?_)
  refine m_aload_nq hx hb dX4_release_6 rfl (lv_at hl 0 rfl) ?_
  refine m_ifnonnull_q (o := (inR x0 (kN σ 62 3))) (f := L 4) (tgt := 20) hx hb dX4_release_7 (by decide) (fun k7 c7 => ?_) (fun c7 => ?_)
  · have bk7 := (inR_some c7).2
    replace hl : lv_has ls 3 [(2, .ref (L 4 k7)), (0, .ref (L 0 0)), (1, .int x0)] := by have h9 := hl; rw [c7] at h9; exact h9
    refine lv_aload_n hx hb dX4_release_20 rfl (lv_at hl 0 rfl) ?_
    refine m_getN (C := RX2) (T := TX2) (N := 2) (host := "TaskKernel") hx hb hts hi_X2 hown hK hV 0 (v := va_rf ((kO σ 50 k7).map (L 3))) (g_lock0 hC (show k7 < 4 by omega)) rfl (by decide) kn175 (fun _ h9 => h9) dX4_release_21 ?_
    refine m_ifnonnull_q (o := (kO σ 50 k7)) (f := L 3) (tgt := 37) hx hb dX4_release_24 (by decide) (fun k24 c24 => ?_) (fun c24 => ?_)
    · have bk24 : k24 < kN σ 62 2 := hC.wf.2.2.2.2.2.2.2.2 k7 (show k7 < 4 by omega) _ c24
      refine lv_aload_n hx hb dX4_release_37 rfl (lv_at hl 0 rfl) ?_
      refine m_callv (va_runS (As := [.ref (L 4 k7)]) (rest := []) ⟨hx, hb, hml, hown, hts⟩ (c_X4_passOn (l := l) (H.size) hC k7 (by omega)) (va_cwS 1 hts gX4_release_X4_passOn rfl rfl rfl (by decide +kernel) ⟨by decide, by decide⟩) (m_preS hE hV hS hA) rfl rfl hl.1 rfl (lv_room (by first | exact Nat.le_of_ble_eq_true rfl | simp [rf_cat, ct_ref, ct_int, ct_null, ct_long])) dX4_release_38 ⟨by decide, by decide⟩) hV hS hA (fun h H locs hV hS hp _ => ?_)
      replace hC := hp; clear hp
      refine lv_aload_n hx hb dX4_release_41 rfl (lv_at hl 0 rfl) ?_
      refine m_getN (C := RX2) (T := TX2) (N := 2) (host := "TaskKernel") hx hb hts hi_X2 hown hK hV 0 (v := va_rf ((kO (passS σ k7) 50 k7).map (L 3))) (g_lock0 hC (show k7 < 4 by omega)) rfl (by decide) kn175 (fun _ h9 => h9) dX4_release_42 ?_
      refine m_calli (va_runS (As := [va_rf ((kO (passS σ k7) 50 k7).map (L 3))]) (rest := []) ⟨hx, hb, hml, hown, hts⟩ (c_X4_numberOf (l := l) (H.size) hC (kO (passS σ k7) 50 k7) (hC.wf.2.2.2.2.2.2.2.2 k7 (by omega))) (va_cwS 1 hts gX4_release_X4_numberOf rfl rfl rfl (by decide +kernel) ⟨by decide, by decide⟩) (m_preS hE hV hS hA) rfl rfl hl.1 rfl (lv_room (by first | exact Nat.le_of_ble_eq_true rfl | simp [rf_cat, ct_ref, ct_int, ct_null, ct_long])) dX4_release_45 ⟨by decide, by decide⟩) hV hS hA (fun r h1 H locs hV hS hp _ => ?_)
      obtain ⟨e1, e2⟩ := hp
      subst e2
      rw [e1] at hV; clear e1
      refine W.widen (k := 1) (n := 6) (by decide) (by first | decide | omega) ?_
      exact vx_ret (m_iret (v := oI (kO (passS σ k7) 50 k7)) hx hb hr hlocks hV hS (⟨k7, k24, c7, c24, hC, rfl⟩) dX4_release_48)
    · exact m_throw hx hb hfl (own := RX4) (cls := "java/lang/IllegalStateException") (text := "the lock is free") (names := ["java/lang/RuntimeException", "java/lang/Exception"]) (ik := 73) (is := 245) (ic := 77) hown (by decide) (by decide) kc73 (hts _ (by decide +kernel)) (hE.1.2.2.2.1 _ (List.mem_of_getElem? (i := 19) rfl)) (m_hat hE (by decide +kernel) hts) (by decide +kernel) hE hV hS (by rw [hml]; exact hl.1) dX4_release_27 dX4_release_30 dX4_release_31 dX4_release_33 dX4_release_36 hnx (by decide) (by decide) (by decide) (by decide) hlocks (⟨rfl, Or.inr ⟨rfl, k7, c7, c24⟩⟩) (by decide) (by decide)
  · replace hl : lv_has ls 3 [(2, .null), (0, .ref (L 0 0)), (1, .int x0)] := by have h9 := hl; rw [c7] at h9; exact h9
    exact m_throw hx hb hfl (own := RX4) (cls := "java/lang/IndexOutOfBoundsException") (text := "there is no such lock") (names := ["java/lang/RuntimeException", "java/lang/Exception"]) (ik := 91) (is := 232) (ic := 95) hown (by decide) (by decide) kc91 (hts _ (by decide +kernel)) (hE.1.2.2.2.1 _ (List.mem_of_getElem? (i := 16) rfl)) (m_hat hE (by decide +kernel) hts) (by decide +kernel) hE hV hS (by rw [hml]; exact hl.1) dX4_release_10 dX4_release_13 dX4_release_14 dX4_release_16 dX4_release_19 hnx (by decide) (by decide) (by decide) (by decide) hlocks (⟨rfl, Or.inl ⟨rfl, c7⟩⟩) (by decide) (by decide)
set_option maxHeartbeats 4000000 in
set_option maxRecDepth 100000 in
theorem c_X4_take {l : Launch} (hfl : l.stackTraces = false) {D : va_G} {cs : mC} {df : Nat} {P : Nat → Prop} {h0 : mH} {L : KL} {σ : KS} {hh : mH} (sz : Nat) (hC : CRep cs df P h0 L σ hh) (x0 : Int32) (x1 : Int32) (hz : ∀ w, w < 4 → kN σ 62 (4 + w) ≤ 50) : vx_Met l yX4_take wsX4_take ({ frames := 7, cells := 1, slots := 200, locals := 191 }) (mPre [.ref (L 0 0), .int x0, .int x1] D cs df hh sz) (va_Qi ((fun (r : Int32) (h1 : mH) => ∃ t w, inR x0 (kN σ 62 2) = some t ∧ inR x1 (kN σ 62 3) = some w ∧ kB σ 36 t = false ∧ kO σ 42 t = none ∧ kO σ 50 w ≠ some t ∧ ((kO σ 50 w = none ∧ CRep cs df P h0 L (sO σ 50 (va_up (kO σ 50) w (some t))) h1 ∧ r = 1) ∨ ∃ k, kO σ 50 w = some k ∧ weS t σ 12 (hbS σ k) = false ∧ CRep cs df P h0 L (lAdd (sO σ 42 (va_up (kO σ 42) t (some w))) (4 + w) t) h1 ∧ r = 0))) (mB D hh sz) (mA hh sz)) (mX D hh sz (fun E h1 => h1 = hh ∧ (E = "java/util/NoSuchElementException" ∧ inR x0 (kN σ 62 2) = none ∨ E = "java/lang/IndexOutOfBoundsException" ∧ (∃ t, inR x0 (kN σ 62 2) = some t ∧ inR x1 (kN σ 62 3) = none) ∨ E = "java/lang/IllegalStateException" ∧ (∃ t w, inR x0 (kN σ 62 2) = some t ∧ inR x1 (kN σ 62 3) = some w ∧ (kB σ 36 t = true ∨ kO σ 42 t ≠ none ∨ kO σ 50 w = some t)) ∨ E = "java/lang/UnsupportedOperationException" ∧ ∃ t w k, inR x0 (kN σ 62 2) = some t ∧ inR x1 (kN σ 62 3) = some w ∧ kO σ 50 w = some k ∧ weS t σ 12 (hbS σ k) = true))) 1 200 (mA hh sz) := by
  refine vx_ofW (cc := cX4_take) (maxL := 5) (ret := (some .boolean)) (by decide) rfl ?_
  intro p e s m args below meth c s₁ B0 hml hnx hv
  obtain ⟨hargs, hsz, hV, hE⟩ := hv
  subst hsz
  have hx := B0.exec
  have hb := B0.bytes
  have hr := B0.returns
  have hlocks := B0.notSynchronized
  have hts := atoms_spec (ws := wsX4_take) B0.pre
  have hown : s.vm.findClass RX4 = some m.cls := findClass_of_methodNamed B0.named
  have hK := hE.1.1
  have hA : ∀ q : Nat, s.heap.size ≤ q → mA hh s.heap.size q := mA.top
  have hS : va_S (mA hh s.heap.size) s.heap s.heap [] := va_S.rf
  have hi_X3 : ∀ w ∈ u_ws RX3 TX3 16, w ∈ wsX4_take := by decide +kernel
  have kn158 : va_Nw (.fieldLinkNest RX4 158 "TaskKernel$Task" "ended" "Z" "TaskKernel") s := hE.1.2.1 _ (List.mem_of_getElem? (i := 17) rfl)
  have kc73 : (Cond.classLink RX4 73 "java/lang/IllegalStateException").before args s = true := hts _ (by decide +kernel)
  have kn183 : va_Nw (.fieldLinkNest RX4 183 "TaskKernel$Task" "awaited" "LTaskKernel$Lock;" "TaskKernel") s := hE.1.2.1 _ (List.mem_of_getElem? (i := 23) rfl)
  have hi_X2 : ∀ w ∈ u_ws RX2 TX2 2, w ∈ wsX4_take := by decide +kernel
  have kn175 : va_Nw (.fieldLinkNest RX4 175 "TaskKernel$Lock" "holder" "LTaskKernel$Task;" "TaskKernel") s := hE.1.2.1 _ (List.mem_of_getElem? (i := 6) rfl)
  have kn242 : va_Nw (.fieldLinkNest RX4 242 "TaskKernel$Lock" "waiters" "Ljava/util/ArrayList;" "TaskKernel") s := hE.1.2.1 _ (List.mem_of_getElem? (i := 7) rfl)
  have kc132 : (Cond.classLink RX4 132 "java/lang/UnsupportedOperationException").before args s = true := hts _ (by decide +kernel)
  have kc91 : (Cond.classLink RX4 91 "java/lang/IndexOutOfBoundsException").before args s = true := hts _ (by decide +kernel)
  have kc153 : (Cond.classLink RX4 153 "java/util/NoSuchElementException").before args s = true := hts _ (by decide +kernel)
  have hl := lv_entry ([.ref (L 0 0), .int x0, .int x1]) (n := 5) (by first | exact Nat.le_of_ble_eq_true rfl | simp [lg_sl, rf_cat, ct_ref, ct_int, ct_null, ct_long])
  have hent := lg_entry_eq m ([.ref (L 0 0), .int x0, .int x1]) 5
  rw [← hargs] at hent
  rw [hent]
  generalize (lg_sl ([.ref (L 0 0), .int x0, .int x1]) ++ List.replicate (5 - (lg_sl ([.ref (L 0 0), .int x0, .int x1])).length) Slot.unset).toArray = ls at hl ⊢
  replace hl : lv_has ls 5 [(0, .ref (L 0 0)), (1, .int x0), (2, .int x1)] := hl
  have hwf := hC.wf
  obtain ⟨⟨z0, z1, z2, z3, z4⟩, z5, z6, z7, z8, z9, z10, z11, z12⟩ := hwf
  refine lv_aload_n hx hb dX4_take_0 rfl (lv_at hl 0 rfl) ?_
  refine lv_iload_n hx hb dX4_take_1 rfl (lv_at hl 1 rfl) ?_
  refine m_callq (va_runV (As := [.int x0]) (rest := []) ⟨hx, hb, hml, hown, hts⟩ (c_X4_taskAt (l := l) (s.heap.size) hC x0) (cwV 1 hts gX4_take_X4_taskAt rfl rfl rfl (by decide +kernel) ⟨by decide, by decide⟩) (m_preV (r := (RX4, TX4, 11)) hE hV hS hA (hC.at (k := 0) (i := 0) rfl) rfl) rfl rfl hl.1 rfl (lv_room (by first | exact Nat.le_of_ble_eq_true rfl | simp [rf_cat, ct_ref, ct_int, ct_null, ct_long])) dX4_take_2 ⟨by decide, by decide⟩) hV hS hA (fun r h1 H locs hV hS hp _ => ?_)
  obtain ⟨e1, e2⟩ := hp
  subst e2
  rw [e1] at hV; clear e1
  refine m_astore_nq (i := 3) (lv' := [(3, va_rf (((inR x0 (kN σ 62 2))).map (L 3))), (0, .ref (L 0 0)), (1, .int x0), (2, .int x1)]) hx hb dX4_take_5 rfl hl (by decide) (by first | rfl | simp [rf_cat, ct_ref, ct_int, ct_long]) (fun ls hl => ?_)
  refine m_aload_nq hx hb dX4_take_6 rfl (lv_at hl 0 rfl) ?_
  refine m_ifnonnull_q (o := (inR x0 (kN σ 62 2))) (f := L 3) (tgt := 20) hx hb dX4_take_7 (by decide) (fun k7 c7 => ?_) (fun c7 => ?_)
  · have bk7 := (inR_some c7).2
    replace hl : lv_has ls 5 [(3, .ref (L 3 k7)), (0, .ref (L 0 0)), (1, .int x0), (2, .int x1)] := by have h9 := hl; rw [c7] at h9; exact h9
    refine lv_aload_n hx hb dX4_take_20 rfl (lv_at hl 1 rfl) ?_
    refine lv_iload_n hx hb dX4_take_21 rfl (lv_at hl 3 rfl) ?_
    refine m_callq (va_runV (As := [.int x1]) (rest := []) ⟨hx, hb, hml, hown, hts⟩ (c_X4_lockAt (l := l) (H.size) hC x1) (cwV 1 hts gX4_take_X4_lockAt rfl rfl rfl (by decide +kernel) ⟨by decide, by decide⟩) (m_preV (r := (RX4, TX4, 11)) hE hV hS hA (hC.at (k := 0) (i := 0) rfl) rfl) rfl rfl hl.1 rfl (lv_room (by first | exact Nat.le_of_ble_eq_true rfl | simp [rf_cat, ct_ref, ct_int, ct_null, ct_long])) dX4_take_22 ⟨by decide, by decide⟩) hV hS hA (fun r h1 H locs hV hS hp _ => ?_)
    obtain ⟨e1, e2⟩ := hp
    subst e2
    rw [e1] at hV; clear e1
    refine m_astore_q (lv' := [(4, va_rf (((inR x1 (kN σ 62 3))).map (L 4))), (3, .ref (L 3 k7)), (0, .ref (L 0 0)), (1, .int x0), (2, .int x1)]) hx hb dX4_take_25 hl (by decide) (by first | rfl | simp [rf_cat, ct_ref, ct_int, ct_long]) (fun ls hl => ?_)
    refine m_aload_q hx hb dX4_take_27 (lv_at hl 0 rfl) ?_
    refine m_ifnonnull_q (o := (inR x1 (kN σ 62 3))) (f := L 4) (tgt := 42) hx hb dX4_take_29 (by decide) (fun k29 c29 => ?_) (fun c29 => ?_)
    · have bk29 := (inR_some c29).2
      replace hl : lv_has ls 5 [(4, .ref (L 4 k29)), (3, .ref (L 3 k7)), (0, .ref (L 0 0)), (1, .int x0), (2, .int x1)] := by have h9 := hl; rw [c29] at h9; exact h9
      refine lv_aload_n hx hb dX4_take_42 rfl (lv_at hl 1 rfl) ?_
      refine m_getN (C := RX3) (T := TX3) (N := 16) (host := "TaskKernel") hx hb hts hi_X3 hown hK hV 6 (v := .int (bI (kB σ 36 k7))) (g_task6 hC (by first | assumption | (show k7 < kN σ 62 2; omega))) rfl (by decide) kn158 (fun _ h9 => h9) dX4_take_43 ?_
      refine lv_if_ne (tgt := 65) hx hb dX4_take_46 (by decide) (fun c46 => ?_) (fun c46 => ?_)
      · replace c46 : kB σ 36 k7 = true := bI_1.mp c46
        exact m_throw hx hb hfl (own := RX4) (cls := "java/lang/IllegalStateException") (text := "the task has ended, waits, or holds this lock") (names := ["java/lang/RuntimeException", "java/lang/Exception"]) (ik := 73) (is := 234) (ic := 77) hown (by decide) (by decide) kc73 (hts _ (by decide +kernel)) (hE.1.2.2.2.1 _ (List.mem_of_getElem? (i := 17) rfl)) (m_hat hE (by decide +kernel) hts) (by decide +kernel) hE hV hS (by rw [hml]; exact hl.1) dX4_take_65 dX4_take_68 dX4_take_69 dX4_take_71 dX4_take_74 hnx (by decide) (by decide) (by decide) (by decide) hlocks (⟨rfl, Or.inr (Or.inr (Or.inl ⟨rfl, k7, k29, c7, c29, Or.inl c46⟩))⟩) (by decide) (by decide)
      · replace c46 : kB σ 36 k7 = false := bI_0.mp c46
        refine lv_aload_n hx hb dX4_take_49 rfl (lv_at hl 1 rfl) ?_
        refine m_getN (C := RX3) (T := TX3) (N := 16) (host := "TaskKernel") hx hb hts hi_X3 hown hK hV 12 (v := va_rf ((kO σ 42 k7).map (L 4))) (g_task12 hC (by first | assumption | (show k7 < kN σ 62 2; omega))) rfl (by decide) kn183 (fun _ h9 => h9) dX4_take_50 ?_
        refine m_ifnonnull_q (o := (kO σ 42 k7)) (f := L 4) (tgt := 65) hx hb dX4_take_53 (by decide) (fun k53 c53 => ?_) (fun c53 => ?_)
        · have bk53 : k53 < 4 := hC.wf.2.2.2.2.2.2.1 k7 (by first | assumption | (show k7 < kN σ 62 2; omega)) _ c53
          exact m_throw hx hb hfl (own := RX4) (cls := "java/lang/IllegalStateException") (text := "the task has ended, waits, or holds this lock") (names := ["java/lang/RuntimeException", "java/lang/Exception"]) (ik := 73) (is := 234) (ic := 77) hown (by decide) (by decide) kc73 (hts _ (by decide +kernel)) (hE.1.2.2.2.1 _ (List.mem_of_getElem? (i := 17) rfl)) (m_hat hE (by decide +kernel) hts) (by decide +kernel) hE hV hS (by rw [hml]; exact hl.1) dX4_take_65 dX4_take_68 dX4_take_69 dX4_take_71 dX4_take_74 hnx (by decide) (by decide) (by decide) (by decide) hlocks (⟨rfl, Or.inr (Or.inr (Or.inl ⟨rfl, k7, k29, c7, c29, Or.inr (Or.inl (fun q => nomatch (c53.symm.trans q)))⟩))⟩) (by decide) (by decide)
        · refine lv_aload hx hb dX4_take_56 (lv_at hl 0 rfl) ?_
          refine m_getN (C := RX2) (T := TX2) (N := 2) (host := "TaskKernel") hx hb hts hi_X2 hown hK hV 0 (v := va_rf ((kO σ 50 k29).map (L 3))) (g_lock0 hC (show k29 < 4 by omega)) rfl (by decide) kn175 (fun _ h9 => h9) dX4_take_58 ?_
          refine lv_aload_n hx hb dX4_take_61 rfl (lv_at hl 1 rfl) ?_
          refine lv_acmp_ne (rx := ((kO σ 50 k29).map (L 3))) (ry := (some (L 3 k7))) (tgt := 75) hx hb dX4_take_62 (by decide) (fun c62 => ?_) (fun c62 => ?_)
          · replace c62 : ¬ kO σ 50 k29 = some k7 := fun q9 => c62 (((map_inj (f := L 3) (t := k7) (fun k9 h9 e9 => (hC.inj (k := 3) (k2 := 3) ((hC.wf.2.2.2.2.2.2.2.2 k29 (show k29 < 4 by omega)) k9 h9) (by first | assumption | (show k7 < kN σ 62 2; omega)) e9).2)).mpr q9))
            refine lv_aload hx hb dX4_take_75 (lv_at hl 0 rfl) ?_
            refine m_getN (C := RX2) (T := TX2) (N := 2) (host := "TaskKernel") hx hb hts hi_X2 hown hK hV 0 (v := va_rf ((kO σ 50 k29).map (L 3))) (g_lock0 hC (show k29 < 4 by omega)) rfl (by decide) kn175 (fun _ h9 => h9) dX4_take_77 ?_
            refine m_ifnonnull_q (o := (kO σ 50 k29)) (f := L 3) (tgt := 91) hx hb dX4_take_80 (by decide) (fun k80 c80 => ?_) (fun c80 => ?_)
            · have bk80 : k80 < kN σ 62 2 := hC.wf.2.2.2.2.2.2.2.2 k29 (show k29 < 4 by omega) _ c80
              refine lv_aload hx hb dX4_take_91 (lv_at hl 0 rfl) ?_
              refine m_getN (C := RX2) (T := TX2) (N := 2) (host := "TaskKernel") hx hb hts hi_X2 hown hK hV 0 (v := .ref (L 3 k80)) ((by have g9 := g_lock0 hC (show k29 < 4 by omega); rw [c80] at g9; exact g9)) rfl (by decide) kn175 (fun _ h9 => h9) dX4_take_93 ?_
              refine lv_aload_n hx hb dX4_take_96 rfl (lv_at hl 1 rfl) ?_
              refine m_calli (va_runS (As := [.ref (L 3 k80), .ref (L 3 k7)]) (rest := []) ⟨hx, hb, hml, hown, hts⟩ (c_X4_waitsInTheEndFor (l := l) (H.size) hC k80 k7 (by first | assumption | omega) (by first | assumption | omega)) (va_cwS 2 hts gX4_take_X4_waitsInTheEndFor rfl rfl rfl (by decide +kernel) ⟨by decide, by decide⟩) (m_preS hE hV hS hA) rfl rfl hl.1 rfl (lv_room (by first | exact Nat.le_of_ble_eq_true rfl | simp [rf_cat, ct_ref, ct_int, ct_null, ct_long])) dX4_take_97 ⟨by decide, by decide⟩) hV hS hA (fun r h1 H locs hV hS hp _ => ?_)
              obtain ⟨e1, e2⟩ := hp
              subst e2
              rw [e1] at hV; clear e1
              refine lv_if_eq (tgt := 113) hx hb dX4_take_100 (by decide) (fun c100 => ?_) (fun c100 => ?_)
              · replace c100 : (weS k7 σ 12 (hbS σ k80)) = false := bI_0.mp c100
                refine lv_aload_n hx hb dX4_take_113 rfl (lv_at hl 1 rfl) ?_
                refine lv_aload hx hb dX4_take_114 (lv_at hl 0 rfl) ?_
                refine m_putN (host := "TaskKernel") (C := RX3) (T := TX3) (N := 16) (v := va_rf (((some k29)).map (L 4))) hx hb hts hi_X3 tyX3 tyX3_ok nmX3 hown hK hV hS 12 (p_task12 hC (by first | assumption | (show k7 < kN σ 62 2; omega)) (some k29) (fun t z => by cases z; first | assumption | omega)) rfl (by decide) kn183 (fun _ h9 => h9) rfl (tyX3_ok 12 (by decide)) (rf_narrow _ _) (rf_fits _ _) dX4_take_116 (fun h H locs hV hS hC => ?_)
                refine lv_aload hx hb dX4_take_119 (lv_at hl 0 rfl) ?_
                refine m_getN (C := RX2) (T := TX2) (N := 2) (host := "TaskKernel") hx hb hts hi_X2 hown hK hV 1 (v := .ref (L 5 (4 + k29))) (g_lock1 hC (show k29 < 4 by omega)) rfl (by decide) kn242 (fun _ h9 => h9) dX4_take_121 ?_
                refine lv_aload_n hx hb dX4_take_124 rfl (lv_at hl 1 rfl) ?_
                refine m_calli (va_runV (As := [.ref (L 3 k7)]) (rest := []) ⟨hx, hb, hml, hown, hts⟩ (l_addW (H.size) hC k29 k7 (by omega) (hz k29 (by omega)) (by first | assumption | (show k7 < kN σ 62 2; omega))) (cwV 1 hts gX4_take_Jx4a65c_add_9ea2d rfl rfl rfl (by decide +kernel) ⟨by decide, by decide⟩) (m_preV (r := (RJx4a65c, TJx4a65c, 3)) hE hV hS hA (CRep.atL hC (j := (4 + k29)) (by omega)) rfl) rfl rfl hl.1 rfl (lv_room (by first | exact Nat.le_of_ble_eq_true rfl | simp [rf_cat, ct_ref, ct_int, ct_null, ct_long])) dX4_take_125 ⟨by decide, by decide⟩) hV hS hA (fun r h1 H locs hV hS hp _ => ?_)
                obtain ⟨hC, e2⟩ := hp
                subst e2
                refine lv_pop hx hb dX4_take_128 rfl ?_
                refine lv_iconst (v := 0) hx hb dX4_take_129 (by decide) ?_
                exact vx_ret (m_zret (v := 0) hx hb hr hlocks (by decide) hV hS (⟨k7, k29, c7, c29, c46, c53, c62, Or.inr ⟨k80, c80, c100, hC, rfl⟩⟩) dX4_take_130)
              · replace c100 : (weS k7 σ 12 (hbS σ k80)) = true := bI_1.mp c100
                exact m_throw hx hb hfl (own := RX4) (cls := "java/lang/UnsupportedOperationException") (text := "the tasks would wait for one another") (names := ["java/lang/RuntimeException", "java/lang/Exception"]) (ik := 132) (is := 240) (ic := 136) hown (by decide) (by decide) kc132 (hts _ (by decide +kernel)) (hE.1.2.2.2.1 _ (List.mem_of_getElem? (i := 18) rfl)) (m_hat hE (by decide +kernel) hts) (by decide +kernel) hE hV hS (by rw [hml]; exact hl.1) dX4_take_103 dX4_take_106 dX4_take_107 dX4_take_109 dX4_take_112 hnx (by decide) (by decide) (by decide) (by decide) hlocks (⟨rfl, Or.inr (Or.inr (Or.inr ⟨rfl, k7, k29, k80, c7, c29, c80, c100⟩))⟩) (by decide) (by decide)
            · refine lv_aload hx hb dX4_take_83 (lv_at hl 0 rfl) ?_
              refine lv_aload_n hx hb dX4_take_85 rfl (lv_at hl 1 rfl) ?_
              refine m_putN (host := "TaskKernel") (C := RX2) (T := TX2) (N := 2) (v := va_rf (((some k7)).map (L 3))) hx hb hts hi_X2 tyX2 tyX2_ok nmX2 hown hK hV hS 0 (p_lock0 hC (show k29 < 4 by omega) (some k7) (fun t z => by cases z; first | assumption | omega)) rfl (by decide) kn175 (fun _ h9 => h9) rfl (tyX2_ok 0 (by decide)) (rf_narrow _ _) (rf_fits _ _) dX4_take_86 (fun h H locs hV hS hC => ?_)
              refine lv_iconst (v := 1) hx hb dX4_take_89 (by decide) ?_
              refine W.widen (k := 1) (n := 200) (by decide) (by first | decide | omega) ?_
              exact vx_ret (m_zret (v := 1) hx hb hr hlocks (by decide) hV hS (⟨k7, k29, c7, c29, c46, c53, c62, Or.inl ⟨c80, hC, rfl⟩⟩) dX4_take_90)
          · replace c62 : kO σ 50 k29 = some k7 := (map_inj (f := L 3) (t := k7) (fun k9 h9 e9 => (hC.inj (k := 3) (k2 := 3) ((hC.wf.2.2.2.2.2.2.2.2 k29 (show k29 < 4 by omega)) k9 h9) (by first | assumption | (show k7 < kN σ 62 2; omega)) e9).2)).mp c62
            exact m_throw hx hb hfl (own := RX4) (cls := "java/lang/IllegalStateException") (text := "the task has ended, waits, or holds this lock") (names := ["java/lang/RuntimeException", "java/lang/Exception"]) (ik := 73) (is := 234) (ic := 77) hown (by decide) (by decide) kc73 (hts _ (by decide +kernel)) (hE.1.2.2.2.1 _ (List.mem_of_getElem? (i := 17) rfl)) (m_hat hE (by decide +kernel) hts) (by decide +kernel) hE hV hS (by rw [hml]; exact hl.1) dX4_take_65 dX4_take_68 dX4_take_69 dX4_take_71 dX4_take_74 hnx (by decide) (by decide) (by decide) (by decide) hlocks (⟨rfl, Or.inr (Or.inr (Or.inl ⟨rfl, k7, k29, c7, c29, Or.inr (Or.inr c62)⟩))⟩) (by decide) (by decide)
    · replace hl : lv_has ls 5 [(4, .null), (3, .ref (L 3 k7)), (0, .ref (L 0 0)), (1, .int x0), (2, .int x1)] := by have h9 := hl; rw [c29] at h9; exact h9
      exact m_throw hx hb hfl (own := RX4) (cls := "java/lang/IndexOutOfBoundsException") (text := "there is no such lock") (names := ["java/lang/RuntimeException", "java/lang/Exception"]) (ik := 91) (is := 232) (ic := 95) hown (by decide) (by decide) kc91 (hts _ (by decide +kernel)) (hE.1.2.2.2.1 _ (List.mem_of_getElem? (i := 16) rfl)) (m_hat hE (by decide +kernel) hts) (by decide +kernel) hE hV hS (by rw [hml]; exact hl.1) dX4_take_32 dX4_take_35 dX4_take_36 dX4_take_38 dX4_take_41 hnx (by decide) (by decide) (by decide) (by decide) hlocks (⟨rfl, Or.inr (Or.inl ⟨rfl, k7, c7, c29⟩)⟩) (by decide) (by decide)
  · replace hl : lv_has ls 5 [(3, .null), (0, .ref (L 0 0)), (1, .int x0), (2, .int x1)] := by have h9 := hl; rw [c7] at h9; exact h9
    exact m_throwX hx hb hfl (own := RX4) (cls := "java/util/NoSuchElementException") (text := "there is no such task") (names := ["java/lang/RuntimeException", "java/lang/Exception"]) (ik := 153) (is := 155) (ic := 157) (ix := 13) (rx := prog_29_method_4_code) (by decide +kernel) (by decide +kernel) (by decide +kernel) (by decide +kernel) hown (by decide) (by decide) kc153 (hts _ (by decide +kernel)) (hE.1.2.2.2.1 _ (List.mem_of_getElem? (i := 11) rfl)) (m_hat hE (by decide +kernel) hts) (by decide +kernel) hE hV hS (by rw [hml]; exact hl.1) dX4_take_10 dX4_take_13 dX4_take_14 dX4_take_16 dX4_take_19 hnx (by decide) (by decide) (by decide) (by decide) hlocks (⟨rfl, Or.inl ⟨rfl, c7⟩⟩) (by decide) (by decide)
