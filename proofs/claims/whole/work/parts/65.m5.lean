set_option maxHeartbeats 4000000 in
set_option maxRecDepth 100000 in
theorem c_X5_choose {l : Launch} {D : va_G} {cs : mC} {df : Nat} {P : Nat → Prop} {h0 : mH} {B : Nat → Nat} {μ : KS} {hh : mH} (sz : Nat) (hM : DRep cs P h0 B μ hh)  : Met l yX5_choose wsX5_choose ({ frames := 8, cells := 0, slots := 0, locals := 196 }) (mPre [.ref (B 100)] D cs df hh sz) (va_Qi ((fun (r : Int32) (h1 : mH) => h1 = hh ∧ r = oI (chM μ))) (mB D hh sz) (mA hh sz)) 0 0 (mA hh sz) := by
  refine Met.ofW (cc := cX5_choose) (maxL := 5) (ret := (some .int)) (by decide) rfl ?_
  intro p e s m args below meth c s₁ B0 hml hv
  obtain ⟨hargs, hsz, hV, hE⟩ := hv
  subst hsz
  have hx := B0.exec
  have hb := B0.bytes
  have hr := B0.returns
  have hlocks := B0.notSynchronized
  have hts := atoms_spec (ws := wsX5_choose) B0.pre
  have hown : s.vm.findClass RX5 = some m.cls := findClass_of_methodNamed B0.named
  have hK := hE.1.1
  have hA : ∀ q : Nat, s.heap.size ≤ q → mA hh s.heap.size q := mA.top
  have hS : va_S (mA hh s.heap.size) s.heap s.heap [] := va_S.rf
  have hi_X5 : ∀ w ∈ u_ws RX5 TX5 34, w ∈ wsX5_choose := by decide +kernel
  have k117 : (Cond.fieldLink RX5 117 "TaskKernelModel" "tasks" "I").before args s = true := hts _ (by decide +kernel)
  have k88 : (Cond.fieldLink RX5 88 "TaskKernelModel" "isIn" "[Z").before args s = true := hts _ (by decide +kernel)
  have k85 : (Cond.fieldLink RX5 85 "TaskKernelModel" "urgencies" "[I").before args s = true := hts _ (by decide +kernel)
  have kk169 : (Cond.constant RX5 169 (1000000)).before args s = true := hts _ (by decide +kernel)
  have hl := lv_entry ([.ref (B 100)]) (n := 5) (by first | exact Nat.le_of_ble_eq_true rfl | simp [lg_sl, rf_cat, ct_ref, ct_int, ct_null, ct_long])
  have hent := lg_entry_eq m ([.ref (B 100)]) 5
  rw [← hargs] at hent
  rw [hent]
  generalize (lg_sl ([.ref (B 100)]) ++ List.replicate (5 - (lg_sl ([.ref (B 100)])).length) Slot.unset).toArray = ls at hl ⊢
  replace hl : lv_has ls 5 [(0, .ref (B 100))] := hl
  have hwf := hM.wf
  obtain ⟨⟨y0, y1, y2, y3⟩, y4, y5, y6, y7⟩ := hwf
  refine lv_iconst (v := (-1)) hx hb dX5_choose_0 (by decide) ?_
  refine lv_istore_n (lv' := [(1, .int (-1)), (0, .ref (B 100))]) hx hb dX5_choose_1 rfl hl (by decide) rfl (fun ls hl => ?_)
  refine lv_iconst (v := 0) hx hb dX5_choose_2 (by decide) ?_
  refine lv_istore_n (lv' := [(2, .int 0), (1, .int (-1)), (0, .ref (B 100))]) hx hb dX5_choose_3 rfl hl (by decide) rfl (fun ls hl => ?_)
  refine lv_iconst (v := 0) hx hb dX5_choose_4 (by decide) ?_
  refine lv_istore_n (lv' := [(3, .int 0), (2, .int 0), (1, .int (-1)), (0, .ref (B 100))]) hx hb dX5_choose_5 rfl hl (by decide) rfl (fun ls hl => ?_)
  have lp6 : ∀ (fu : Nat) (i : Nat), (i ≤ kN μ 24 0) → kN μ 24 0 - i < fu → ∀ (H : Heap) (locs : List Loc), mV D hh (mA hh s.heap.size) H → va_S (mA hh s.heap.size) s.heap H locs → ∀ (ls : Array Slot), lv_has ls 5 [(0, .ref (B 100)), (1, .int (oI (cuM μ i))), (2, .int (bI (anM μ i))), (3, .int (nI i))] → W p l e ({ frames := 8, cells := 0, slots := 0, locals := 196 } : Room) s m args below meth c H locs 0 0 (MQ below (va_Qi ((fun (r : Int32) (h1 : mH) => h1 = hh ∧ r = oI (chM μ))) (mB D hh s.heap.size) (mA hh s.heap.size)) args s 0 0 (mA hh s.heap.size)) (F0 m 6 ls []) := by
    intro fu
    induction fu with
    | zero =>
      intro i hi hfu
      exact absurd hfu (Nat.not_lt_zero _)
    | succ fu ih6 =>
      intro i hi hfu H locs hV hS ls hl
      refine lv_iload_n hx hb dX5_choose_6 rfl (lv_at hl 3 rfl) ?_
      refine lv_aload_n hx hb dX5_choose_7 rfl (lv_at hl 0 rfl) ?_
      refine m_get (C := RX5) (T := TX5) (N := 34) hx hb hts hi_X5 hown hK hV 24 (v := .int (nI (kN μ 24 0))) (by have z9 := g_m24 hM; exact z9) rfl (by decide) k117 (fun _ h9 => h9) dX5_choose_8 ?_
      refine lv_icmp_ge (tgt := 97) hx hb dX5_choose_11 (by decide) (fun c11 => ?_) (fun c11 => ?_)
      · replace c11 : kN μ 24 0 ≤ i := (nI_leI (a := kN μ 24 0) (b := i) (by omega) (by omega)).mp c11
        refine lv_iload_n hx hb dX5_choose_97 rfl (lv_at hl 2 rfl) ?_
        refine lv_if_ne (tgt := 105) hx hb dX5_choose_98 (by decide) (fun c98 => ?_) (fun c98 => ?_)
        · replace c98 : (anM μ i) = true := bI_1.mp c98
          refine lv_iload_n hx hb dX5_choose_105 rfl (lv_at hl 1 rfl) ?_
          refine lv_iconst (v := (-1)) hx hb dX5_choose_106 (by decide) ?_
          refine lv_icmp_eq (tgt := 114) hx hb dX5_choose_107 (by decide) (fun c107 => ?_) (fun c107 => ?_)
          · replace c107 : (cuM μ i) = none := (oI_m1 (fun k9 e9 => by have := cuM_lt e9; omega)).mp c107
            replace hl : lv_has ls 5 [(0, .ref (B 100)), (1, .int (-1)), (2, .int (bI (anM μ i))), (3, .int (nI i))] := by have h9 := hl; rw [c107] at h9; exact h9
            refine lv_aload_n hx hb dX5_choose_114 rfl (lv_at hl 0 rfl) ?_
            refine lv_iconst (v := 0) hx hb dX5_choose_115 (by decide) ?_
            refine m_calli (va_runV (As := [.int 0]) (rest := []) ⟨hx, hb, hml, hown, hts⟩ (c_X5_down_6 (l := l) (H.size) hM 0 (by omega) (by omega)) (cwV 1 hts gX5_choose_X5_down rfl rfl rfl (by decide +kernel) ⟨by decide, by decide⟩) (m_preV (r := (RX5, TX5, 34)) hE hV hS hA (hM.at 100 (by decide)) rfl) rfl rfl hl.1 rfl (lv_room (by first | exact Nat.le_of_ble_eq_true rfl | simp [rf_cat, ct_ref, ct_int, ct_null, ct_long])) dX5_choose_116 ⟨by decide, by decide⟩) hV hS hA (fun r h1 H locs hV hS hp _ => ?_)
            obtain ⟨e1, e2⟩ := hp
            subst e2
            rw [e1] at hV; clear e1
            exact m_iret (v := oI (dnM μ 6 0)) hx hb hr hlocks hV hS (⟨rfl, by rw [show i = kN μ 24 0 by omega] at c98 c107; unfold chM; rw [if_neg (by rw [c98]; decide), c107]⟩) dX5_choose_119
          · obtain ⟨k107, c107⟩ : ∃ z, (cuM μ i) = some z := Option.ne_none_iff_exists'.mp (fun q9 => c107 ((oI_m1 (fun k9 e9 => by have := cuM_lt e9; omega)).mpr q9))
            have bk107 := cuM_lt c107
            replace hl : lv_has ls 5 [(0, .ref (B 100)), (1, .int (nI k107)), (2, .int (bI (anM μ i))), (3, .int (nI i))] := by have h9 := hl; rw [c107] at h9; exact h9
            refine lv_iload_n hx hb dX5_choose_110 rfl (lv_at hl 1 rfl) ?_
            refine lv_goto (tgt := 119) hx hb dX5_choose_111 (by decide) ?_
            exact m_iret (v := nI k107) hx hb hr hlocks hV hS (⟨rfl, by rw [show i = kN μ 24 0 by omega] at c98 c107; unfold chM; rw [if_neg (by rw [c98]; decide), c107]; rfl⟩) dX5_choose_119
        · replace c98 : (anM μ i) = false := bI_0.mp c98
          refine lv_iconst (v := (-1)) hx hb dX5_choose_101 (by decide) ?_
          refine lv_goto (tgt := 119) hx hb dX5_choose_102 (by decide) ?_
          exact m_iret (v := (-1)) hx hb hr hlocks hV hS (⟨rfl, by rw [show i = kN μ 24 0 by omega] at c98; unfold chM; rw [if_pos c98]; rfl⟩) dX5_choose_119
      · replace c11 : ¬ kN μ 24 0 ≤ i := fun q9 => c11 ((nI_leI (a := kN μ 24 0) (b := i) (by omega) (by omega)).mpr q9)
        refine lv_iload_n hx hb dX5_choose_14 rfl (lv_at hl 2 rfl) ?_
        refine lv_if_ne (tgt := 27) hx hb dX5_choose_15 (by decide) (fun c15 => ?_) (fun c15 => ?_)
        · replace c15 : (anM μ i) = true := bI_1.mp c15
          refine lv_iconst (v := 1) hx hb dX5_choose_27 (by decide) ?_
          refine lv_goto (tgt := 32) hx hb dX5_choose_28 (by decide) ?_
          refine lv_istore_n (lv' := [(2, .int 1), (0, .ref (B 100)), (1, .int (oI (cuM μ i))), (3, .int (nI i))]) hx hb dX5_choose_32 rfl hl (by decide) rfl (fun ls hl => ?_)
          refine lv_aload_n hx hb dX5_choose_33 rfl (lv_at hl 1 rfl) ?_
          refine m_get (C := RX5) (T := TX5) (N := 34) hx hb hts hi_X5 hown hK hV 32 (v := .ref (B 32)) (g_m32 hM) rfl (by decide) k88 (fun _ h9 => h9) dX5_choose_34 ?_
          refine lv_iload_n hx hb dX5_choose_37 rfl (lv_at hl 3 rfl) ?_
          refine m_zald hx hb hK hV 2 (i := nI i) (x := bI (kB μ 32 i)) (a_m32 hM) rfl (vp_in_nI (by omega) (by omega)) (by rw [nI_clamp (by omega)] <;> first | rfl | (show oI (va_up _ _ _ _) = _; rw [vu_s] <;> rfl) | (show va_up _ _ _ _ = _; rw [vu_s] <;> rfl)) dX5_choose_38 ?_
          refine lv_if_eq (tgt := 77) hx hb dX5_choose_39 (by decide) (fun c39 => ?_) (fun c39 => ?_)
          · replace c39 : kB μ 32 i = false := bI_0.mp c39
            refine lv_iconst (v := 0) hx hb dX5_choose_77 (by decide) ?_
            refine lv_istore (lv' := [(4, .int 0), (2, .int 1), (0, .ref (B 100)), (1, .int (oI (cuM μ i))), (3, .int (nI i))]) hx hb dX5_choose_78 hl (by decide) rfl (fun ls hl => ?_)
            refine lv_iload hx hb dX5_choose_80 (lv_at hl 0 rfl) ?_
            refine lv_if_eq (tgt := 89) hx hb dX5_choose_82 (by decide) (fun c82 => ?_) (fun c82 => (absurd (by decide) c82))
            refine lv_iload_n hx hb dX5_choose_89 rfl (lv_at hl 3 rfl) ?_
            refine lv_istore_n (lv' := [(1, .int (oI (cuM μ i))), (4, .int 0), (2, .int 1), (0, .ref (B 100)), (3, .int (nI i))]) hx hb dX5_choose_90 rfl hl (by decide) rfl (fun ls hl => ?_)
            refine lv_iinc (v := nI (i + 1)) (lv' := [(3, .int (nI (i + 1))), (1, .int (oI (cuM μ i))), (4, .int 0), (2, .int 1), (0, .ref (B 100))]) hx hb dX5_choose_91 hl (k := 4) rfl (show nI i + Int32.ofInt 1 = _ from nI_add i 1) (by decide) rfl (fun ls hl => ?_)
            refine lv_goto (tgt := 6) hx hb dX5_choose_94 (by decide) ?_
            have q1 : oI (cuM μ i) = oI (cuM μ (i + 1)) := (by rw [cuM, if_neg (fun q => absurd q.1 (by rw [c39]; decide))])
            have q2 : 1 = bI (anM μ (i + 1)) := (by rw [anM, c15]; rfl)
            replace hl : lv_has ls 5 [(3, .int (nI (i + 1))), (1, .int (oI (cuM μ (i + 1)))), (4, .int 0), (2, .int (bI (anM μ (i + 1)))), (0, .ref (B 100))] := (congrArg (lv_has ls 5) (m_lc rfl (m_lc (congrArg Value.int q1) (m_lc rfl (m_lc (congrArg Value.int q2) (m_lc rfl rfl)))))).mp hl
            exact ih6 (i + 1) (by omega) (by omega) _ _ hV hS ls (lv_sub hl [4, 1, 3, 0] rfl)
          · replace c39 : kB μ 32 i = true := bI_1.mp c39
            refine lv_aload_n hx hb dX5_choose_42 rfl (lv_at hl 1 rfl) ?_
            refine m_get (C := RX5) (T := TX5) (N := 34) hx hb hts hi_X5 hown hK hV 31 (v := .ref (B 31)) (g_m31 hM) rfl (by decide) k85 (fun _ h9 => h9) dX5_choose_43 ?_
            refine lv_iload_n hx hb dX5_choose_46 rfl (lv_at hl 3 rfl) ?_
            refine m_iald hx hb hK hV 0 (i := nI i) (x := (kI μ 31 i)) (a_m31 hM) rfl (vp_in_nI (by omega) (by omega)) (by rw [nI_clamp (by omega)] <;> first | rfl | (show oI (va_up _ _ _ _) = _; rw [vu_s] <;> rfl) | (show va_up _ _ _ _ = _; rw [vu_s] <;> rfl)) dX5_choose_47 ?_
            refine lv_ldc (v := 1000000) hx hb hown kk169 dX5_choose_48 ?_
            refine lv_icmp_ge (tgt := 77) hx hb dX5_choose_50 (by decide) (fun c50 => ?_) (fun c50 => ?_)
            · refine lv_iconst (v := 0) hx hb dX5_choose_77 (by decide) ?_
              refine lv_istore (lv' := [(4, .int 0), (2, .int 1), (0, .ref (B 100)), (1, .int (oI (cuM μ i))), (3, .int (nI i))]) hx hb dX5_choose_78 hl (by decide) rfl (fun ls hl => ?_)
              refine lv_iload hx hb dX5_choose_80 (lv_at hl 0 rfl) ?_
              refine lv_if_eq (tgt := 89) hx hb dX5_choose_82 (by decide) (fun c82 => ?_) (fun c82 => (absurd (by decide) c82))
              refine lv_iload_n hx hb dX5_choose_89 rfl (lv_at hl 3 rfl) ?_
              refine lv_istore_n (lv' := [(1, .int (oI (cuM μ i))), (4, .int 0), (2, .int 1), (0, .ref (B 100)), (3, .int (nI i))]) hx hb dX5_choose_90 rfl hl (by decide) rfl (fun ls hl => ?_)
              refine lv_iinc (v := nI (i + 1)) (lv' := [(3, .int (nI (i + 1))), (1, .int (oI (cuM μ i))), (4, .int 0), (2, .int 1), (0, .ref (B 100))]) hx hb dX5_choose_91 hl (k := 4) rfl (show nI i + Int32.ofInt 1 = _ from nI_add i 1) (by decide) rfl (fun ls hl => ?_)
              refine lv_goto (tgt := 6) hx hb dX5_choose_94 (by decide) ?_
              have q3 : oI (cuM μ i) = oI (cuM μ (i + 1)) := (by rw [cuM, if_neg (fun q => Int32.not_lt.mpr c50 q.2.1)])
              have q4 : 1 = bI (anM μ (i + 1)) := (by rw [anM, c15]; rfl)
              replace hl : lv_has ls 5 [(3, .int (nI (i + 1))), (1, .int (oI (cuM μ (i + 1)))), (4, .int 0), (2, .int (bI (anM μ (i + 1)))), (0, .ref (B 100))] := (congrArg (lv_has ls 5) (m_lc rfl (m_lc (congrArg Value.int q3) (m_lc rfl (m_lc (congrArg Value.int q4) (m_lc rfl rfl)))))).mp hl
              exact ih6 (i + 1) (by omega) (by omega) _ _ hV hS ls (lv_sub hl [4, 1, 3, 0] rfl)
            · refine lv_iload_n hx hb dX5_choose_53 rfl (lv_at hl 2 rfl) ?_
              refine lv_iconst (v := (-1)) hx hb dX5_choose_54 (by decide) ?_
              refine lv_icmp_eq (tgt := 73) hx hb dX5_choose_55 (by decide) (fun c55 => ?_) (fun c55 => ?_)
              · replace c55 : (cuM μ i) = none := (oI_m1 (fun k9 e9 => by have := cuM_lt e9; omega)).mp c55
                replace hl : lv_has ls 5 [(2, .int 1), (0, .ref (B 100)), (1, .int (-1)), (3, .int (nI i))] := by have h9 := hl; rw [c55] at h9; exact h9
                refine lv_iconst (v := 1) hx hb dX5_choose_73 (by decide) ?_
                refine lv_goto (tgt := 78) hx hb dX5_choose_74 (by decide) ?_
                refine lv_istore (lv' := [(4, .int 1), (2, .int 1), (0, .ref (B 100)), (1, .int (-1)), (3, .int (nI i))]) hx hb dX5_choose_78 hl (by decide) rfl (fun ls hl => ?_)
                refine lv_iload hx hb dX5_choose_80 (lv_at hl 0 rfl) ?_
                refine lv_if_eq (tgt := 89) hx hb dX5_choose_82 (by decide) (fun c82 => (absurd c82 (by decide))) (fun c82 => ?_)
                refine lv_iload_n hx hb dX5_choose_85 rfl (lv_at hl 4 rfl) ?_
                refine lv_goto (tgt := 90) hx hb dX5_choose_86 (by decide) ?_
                refine lv_istore_n (lv' := [(1, .int (nI i)), (4, .int 1), (2, .int 1), (0, .ref (B 100)), (3, .int (nI i))]) hx hb dX5_choose_90 rfl hl (by decide) rfl (fun ls hl => ?_)
                refine lv_iinc (v := nI (i + 1)) (lv' := [(3, .int (nI (i + 1))), (1, .int (nI i)), (4, .int 1), (2, .int 1), (0, .ref (B 100))]) hx hb dX5_choose_91 hl (k := 4) rfl (show nI i + Int32.ofInt 1 = _ from nI_add i 1) (by decide) rfl (fun ls hl => ?_)
                refine lv_goto (tgt := 6) hx hb dX5_choose_94 (by decide) ?_
                have q5 : nI i = oI (cuM μ (i + 1)) := (by rw [cuM, if_pos ⟨c39, Int32.not_le.mp c50, by rw [c55]⟩]; rfl)
                have q6 : 1 = bI (anM μ (i + 1)) := (by rw [anM, c15]; rfl)
                replace hl : lv_has ls 5 [(3, .int (nI (i + 1))), (1, .int (oI (cuM μ (i + 1)))), (4, .int 1), (2, .int (bI (anM μ (i + 1)))), (0, .ref (B 100))] := (congrArg (lv_has ls 5) (m_lc rfl (m_lc (congrArg Value.int q5) (m_lc rfl (m_lc (congrArg Value.int q6) (m_lc rfl rfl)))))).mp hl
                exact ih6 (i + 1) (by omega) (by omega) _ _ hV hS ls (lv_sub hl [4, 1, 3, 0] rfl)
              · obtain ⟨k55, c55⟩ : ∃ z, (cuM μ i) = some z := Option.ne_none_iff_exists'.mp (fun q9 => c55 ((oI_m1 (fun k9 e9 => by have := cuM_lt e9; omega)).mpr q9))
                have bk55 := cuM_lt c55
                replace hl : lv_has ls 5 [(2, .int 1), (0, .ref (B 100)), (1, .int (nI k55)), (3, .int (nI i))] := by have h9 := hl; rw [c55] at h9; exact h9
                refine lv_aload_n hx hb dX5_choose_58 rfl (lv_at hl 1 rfl) ?_
                refine m_get (C := RX5) (T := TX5) (N := 34) hx hb hts hi_X5 hown hK hV 31 (v := .ref (B 31)) (g_m31 hM) rfl (by decide) k85 (fun _ h9 => h9) dX5_choose_59 ?_
                refine lv_iload_n hx hb dX5_choose_62 rfl (lv_at hl 3 rfl) ?_
                refine m_iald hx hb hK hV 0 (i := nI i) (x := (kI μ 31 i)) (a_m31 hM) rfl (vp_in_nI (by omega) (by omega)) (by rw [nI_clamp (by omega)] <;> first | rfl | (show oI (va_up _ _ _ _) = _; rw [vu_s] <;> rfl) | (show va_up _ _ _ _ = _; rw [vu_s] <;> rfl)) dX5_choose_63 ?_
                refine lv_aload_n hx hb dX5_choose_64 rfl (lv_at hl 1 rfl) ?_
                refine m_get (C := RX5) (T := TX5) (N := 34) hx hb hts hi_X5 hown hK hV 31 (v := .ref (B 31)) (g_m31 hM) rfl (by decide) k85 (fun _ h9 => h9) dX5_choose_65 ?_
                refine lv_iload_n hx hb dX5_choose_68 rfl (lv_at hl 2 rfl) ?_
                refine m_iald hx hb hK hV 0 (i := nI k55) (x := (kI μ 31 k55)) (a_m31 hM) rfl (vp_in_nI (by omega) (by omega)) (by rw [nI_clamp (by omega)] <;> first | rfl | (show oI (va_up _ _ _ _) = _; rw [vu_s] <;> rfl) | (show va_up _ _ _ _ = _; rw [vu_s] <;> rfl)) dX5_choose_69 ?_
                refine lv_icmp_ge (tgt := 77) hx hb dX5_choose_70 (by decide) (fun c70 => ?_) (fun c70 => ?_)
                · refine lv_iconst (v := 0) hx hb dX5_choose_77 (by decide) ?_
                  refine lv_istore (lv' := [(4, .int 0), (2, .int 1), (0, .ref (B 100)), (1, .int (nI k55)), (3, .int (nI i))]) hx hb dX5_choose_78 hl (by decide) rfl (fun ls hl => ?_)
                  refine lv_iload hx hb dX5_choose_80 (lv_at hl 0 rfl) ?_
                  refine lv_if_eq (tgt := 89) hx hb dX5_choose_82 (by decide) (fun c82 => ?_) (fun c82 => (absurd (by decide) c82))
                  refine lv_iload_n hx hb dX5_choose_89 rfl (lv_at hl 3 rfl) ?_
                  refine lv_istore_n (lv' := [(1, .int (nI k55)), (4, .int 0), (2, .int 1), (0, .ref (B 100)), (3, .int (nI i))]) hx hb dX5_choose_90 rfl hl (by decide) rfl (fun ls hl => ?_)
                  refine lv_iinc (v := nI (i + 1)) (lv' := [(3, .int (nI (i + 1))), (1, .int (nI k55)), (4, .int 0), (2, .int 1), (0, .ref (B 100))]) hx hb dX5_choose_91 hl (k := 4) rfl (show nI i + Int32.ofInt 1 = _ from nI_add i 1) (by decide) rfl (fun ls hl => ?_)
                  refine lv_goto (tgt := 6) hx hb dX5_choose_94 (by decide) ?_
                  have q7 : nI k55 = oI (cuM μ (i + 1)) := (by rw [cuM, if_neg (fun q => absurd (of_decide_eq_true (by have z := q.2.2; rw [c55] at z; exact z)) (Int32.not_lt.mpr c70)), c55]; rfl)
                  have q8 : 1 = bI (anM μ (i + 1)) := (by rw [anM, c15]; rfl)
                  replace hl : lv_has ls 5 [(3, .int (nI (i + 1))), (1, .int (oI (cuM μ (i + 1)))), (4, .int 0), (2, .int (bI (anM μ (i + 1)))), (0, .ref (B 100))] := (congrArg (lv_has ls 5) (m_lc rfl (m_lc (congrArg Value.int q7) (m_lc rfl (m_lc (congrArg Value.int q8) (m_lc rfl rfl)))))).mp hl
                  exact ih6 (i + 1) (by omega) (by omega) _ _ hV hS ls (lv_sub hl [4, 1, 3, 0] rfl)
                · refine lv_iconst (v := 1) hx hb dX5_choose_73 (by decide) ?_
                  refine lv_goto (tgt := 78) hx hb dX5_choose_74 (by decide) ?_
                  refine lv_istore (lv' := [(4, .int 1), (2, .int 1), (0, .ref (B 100)), (1, .int (nI k55)), (3, .int (nI i))]) hx hb dX5_choose_78 hl (by decide) rfl (fun ls hl => ?_)
                  refine lv_iload hx hb dX5_choose_80 (lv_at hl 0 rfl) ?_
                  refine lv_if_eq (tgt := 89) hx hb dX5_choose_82 (by decide) (fun c82 => (absurd c82 (by decide))) (fun c82 => ?_)
                  refine lv_iload_n hx hb dX5_choose_85 rfl (lv_at hl 4 rfl) ?_
                  refine lv_goto (tgt := 90) hx hb dX5_choose_86 (by decide) ?_
                  refine lv_istore_n (lv' := [(1, .int (nI i)), (4, .int 1), (2, .int 1), (0, .ref (B 100)), (3, .int (nI i))]) hx hb dX5_choose_90 rfl hl (by decide) rfl (fun ls hl => ?_)
                  refine lv_iinc (v := nI (i + 1)) (lv' := [(3, .int (nI (i + 1))), (1, .int (nI i)), (4, .int 1), (2, .int 1), (0, .ref (B 100))]) hx hb dX5_choose_91 hl (k := 4) rfl (show nI i + Int32.ofInt 1 = _ from nI_add i 1) (by decide) rfl (fun ls hl => ?_)
                  refine lv_goto (tgt := 6) hx hb dX5_choose_94 (by decide) ?_
                  have q9 : nI i = oI (cuM μ (i + 1)) := (by rw [cuM, if_pos ⟨c39, Int32.not_le.mp c50, by rw [c55]; exact decide_eq_true (Int32.not_le.mp c70)⟩]; rfl)
                  have q10 : 1 = bI (anM μ (i + 1)) := (by rw [anM, c15]; rfl)
                  replace hl : lv_has ls 5 [(3, .int (nI (i + 1))), (1, .int (oI (cuM μ (i + 1)))), (4, .int 1), (2, .int (bI (anM μ (i + 1)))), (0, .ref (B 100))] := (congrArg (lv_has ls 5) (m_lc rfl (m_lc (congrArg Value.int q9) (m_lc rfl (m_lc (congrArg Value.int q10) (m_lc rfl rfl)))))).mp hl
                  exact ih6 (i + 1) (by omega) (by omega) _ _ hV hS ls (lv_sub hl [4, 1, 3, 0] rfl)
        · replace c15 : (anM μ i) = false := bI_0.mp c15
          refine lv_aload_n hx hb dX5_choose_18 rfl (lv_at hl 0 rfl) ?_
          refine m_get (C := RX5) (T := TX5) (N := 34) hx hb hts hi_X5 hown hK hV 32 (v := .ref (B 32)) (g_m32 hM) rfl (by decide) k88 (fun _ h9 => h9) dX5_choose_19 ?_
          refine lv_iload_n hx hb dX5_choose_22 rfl (lv_at hl 3 rfl) ?_
          refine m_zald hx hb hK hV 2 (i := nI i) (x := bI (kB μ 32 i)) (a_m32 hM) rfl (vp_in_nI (by omega) (by omega)) (by rw [nI_clamp (by omega)] <;> first | rfl | (show oI (va_up _ _ _ _) = _; rw [vu_s] <;> rfl) | (show va_up _ _ _ _ = _; rw [vu_s] <;> rfl)) dX5_choose_23 ?_
          refine lv_if_eq (tgt := 31) hx hb dX5_choose_24 (by decide) (fun c24 => ?_) (fun c24 => ?_)
          · replace c24 : kB μ 32 i = false := bI_0.mp c24
            refine lv_iconst (v := 0) hx hb dX5_choose_31 (by decide) ?_
            refine lv_istore_n (lv' := [(2, .int 0), (0, .ref (B 100)), (1, .int (oI (cuM μ i))), (3, .int (nI i))]) hx hb dX5_choose_32 rfl hl (by decide) rfl (fun ls hl => ?_)
            refine lv_aload_n hx hb dX5_choose_33 rfl (lv_at hl 1 rfl) ?_
            refine m_get (C := RX5) (T := TX5) (N := 34) hx hb hts hi_X5 hown hK hV 32 (v := .ref (B 32)) (g_m32 hM) rfl (by decide) k88 (fun _ h9 => h9) dX5_choose_34 ?_
            refine lv_iload_n hx hb dX5_choose_37 rfl (lv_at hl 3 rfl) ?_
            refine m_zald hx hb hK hV 2 (i := nI i) (x := bI (kB μ 32 i)) (a_m32 hM) rfl (vp_in_nI (by omega) (by omega)) (by rw [nI_clamp (by omega)] <;> first | rfl | (show oI (va_up _ _ _ _) = _; rw [vu_s] <;> rfl) | (show va_up _ _ _ _ = _; rw [vu_s] <;> rfl)) dX5_choose_38 ?_
            refine lv_if_eq (tgt := 77) hx hb dX5_choose_39 (by decide) (fun _ => ?_) (fun c39 => absurd (by rw [c24]; rfl) c39)
            refine lv_iconst (v := 0) hx hb dX5_choose_77 (by decide) ?_
            refine lv_istore (lv' := [(4, .int 0), (2, .int 0), (0, .ref (B 100)), (1, .int (oI (cuM μ i))), (3, .int (nI i))]) hx hb dX5_choose_78 hl (by decide) rfl (fun ls hl => ?_)
            refine lv_iload hx hb dX5_choose_80 (lv_at hl 0 rfl) ?_
            refine lv_if_eq (tgt := 89) hx hb dX5_choose_82 (by decide) (fun c82 => ?_) (fun c82 => (absurd (by decide) c82))
            refine lv_iload_n hx hb dX5_choose_89 rfl (lv_at hl 3 rfl) ?_
            refine lv_istore_n (lv' := [(1, .int (oI (cuM μ i))), (4, .int 0), (2, .int 0), (0, .ref (B 100)), (3, .int (nI i))]) hx hb dX5_choose_90 rfl hl (by decide) rfl (fun ls hl => ?_)
            refine lv_iinc (v := nI (i + 1)) (lv' := [(3, .int (nI (i + 1))), (1, .int (oI (cuM μ i))), (4, .int 0), (2, .int 0), (0, .ref (B 100))]) hx hb dX5_choose_91 hl (k := 4) rfl (show nI i + Int32.ofInt 1 = _ from nI_add i 1) (by decide) rfl (fun ls hl => ?_)
            refine lv_goto (tgt := 6) hx hb dX5_choose_94 (by decide) ?_
            have q11 : oI (cuM μ i) = oI (cuM μ (i + 1)) := (by rw [cuM, if_neg (fun q => absurd q.1 (by rw [c24]; decide))])
            have q12 : 0 = bI (anM μ (i + 1)) := (by rw [anM, c15, c24]; rfl)
            replace hl : lv_has ls 5 [(3, .int (nI (i + 1))), (1, .int (oI (cuM μ (i + 1)))), (4, .int 0), (2, .int (bI (anM μ (i + 1)))), (0, .ref (B 100))] := (congrArg (lv_has ls 5) (m_lc rfl (m_lc (congrArg Value.int q11) (m_lc rfl (m_lc (congrArg Value.int q12) (m_lc rfl rfl)))))).mp hl
            exact ih6 (i + 1) (by omega) (by omega) _ _ hV hS ls (lv_sub hl [4, 1, 3, 0] rfl)
          · replace c24 : kB μ 32 i = true := bI_1.mp c24
            refine lv_iconst (v := 1) hx hb dX5_choose_27 (by decide) ?_
            refine lv_goto (tgt := 32) hx hb dX5_choose_28 (by decide) ?_
            refine lv_istore_n (lv' := [(2, .int 1), (0, .ref (B 100)), (1, .int (oI (cuM μ i))), (3, .int (nI i))]) hx hb dX5_choose_32 rfl hl (by decide) rfl (fun ls hl => ?_)
            refine lv_aload_n hx hb dX5_choose_33 rfl (lv_at hl 1 rfl) ?_
            refine m_get (C := RX5) (T := TX5) (N := 34) hx hb hts hi_X5 hown hK hV 32 (v := .ref (B 32)) (g_m32 hM) rfl (by decide) k88 (fun _ h9 => h9) dX5_choose_34 ?_
            refine lv_iload_n hx hb dX5_choose_37 rfl (lv_at hl 3 rfl) ?_
            refine m_zald hx hb hK hV 2 (i := nI i) (x := bI (kB μ 32 i)) (a_m32 hM) rfl (vp_in_nI (by omega) (by omega)) (by rw [nI_clamp (by omega)] <;> first | rfl | (show oI (va_up _ _ _ _) = _; rw [vu_s] <;> rfl) | (show va_up _ _ _ _ = _; rw [vu_s] <;> rfl)) dX5_choose_38 ?_
            refine lv_if_eq (tgt := 77) hx hb dX5_choose_39 (by decide) (fun c39 => absurd c39 (by rw [c24]; decide)) (fun _ => ?_)
            refine lv_aload_n hx hb dX5_choose_42 rfl (lv_at hl 1 rfl) ?_
            refine m_get (C := RX5) (T := TX5) (N := 34) hx hb hts hi_X5 hown hK hV 31 (v := .ref (B 31)) (g_m31 hM) rfl (by decide) k85 (fun _ h9 => h9) dX5_choose_43 ?_
            refine lv_iload_n hx hb dX5_choose_46 rfl (lv_at hl 3 rfl) ?_
            refine m_iald hx hb hK hV 0 (i := nI i) (x := (kI μ 31 i)) (a_m31 hM) rfl (vp_in_nI (by omega) (by omega)) (by rw [nI_clamp (by omega)] <;> first | rfl | (show oI (va_up _ _ _ _) = _; rw [vu_s] <;> rfl) | (show va_up _ _ _ _ = _; rw [vu_s] <;> rfl)) dX5_choose_47 ?_
            refine lv_ldc (v := 1000000) hx hb hown kk169 dX5_choose_48 ?_
            refine lv_icmp_ge (tgt := 77) hx hb dX5_choose_50 (by decide) (fun c50 => ?_) (fun c50 => ?_)
            · refine lv_iconst (v := 0) hx hb dX5_choose_77 (by decide) ?_
              refine lv_istore (lv' := [(4, .int 0), (2, .int 1), (0, .ref (B 100)), (1, .int (oI (cuM μ i))), (3, .int (nI i))]) hx hb dX5_choose_78 hl (by decide) rfl (fun ls hl => ?_)
              refine lv_iload hx hb dX5_choose_80 (lv_at hl 0 rfl) ?_
              refine lv_if_eq (tgt := 89) hx hb dX5_choose_82 (by decide) (fun c82 => ?_) (fun c82 => (absurd (by decide) c82))
              refine lv_iload_n hx hb dX5_choose_89 rfl (lv_at hl 3 rfl) ?_
              refine lv_istore_n (lv' := [(1, .int (oI (cuM μ i))), (4, .int 0), (2, .int 1), (0, .ref (B 100)), (3, .int (nI i))]) hx hb dX5_choose_90 rfl hl (by decide) rfl (fun ls hl => ?_)
              refine lv_iinc (v := nI (i + 1)) (lv' := [(3, .int (nI (i + 1))), (1, .int (oI (cuM μ i))), (4, .int 0), (2, .int 1), (0, .ref (B 100))]) hx hb dX5_choose_91 hl (k := 4) rfl (show nI i + Int32.ofInt 1 = _ from nI_add i 1) (by decide) rfl (fun ls hl => ?_)
              refine lv_goto (tgt := 6) hx hb dX5_choose_94 (by decide) ?_
              have q13 : oI (cuM μ i) = oI (cuM μ (i + 1)) := (by rw [cuM, if_neg (fun q => Int32.not_lt.mpr c50 q.2.1)])
              have q14 : 1 = bI (anM μ (i + 1)) := (by rw [anM, c15, c24]; rfl)
              replace hl : lv_has ls 5 [(3, .int (nI (i + 1))), (1, .int (oI (cuM μ (i + 1)))), (4, .int 0), (2, .int (bI (anM μ (i + 1)))), (0, .ref (B 100))] := (congrArg (lv_has ls 5) (m_lc rfl (m_lc (congrArg Value.int q13) (m_lc rfl (m_lc (congrArg Value.int q14) (m_lc rfl rfl)))))).mp hl
              exact ih6 (i + 1) (by omega) (by omega) _ _ hV hS ls (lv_sub hl [4, 1, 3, 0] rfl)
            · refine lv_iload_n hx hb dX5_choose_53 rfl (lv_at hl 2 rfl) ?_
              refine lv_iconst (v := (-1)) hx hb dX5_choose_54 (by decide) ?_
              refine lv_icmp_eq (tgt := 73) hx hb dX5_choose_55 (by decide) (fun c55 => ?_) (fun c55 => ?_)
              · replace c55 : (cuM μ i) = none := (oI_m1 (fun k9 e9 => by have := cuM_lt e9; omega)).mp c55
                replace hl : lv_has ls 5 [(2, .int 1), (0, .ref (B 100)), (1, .int (-1)), (3, .int (nI i))] := by have h9 := hl; rw [c55] at h9; exact h9
                refine lv_iconst (v := 1) hx hb dX5_choose_73 (by decide) ?_
                refine lv_goto (tgt := 78) hx hb dX5_choose_74 (by decide) ?_
                refine lv_istore (lv' := [(4, .int 1), (2, .int 1), (0, .ref (B 100)), (1, .int (-1)), (3, .int (nI i))]) hx hb dX5_choose_78 hl (by decide) rfl (fun ls hl => ?_)
                refine lv_iload hx hb dX5_choose_80 (lv_at hl 0 rfl) ?_
                refine lv_if_eq (tgt := 89) hx hb dX5_choose_82 (by decide) (fun c82 => (absurd c82 (by decide))) (fun c82 => ?_)
                refine lv_iload_n hx hb dX5_choose_85 rfl (lv_at hl 4 rfl) ?_
                refine lv_goto (tgt := 90) hx hb dX5_choose_86 (by decide) ?_
                refine lv_istore_n (lv' := [(1, .int (nI i)), (4, .int 1), (2, .int 1), (0, .ref (B 100)), (3, .int (nI i))]) hx hb dX5_choose_90 rfl hl (by decide) rfl (fun ls hl => ?_)
                refine lv_iinc (v := nI (i + 1)) (lv' := [(3, .int (nI (i + 1))), (1, .int (nI i)), (4, .int 1), (2, .int 1), (0, .ref (B 100))]) hx hb dX5_choose_91 hl (k := 4) rfl (show nI i + Int32.ofInt 1 = _ from nI_add i 1) (by decide) rfl (fun ls hl => ?_)
                refine lv_goto (tgt := 6) hx hb dX5_choose_94 (by decide) ?_
                have q15 : nI i = oI (cuM μ (i + 1)) := (by rw [cuM, if_pos ⟨c24, Int32.not_le.mp c50, by rw [c55]⟩]; rfl)
                have q16 : 1 = bI (anM μ (i + 1)) := (by rw [anM, c15, c24]; rfl)
                replace hl : lv_has ls 5 [(3, .int (nI (i + 1))), (1, .int (oI (cuM μ (i + 1)))), (4, .int 1), (2, .int (bI (anM μ (i + 1)))), (0, .ref (B 100))] := (congrArg (lv_has ls 5) (m_lc rfl (m_lc (congrArg Value.int q15) (m_lc rfl (m_lc (congrArg Value.int q16) (m_lc rfl rfl)))))).mp hl
                exact ih6 (i + 1) (by omega) (by omega) _ _ hV hS ls (lv_sub hl [4, 1, 3, 0] rfl)
              · obtain ⟨k55, c55⟩ : ∃ z, (cuM μ i) = some z := Option.ne_none_iff_exists'.mp (fun q9 => c55 ((oI_m1 (fun k9 e9 => by have := cuM_lt e9; omega)).mpr q9))
                have bk55 := cuM_lt c55
                replace hl : lv_has ls 5 [(2, .int 1), (0, .ref (B 100)), (1, .int (nI k55)), (3, .int (nI i))] := by have h9 := hl; rw [c55] at h9; exact h9
                refine lv_aload_n hx hb dX5_choose_58 rfl (lv_at hl 1 rfl) ?_
                refine m_get (C := RX5) (T := TX5) (N := 34) hx hb hts hi_X5 hown hK hV 31 (v := .ref (B 31)) (g_m31 hM) rfl (by decide) k85 (fun _ h9 => h9) dX5_choose_59 ?_
                refine lv_iload_n hx hb dX5_choose_62 rfl (lv_at hl 3 rfl) ?_
                refine m_iald hx hb hK hV 0 (i := nI i) (x := (kI μ 31 i)) (a_m31 hM) rfl (vp_in_nI (by omega) (by omega)) (by rw [nI_clamp (by omega)] <;> first | rfl | (show oI (va_up _ _ _ _) = _; rw [vu_s] <;> rfl) | (show va_up _ _ _ _ = _; rw [vu_s] <;> rfl)) dX5_choose_63 ?_
                refine lv_aload_n hx hb dX5_choose_64 rfl (lv_at hl 1 rfl) ?_
                refine m_get (C := RX5) (T := TX5) (N := 34) hx hb hts hi_X5 hown hK hV 31 (v := .ref (B 31)) (g_m31 hM) rfl (by decide) k85 (fun _ h9 => h9) dX5_choose_65 ?_
                refine lv_iload_n hx hb dX5_choose_68 rfl (lv_at hl 2 rfl) ?_
                refine m_iald hx hb hK hV 0 (i := nI k55) (x := (kI μ 31 k55)) (a_m31 hM) rfl (vp_in_nI (by omega) (by omega)) (by rw [nI_clamp (by omega)] <;> first | rfl | (show oI (va_up _ _ _ _) = _; rw [vu_s] <;> rfl) | (show va_up _ _ _ _ = _; rw [vu_s] <;> rfl)) dX5_choose_69 ?_
                refine lv_icmp_ge (tgt := 77) hx hb dX5_choose_70 (by decide) (fun c70 => ?_) (fun c70 => ?_)
                · refine lv_iconst (v := 0) hx hb dX5_choose_77 (by decide) ?_
                  refine lv_istore (lv' := [(4, .int 0), (2, .int 1), (0, .ref (B 100)), (1, .int (nI k55)), (3, .int (nI i))]) hx hb dX5_choose_78 hl (by decide) rfl (fun ls hl => ?_)
                  refine lv_iload hx hb dX5_choose_80 (lv_at hl 0 rfl) ?_
                  refine lv_if_eq (tgt := 89) hx hb dX5_choose_82 (by decide) (fun c82 => ?_) (fun c82 => (absurd (by decide) c82))
                  refine lv_iload_n hx hb dX5_choose_89 rfl (lv_at hl 3 rfl) ?_
                  refine lv_istore_n (lv' := [(1, .int (nI k55)), (4, .int 0), (2, .int 1), (0, .ref (B 100)), (3, .int (nI i))]) hx hb dX5_choose_90 rfl hl (by decide) rfl (fun ls hl => ?_)
                  refine lv_iinc (v := nI (i + 1)) (lv' := [(3, .int (nI (i + 1))), (1, .int (nI k55)), (4, .int 0), (2, .int 1), (0, .ref (B 100))]) hx hb dX5_choose_91 hl (k := 4) rfl (show nI i + Int32.ofInt 1 = _ from nI_add i 1) (by decide) rfl (fun ls hl => ?_)
                  refine lv_goto (tgt := 6) hx hb dX5_choose_94 (by decide) ?_
                  have q17 : nI k55 = oI (cuM μ (i + 1)) := (by rw [cuM, if_neg (fun q => absurd (of_decide_eq_true (by have z := q.2.2; rw [c55] at z; exact z)) (Int32.not_lt.mpr c70)), c55]; rfl)
                  have q18 : 1 = bI (anM μ (i + 1)) := (by rw [anM, c15, c24]; rfl)
                  replace hl : lv_has ls 5 [(3, .int (nI (i + 1))), (1, .int (oI (cuM μ (i + 1)))), (4, .int 0), (2, .int (bI (anM μ (i + 1)))), (0, .ref (B 100))] := (congrArg (lv_has ls 5) (m_lc rfl (m_lc (congrArg Value.int q17) (m_lc rfl (m_lc (congrArg Value.int q18) (m_lc rfl rfl)))))).mp hl
                  exact ih6 (i + 1) (by omega) (by omega) _ _ hV hS ls (lv_sub hl [4, 1, 3, 0] rfl)
                · refine lv_iconst (v := 1) hx hb dX5_choose_73 (by decide) ?_
                  refine lv_goto (tgt := 78) hx hb dX5_choose_74 (by decide) ?_
                  refine lv_istore (lv' := [(4, .int 1), (2, .int 1), (0, .ref (B 100)), (1, .int (nI k55)), (3, .int (nI i))]) hx hb dX5_choose_78 hl (by decide) rfl (fun ls hl => ?_)
                  refine lv_iload hx hb dX5_choose_80 (lv_at hl 0 rfl) ?_
                  refine lv_if_eq (tgt := 89) hx hb dX5_choose_82 (by decide) (fun c82 => (absurd c82 (by decide))) (fun c82 => ?_)
                  refine lv_iload_n hx hb dX5_choose_85 rfl (lv_at hl 4 rfl) ?_
                  refine lv_goto (tgt := 90) hx hb dX5_choose_86 (by decide) ?_
                  refine lv_istore_n (lv' := [(1, .int (nI i)), (4, .int 1), (2, .int 1), (0, .ref (B 100)), (3, .int (nI i))]) hx hb dX5_choose_90 rfl hl (by decide) rfl (fun ls hl => ?_)
                  refine lv_iinc (v := nI (i + 1)) (lv' := [(3, .int (nI (i + 1))), (1, .int (nI i)), (4, .int 1), (2, .int 1), (0, .ref (B 100))]) hx hb dX5_choose_91 hl (k := 4) rfl (show nI i + Int32.ofInt 1 = _ from nI_add i 1) (by decide) rfl (fun ls hl => ?_)
                  refine lv_goto (tgt := 6) hx hb dX5_choose_94 (by decide) ?_
                  have q19 : nI i = oI (cuM μ (i + 1)) := (by rw [cuM, if_pos ⟨c24, Int32.not_le.mp c50, by rw [c55]; exact decide_eq_true (Int32.not_le.mp c70)⟩]; rfl)
                  have q20 : 1 = bI (anM μ (i + 1)) := (by rw [anM, c15, c24]; rfl)
                  replace hl : lv_has ls 5 [(3, .int (nI (i + 1))), (1, .int (oI (cuM μ (i + 1)))), (4, .int 1), (2, .int (bI (anM μ (i + 1)))), (0, .ref (B 100))] := (congrArg (lv_has ls 5) (m_lc rfl (m_lc (congrArg Value.int q19) (m_lc rfl (m_lc (congrArg Value.int q20) (m_lc rfl rfl)))))).mp hl
                  exact ih6 (i + 1) (by omega) (by omega) _ _ hV hS ls (lv_sub hl [4, 1, 3, 0] rfl)
  have q21 : (-1) = oI (cuM μ 0) := rfl
  have q22 : 0 = bI (anM μ 0) := rfl
  have q23 : 0 = nI 0 := rfl
  replace hl : lv_has ls 5 [(3, .int (nI 0)), (2, .int (bI (anM μ 0))), (1, .int (oI (cuM μ 0))), (0, .ref (B 100))] := (congrArg (lv_has ls 5) (m_lc (congrArg Value.int q23) (m_lc (congrArg Value.int q22) (m_lc (congrArg Value.int q21) (m_lc rfl rfl))))).mp hl
  exact lp6 ((kN μ 24 0 - 0) + 1) 0 (Nat.zero_le _) (Nat.lt_succ_self _) _ _ hV hS ls (lv_sub hl [3, 2, 1, 0] rfl)
set_option maxHeartbeats 4000000 in
set_option maxRecDepth 100000 in
theorem c_X5_chooses {l : Launch} {D : va_G} {cs : mC} {df : Nat} {P : Nat → Prop} {h0 : mH} {B : Nat → Nat} {μ : KS} {hh : mH} (sz : Nat) (hM : DRep cs P h0 B μ hh)  : Met l yX5_chooses wsX5_chooses ({ frames := 9, cells := 0, slots := 0, locals := 220 }) (mPre [.ref (B 100)] D cs df hh sz) (va_Qv ((fun (h1 : mH) => DRep cs P h0 B (csM μ) h1)) (mB D hh sz) (mA hh sz)) 0 0 (mA hh sz) := by
  refine Met.ofW (cc := cX5_chooses) (maxL := 3) (ret := none) (by decide) rfl ?_
  intro p e s m args below meth c s₁ B0 hml hv
  obtain ⟨hargs, hsz, hV, hE⟩ := hv
  subst hsz
  have hx := B0.exec
  have hb := B0.bytes
  have hr := B0.returns
  have hlocks := B0.notSynchronized
  have hts := atoms_spec (ws := wsX5_chooses) B0.pre
  have hown : s.vm.findClass RX5 = some m.cls := findClass_of_methodNamed B0.named
  have hK := hE.1.1
  have hA : ∀ q : Nat, s.heap.size ≤ q → mA hh s.heap.size q := mA.top
  have hS : va_S (mA hh s.heap.size) s.heap s.heap [] := va_S.rf
  have hi_X5 : ∀ w ∈ u_ws RX5 TX5 34, w ∈ wsX5_chooses := by decide +kernel
  have k117 : (Cond.fieldLink RX5 117 "TaskKernelModel" "tasks" "I").before args s = true := hts _ (by decide +kernel)
  have k100 : (Cond.fieldLink RX5 100 "TaskKernelModel" "cores" "I").before args s = true := hts _ (by decide +kernel)
  have k82 : (Cond.fieldLink RX5 82 "TaskKernelModel" "chosen" "[I").before args s = true := hts _ (by decide +kernel)
  have k20 : (Cond.fieldLink RX5 20 "TaskKernelModel" "cap" "I").before args s = true := hts _ (by decide +kernel)
  have k88 : (Cond.fieldLink RX5 88 "TaskKernelModel" "isIn" "[Z").before args s = true := hts _ (by decide +kernel)
  have hl := lv_entry ([.ref (B 100)]) (n := 3) (by first | exact Nat.le_of_ble_eq_true rfl | simp [lg_sl, rf_cat, ct_ref, ct_int, ct_null, ct_long])
  have hent := lg_entry_eq m ([.ref (B 100)]) 3
  rw [← hargs] at hent
  rw [hent]
  generalize (lg_sl ([.ref (B 100)]) ++ List.replicate (3 - (lg_sl ([.ref (B 100)])).length) Slot.unset).toArray = ls at hl ⊢
  replace hl : lv_has ls 3 [(0, .ref (B 100))] := hl
  have hwf := hM.wf
  obtain ⟨⟨y0, y1, y2, y3⟩, y4, y5, y6, y7⟩ := hwf
  have eu : kN (fuM μ) = kN μ := (fuM_U μ).N
  refine lv_aload_n hx hb dX5_chooses_0 rfl (lv_at hl 0 rfl) ?_
  refine m_callv (va_runV (As := []) (rest := []) ⟨hx, hb, hml, hown, hts⟩ (c_X5_findsUrgencies (l := l) (s.heap.size) hM ) (cwV 0 hts gX5_chooses_X5_findsUrgencies rfl rfl rfl (by decide +kernel) ⟨by decide, by decide⟩) (m_preV (r := (RX5, TX5, 34)) hE hV hS hA (hM.at 100 (by decide)) rfl) rfl rfl hl.1 rfl (lv_room (by first | exact Nat.le_of_ble_eq_true rfl | simp [rf_cat, ct_ref, ct_int, ct_null, ct_long])) dX5_chooses_1 ⟨by decide, by decide⟩) hV hS hA (fun h H locs hV hS hp _ => ?_)
  replace hM := hp; clear hp
  refine lv_iconst (v := 0) hx hb dX5_chooses_4 (by decide) ?_
  refine lv_istore_n (lv' := [(1, .int 0), (0, .ref (B 100))]) hx hb dX5_chooses_5 rfl hl (by decide) rfl (fun ls hl => ?_)
  have lp6 : ∀ (fu : Nat) (i : Nat), (i ≤ kN μ 24 0) → kN μ 24 0 - i < fu → ∀ (h : mH) (H : Heap) (locs : List Loc), DRep cs P h0 B (rdM i (fuM μ)) h → mV D h (mA hh s.heap.size) H → va_S (mA hh s.heap.size) s.heap H locs → ∀ (ls : Array Slot), lv_has ls 3 [(0, .ref (B 100)), (1, .int (nI i))] → W p l e ({ frames := 9, cells := 0, slots := 0, locals := 220 } : Room) s m args below meth c H locs 0 0 (MQ below (va_Qv ((fun (h1 : mH) => DRep cs P h0 B (csM μ) h1)) (mB D hh s.heap.size) (mA hh s.heap.size)) args s 0 0 (mA hh s.heap.size)) (F0 m 6 ls []) := by
    intro fu
    induction fu with
    | zero =>
      intro i hi hfu
      exact absurd hfu (Nat.not_lt_zero _)
    | succ fu ih6 =>
      intro i hi hfu h H locs hM hV hS ls hl
      have en : kN (rdM i (fuM μ)) 24 0 = kN μ 24 0 := by rw [rdM_N, (fuM_U μ).N]
      refine lv_iload_n hx hb dX5_chooses_6 rfl (lv_at hl 1 rfl) ?_
      refine lv_aload_n hx hb dX5_chooses_7 rfl (lv_at hl 0 rfl) ?_
      refine m_get (C := RX5) (T := TX5) (N := 34) hx hb hts hi_X5 hown hK hV 24 (v := .int (nI (kN (rdM i (fuM μ)) 24 0))) (by have z9 := g_m24 hM; exact z9) rfl (by decide) k117 (fun _ h9 => h9) dX5_chooses_8 ?_
      refine lv_icmp_ge (tgt := 31) hx hb dX5_chooses_11 (by decide) (fun c11 => ?_) (fun c11 => ?_)
      · replace c11 : kN (rdM i (fuM μ)) 24 0 ≤ i := (nI_leI (a := kN (rdM i (fuM μ)) 24 0) (b := i) (by omega) (by omega)).mp c11
        refine lv_iconst (v := 0) hx hb dX5_chooses_31 (by decide) ?_
        refine lv_istore_n (lv' := [(1, .int 0), (0, .ref (B 100))]) hx hb dX5_chooses_32 rfl hl (by decide) rfl (fun ls hl => ?_)
        refine lv_iconst (v := 0) hx hb dX5_chooses_33 (by decide) ?_
        refine lv_istore_n (lv' := [(2, .int 0), (1, .int 0), (0, .ref (B 100))]) hx hb dX5_chooses_34 rfl hl (by decide) rfl (fun ls hl => ?_)
        have lp35 : ∀ (fu : Nat) (k : Nat), (k ≤ kN μ 3 0) → kN μ 3 0 - k < fu → ∀ (h : mH) (H : Heap) (locs : List Loc), DRep cs P h0 B ((cmS (cm0 μ) k).2) h → mV D h (mA hh s.heap.size) H → va_S (mA hh s.heap.size) s.heap H locs → ∀ (ls : Array Slot), lv_has ls 3 [(0, .ref (B 100)), (1, .int ((cmS (cm0 μ) k).1)), (2, .int (nI k))] → W p l e ({ frames := 9, cells := 0, slots := 0, locals := 220 } : Room) s m args below meth c H locs 0 0 (MQ below (va_Qv ((fun (h1 : mH) => DRep cs P h0 B (csM μ) h1)) (mB D hh s.heap.size) (mA hh s.heap.size)) args s 0 0 (mA hh s.heap.size)) (F0 m 35 ls []) := by
          intro fu
          induction fu with
          | zero =>
            intro k hk hfu
            exact absurd hfu (Nat.not_lt_zero _)
          | succ fu ih35 =>
            intro k hk hfu h H locs hM hV hS ls hl
            have en : kN (cmS (cm0 μ) k).2 = kN μ := by rw [cmS_N, cm0_N]
            have en0 : kN (cmS (cm0 μ) k).2 3 0 = kN μ 3 0 := by rw [en]
            have en2 : kN (cmS (cm0 μ) k).2 24 0 = kN μ 24 0 := by rw [en]
            have hch : ∀ t, chM (cmS (cm0 μ) k).2 = some t → t < kN (cmS (cm0 μ) k).2 24 0 := fun t h => chM_lt hM.wf h
            refine lv_iload_n hx hb dX5_chooses_35 rfl (lv_at hl 2 rfl) ?_
            refine lv_aload_n hx hb dX5_chooses_36 rfl (lv_at hl 0 rfl) ?_
            refine m_get (C := RX5) (T := TX5) (N := 34) hx hb hts hi_X5 hown hK hV 3 (v := .int (nI (kN (cmS (cm0 μ) k).2 3 0))) (by have z9 := g_m3 hM; exact z9) rfl (by decide) k100 (fun _ h9 => h9) dX5_chooses_37 ?_
            refine lv_icmp_ge (tgt := 107) hx hb dX5_chooses_40 (by decide) (fun c40 => ?_) (fun c40 => ?_)
            · replace c40 : kN (cmS (cm0 μ) k).2 3 0 ≤ k := (nI_leI (a := kN (cmS (cm0 μ) k).2 3 0) (b := k) (by omega) (by omega)).mp c40
              exact m_vret hx hb hr hlocks hV hS ((by rw [show k = kN μ 3 0 by omega] at hM; exact hM)) dX5_chooses_107
            · replace c40 : ¬ kN (cmS (cm0 μ) k).2 3 0 ≤ k := fun q9 => c40 ((nI_leI (a := kN (cmS (cm0 μ) k).2 3 0) (b := k) (by omega) (by omega)).mpr q9)
              refine lv_aload_n hx hb dX5_chooses_43 rfl (lv_at hl 0 rfl) ?_
              refine m_get (C := RX5) (T := TX5) (N := 34) hx hb hts hi_X5 hown hK hV 30 (v := .ref (B 30)) (g_m30 hM) rfl (by decide) k82 (fun _ h9 => h9) dX5_chooses_44 ?_
              refine lv_iload_n hx hb dX5_chooses_47 rfl (lv_at hl 2 rfl) ?_
              refine lv_iload_n hx hb dX5_chooses_48 rfl (lv_at hl 1 rfl) ?_
              refine lv_aload_n hx hb dX5_chooses_49 rfl (lv_at hl 0 rfl) ?_
              refine lv_iload_n hx hb dX5_chooses_50 rfl (lv_at hl 2 rfl) ?_
              refine m_calli (va_runV (As := [.int (nI k)]) (rest := [.int ((cmS (cm0 μ) k).1), .int (nI k), .ref (B 30)]) ⟨hx, hb, hml, hown, hts⟩ (c_X5_paceOf (l := l) (H.size) hM k (by first | assumption | omega)) (cwV 1 hts gX5_chooses_X5_paceOf rfl rfl rfl (by decide +kernel) ⟨by decide, by decide⟩) (m_preV (r := (RX5, TX5, 34)) hE hV hS hA (hM.at 100 (by decide)) rfl) rfl rfl hl.1 rfl (lv_room (by first | exact Nat.le_of_ble_eq_true rfl | simp [rf_cat, ct_ref, ct_int, ct_null, ct_long])) dX5_chooses_51 ⟨by decide, by decide⟩) hV hS hA (fun r h1 H locs hV hS hp _ => ?_)
              obtain ⟨e1, e2⟩ := hp
              subst e2
              rw [e1] at hV; clear e1
              refine lv_iadd hx hb dX5_chooses_54 ?_
              refine lv_aload_n hx hb dX5_chooses_55 rfl (lv_at hl 0 rfl) ?_
              refine m_get (C := RX5) (T := TX5) (N := 34) hx hb hts hi_X5 hown hK hV 5 (v := .int (kI (cmS (cm0 μ) k).2 5 0)) (by have z9 := g_m5 hM; exact z9) rfl (by decide) k20 (fun _ h9 => h9) dX5_chooses_56 ?_
              refine lv_icmp_le (tgt := 66) hx hb dX5_chooses_59 (by decide) (fun c59 => ?_) (fun c59 => ?_)
              · refine lv_aload_n hx hb dX5_chooses_66 rfl (lv_at hl 0 rfl) ?_
                refine m_calli (va_runV (As := []) (rest := [.int (nI k), .ref (B 30)]) ⟨hx, hb, hml, hown, hts⟩ (c_X5_choose (l := l) (H.size) hM ) (cwV 0 hts gX5_chooses_X5_choose rfl rfl rfl (by decide +kernel) ⟨by decide, by decide⟩) (m_preV (r := (RX5, TX5, 34)) hE hV hS hA (hM.at 100 (by decide)) rfl) rfl rfl hl.1 rfl (lv_room (by first | exact Nat.le_of_ble_eq_true rfl | simp [rf_cat, ct_ref, ct_int, ct_null, ct_long])) dX5_chooses_67 ⟨by decide, by decide⟩) hV hS hA (fun r h1 H locs hV hS hp _ => ?_)
                obtain ⟨e1, e2⟩ := hp
                subst e2
                rw [e1] at hV; clear e1
                refine m_iast hx hb hK hV hS 0 (i := nI k) (x := oI (chM ((cmS (cm0 μ) k).2))) (q_m30 hM (by omega) (chM ((cmS (cm0 μ) k).2))) rfl (vp_in_nI (by omega) (by omega)) dX5_chooses_70 (fun h H locs hV hS hM => ?_)
                refine lv_aload_n hx hb dX5_chooses_71 rfl (lv_at hl 0 rfl) ?_
                refine m_get (C := RX5) (T := TX5) (N := 34) hx hb hts hi_X5 hown hK hV 30 (v := .ref (B 30)) (g_m30 hM) rfl (by decide) k82 (fun _ h9 => h9) dX5_chooses_72 ?_
                refine lv_iload_n hx hb dX5_chooses_75 rfl (lv_at hl 2 rfl) ?_
                refine m_iald hx hb hK hV 0 (i := nI k) (x := oI (chM ((cmS (cm0 μ) k).2))) (a_m30 hM) rfl (vp_in_nI (by omega) (by omega)) (by rw [nI_clamp (by omega)] <;> first | rfl | (show oI (va_up _ _ _ _) = _; rw [vu_s] <;> rfl) | (show va_up _ _ _ _ = _; rw [vu_s] <;> rfl)) dX5_chooses_76 ?_
                refine lv_iconst (v := (-1)) hx hb dX5_chooses_77 (by decide) ?_
                refine lv_icmp_eq (tgt := 101) hx hb dX5_chooses_78 (by decide) (fun c78 => ?_) (fun c78 => ?_)
                · replace c78 : (chM ((cmS (cm0 μ) k).2)) = none := (oI_m1 (fun k9 e9 => by have := hch k9 e9; omega)).mp c78
                  refine lv_iinc (v := nI (k + 1)) (lv' := [(2, .int (nI (k + 1))), (0, .ref (B 100)), (1, .int ((cmS (cm0 μ) k).1))]) hx hb dX5_chooses_101 hl (k := 2) rfl (show nI k + Int32.ofInt 1 = _ from nI_add k 1) (by decide) rfl (fun ls hl => ?_)
                  refine lv_goto (tgt := 35) hx hb dX5_chooses_104 (by decide) ?_
                  have w9 : cmS (cm0 μ) (k + 1) = cm1 (cmS (cm0 μ) k) k := rfl
                  have q1 : (sO (cmS (cm0 μ) k).2 30 (va_up (kO (cmS (cm0 μ) k).2 30) k (chM ((cmS (cm0 μ) k).2)))) = (cmS (cm0 μ) (k + 1)).2 := (by rw [w9]; unfold cm1; rw [if_pos c59, c78] <;> rfl)
                  rw [q1] at hM
                  have q2 : ((cmS (cm0 μ) k).1) = ((cmS (cm0 μ) (k + 1)).1) := (by rw [w9]; unfold cm1; rw [if_pos c59, c78] <;> rfl)
                  replace hl : lv_has ls 3 [(2, .int (nI (k + 1))), (0, .ref (B 100)), (1, .int ((cmS (cm0 μ) (k + 1)).1))] := (congrArg (lv_has ls 3) (m_lc rfl (m_lc rfl (m_lc (congrArg Value.int q2) rfl)))).mp hl
                  exact ih35 (k + 1) (by omega) (by omega) _ _ _ hM hV hS ls (lv_sub hl [1, 2, 0] rfl)
                · obtain ⟨k78, c78⟩ : ∃ z, (chM ((cmS (cm0 μ) k).2)) = some z := Option.ne_none_iff_exists'.mp (fun q9 => c78 ((oI_m1 (fun k9 e9 => by have := hch k9 e9; omega)).mpr q9))
                  have bk78 := hch k78 c78
                  refine lv_iload_n hx hb dX5_chooses_81 rfl (lv_at hl 1 rfl) ?_
                  refine lv_aload_n hx hb dX5_chooses_82 rfl (lv_at hl 0 rfl) ?_
                  refine lv_iload_n hx hb dX5_chooses_83 rfl (lv_at hl 2 rfl) ?_
                  refine m_calli (va_runV (As := [.int (nI k)]) (rest := [.int ((cmS (cm0 μ) k).1)]) ⟨hx, hb, hml, hown, hts⟩ (c_X5_paceOf (l := l) (H.size) hM k (by first | assumption | omega)) (cwV 1 hts gX5_chooses_X5_paceOf rfl rfl rfl (by decide +kernel) ⟨by decide, by decide⟩) (m_preV (r := (RX5, TX5, 34)) hE hV hS hA (hM.at 100 (by decide)) rfl) rfl rfl hl.1 rfl (lv_room (by first | exact Nat.le_of_ble_eq_true rfl | simp [rf_cat, ct_ref, ct_int, ct_null, ct_long])) dX5_chooses_84 ⟨by decide, by decide⟩) hV hS hA (fun r h1 H locs hV hS hp _ => ?_)
                  obtain ⟨e1, e2⟩ := hp
                  subst e2
                  rw [e1] at hV; clear e1
                  refine lv_iadd hx hb dX5_chooses_87 ?_
                  refine lv_istore_n (lv' := [(1, .int (((cmS (cm0 μ) k).1) + (paM (sO (cmS (cm0 μ) k).2 30 (va_up (kO (cmS (cm0 μ) k).2 30) k (chM ((cmS (cm0 μ) k).2)))) k))), (0, .ref (B 100)), (2, .int (nI k))]) hx hb dX5_chooses_88 rfl hl (by decide) rfl (fun ls hl => ?_)
                  refine lv_aload_n hx hb dX5_chooses_89 rfl (lv_at hl 1 rfl) ?_
                  refine m_get (C := RX5) (T := TX5) (N := 34) hx hb hts hi_X5 hown hK hV 32 (v := .ref (B 32)) (g_m32 hM) rfl (by decide) k88 (fun _ h9 => h9) dX5_chooses_90 ?_
                  refine lv_aload_n hx hb dX5_chooses_93 rfl (lv_at hl 1 rfl) ?_
                  refine m_get (C := RX5) (T := TX5) (N := 34) hx hb hts hi_X5 hown hK hV 30 (v := .ref (B 30)) (g_m30 hM) rfl (by decide) k82 (fun _ h9 => h9) dX5_chooses_94 ?_
                  refine lv_iload_n hx hb dX5_chooses_97 rfl (lv_at hl 2 rfl) ?_
                  refine m_iald hx hb hK hV 0 (i := nI k) (x := nI k78) (a_m30 hM) rfl (vp_in_nI (by omega) (by omega)) (by rw [nI_clamp (by omega)] <;> first | (show oI ((chM ((cmS (cm0 μ) k).2))) = _; rw [c78]; rfl) | (show oI (va_up _ _ _ _) = _; rw [vu_s, c78]; rfl)) dX5_chooses_98 ?_
                  refine lv_iconst (v := 0) hx hb dX5_chooses_99 (by decide) ?_
                  refine m_zast hx hb hK hV hS 2 (i := nI k78) (x := bI false) (q_m32 hM (by omega) false) rfl (vp_in_nI (by omega) (by omega)) (bI_nar _) dX5_chooses_100 (fun h H locs hV hS hM => ?_)
                  refine lv_iinc (v := nI (k + 1)) (lv' := [(2, .int (nI (k + 1))), (1, .int (((cmS (cm0 μ) k).1) + (paM (sO (cmS (cm0 μ) k).2 30 (va_up (kO (cmS (cm0 μ) k).2 30) k (chM ((cmS (cm0 μ) k).2)))) k))), (0, .ref (B 100))]) hx hb dX5_chooses_101 hl (k := 2) rfl (show nI k + Int32.ofInt 1 = _ from nI_add k 1) (by decide) rfl (fun ls hl => ?_)
                  refine lv_goto (tgt := 35) hx hb dX5_chooses_104 (by decide) ?_
                  have w9 : cmS (cm0 μ) (k + 1) = cm1 (cmS (cm0 μ) k) k := rfl
                  have q3 : (sB (sO (cmS (cm0 μ) k).2 30 (va_up (kO (cmS (cm0 μ) k).2 30) k (chM ((cmS (cm0 μ) k).2)))) 32 (va_up (kB (sO (cmS (cm0 μ) k).2 30 (va_up (kO (cmS (cm0 μ) k).2 30) k (chM ((cmS (cm0 μ) k).2)))) 32) k78 false)) = (cmS (cm0 μ) (k + 1)).2 := (by rw [w9]; unfold cm1; rw [if_pos c59, c78] <;> rfl)
                  rw [q3] at hM
                  have q4 : (((cmS (cm0 μ) k).1) + (paM (sO (cmS (cm0 μ) k).2 30 (va_up (kO (cmS (cm0 μ) k).2 30) k (chM ((cmS (cm0 μ) k).2)))) k)) = ((cmS (cm0 μ) (k + 1)).1) := (by rw [w9]; unfold cm1; rw [if_pos c59, c78] <;> rfl)
                  replace hl : lv_has ls 3 [(2, .int (nI (k + 1))), (1, .int ((cmS (cm0 μ) (k + 1)).1)), (0, .ref (B 100))] := (congrArg (lv_has ls 3) (m_lc rfl (m_lc (congrArg Value.int q4) (m_lc rfl rfl)))).mp hl
                  exact ih35 (k + 1) (by omega) (by omega) _ _ _ hM hV hS ls (lv_sub hl [2, 1, 0] rfl)
              · refine lv_iconst (v := (-1)) hx hb dX5_chooses_62 (by decide) ?_
                refine lv_goto (tgt := 70) hx hb dX5_chooses_63 (by decide) ?_
                refine m_iast hx hb hK hV hS 0 (i := nI k) (x := oI none) (q_m30 hM (by omega) none) rfl (vp_in_nI (by omega) (by omega)) dX5_chooses_70 (fun h H locs hV hS hM => ?_)
                refine lv_aload_n hx hb dX5_chooses_71 rfl (lv_at hl 0 rfl) ?_
                refine m_get (C := RX5) (T := TX5) (N := 34) hx hb hts hi_X5 hown hK hV 30 (v := .ref (B 30)) (g_m30 hM) rfl (by decide) k82 (fun _ h9 => h9) dX5_chooses_72 ?_
                refine lv_iload_n hx hb dX5_chooses_75 rfl (lv_at hl 2 rfl) ?_
                refine m_iald hx hb hK hV 0 (i := nI k) (x := (-1)) (a_m30 hM) rfl (vp_in_nI (by omega) (by omega)) (by rw [nI_clamp (by omega)] <;> first | rfl | (show oI (va_up _ _ _ _) = _; rw [vu_s] <;> rfl) | (show va_up _ _ _ _ = _; rw [vu_s] <;> rfl)) dX5_chooses_76 ?_
                refine lv_iconst (v := (-1)) hx hb dX5_chooses_77 (by decide) ?_
                refine lv_icmp_eq (tgt := 101) hx hb dX5_chooses_78 (by decide) (fun c78 => ?_) (fun c78 => (absurd (by decide) c78))
                refine lv_iinc (v := nI (k + 1)) (lv' := [(2, .int (nI (k + 1))), (0, .ref (B 100)), (1, .int ((cmS (cm0 μ) k).1))]) hx hb dX5_chooses_101 hl (k := 2) rfl (show nI k + Int32.ofInt 1 = _ from nI_add k 1) (by decide) rfl (fun ls hl => ?_)
                refine lv_goto (tgt := 35) hx hb dX5_chooses_104 (by decide) ?_
                have w9 : cmS (cm0 μ) (k + 1) = cm1 (cmS (cm0 μ) k) k := rfl
                have q5 : (sO (cmS (cm0 μ) k).2 30 (va_up (kO (cmS (cm0 μ) k).2 30) k none)) = (cmS (cm0 μ) (k + 1)).2 := (by rw [w9]; unfold cm1; rw [if_neg c59] <;> rfl)
                rw [q5] at hM
                have q6 : ((cmS (cm0 μ) k).1) = ((cmS (cm0 μ) (k + 1)).1) := (by rw [w9]; unfold cm1; rw [if_neg c59] <;> rfl)
                replace hl : lv_has ls 3 [(2, .int (nI (k + 1))), (0, .ref (B 100)), (1, .int ((cmS (cm0 μ) (k + 1)).1))] := (congrArg (lv_has ls 3) (m_lc rfl (m_lc rfl (m_lc (congrArg Value.int q6) rfl)))).mp hl
                exact ih35 (k + 1) (by omega) (by omega) _ _ _ hM hV hS ls (lv_sub hl [1, 2, 0] rfl)
        have q7 : (rdM i (fuM μ)) = (cmS (cm0 μ) 0).2 := (by rw [show i = kN μ 24 0 by omega]; rfl)
        rw [q7] at hM
        have q8 : 0 = ((cmS (cm0 μ) 0).1) := rfl
        have q9 : 0 = nI 0 := rfl
        replace hl : lv_has ls 3 [(2, .int (nI 0)), (1, .int ((cmS (cm0 μ) 0).1)), (0, .ref (B 100))] := (congrArg (lv_has ls 3) (m_lc (congrArg Value.int q9) (m_lc (congrArg Value.int q8) (m_lc rfl rfl)))).mp hl
        exact lp35 ((kN μ 3 0 - 0) + 1) 0 (Nat.zero_le _) (Nat.lt_succ_self _) _ _ _ hM hV hS ls (lv_sub hl [2, 1, 0] rfl)
      · replace c11 : ¬ kN (rdM i (fuM μ)) 24 0 ≤ i := fun q9 => c11 ((nI_leI (a := kN (rdM i (fuM μ)) 24 0) (b := i) (by omega) (by omega)).mpr q9)
        refine lv_aload_n hx hb dX5_chooses_14 rfl (lv_at hl 0 rfl) ?_
        refine m_get (C := RX5) (T := TX5) (N := 34) hx hb hts hi_X5 hown hK hV 32 (v := .ref (B 32)) (g_m32 hM) rfl (by decide) k88 (fun _ h9 => h9) dX5_chooses_15 ?_
        refine lv_iload_n hx hb dX5_chooses_18 rfl (lv_at hl 1 rfl) ?_
        refine lv_aload_n hx hb dX5_chooses_19 rfl (lv_at hl 0 rfl) ?_
        refine lv_iload_n hx hb dX5_chooses_20 rfl (lv_at hl 1 rfl) ?_
        refine m_calli (va_runV (As := [.int (nI i)]) (rest := [.int (nI i), .ref (B 32)]) ⟨hx, hb, hml, hown, hts⟩ (c_X5_isReady (l := l) (H.size) hM i (by first | assumption | omega)) (cwV 1 hts gX5_chooses_X5_isReady rfl rfl rfl (by decide +kernel) ⟨by decide, by decide⟩) (m_preV (r := (RX5, TX5, 34)) hE hV hS hA (hM.at 100 (by decide)) rfl) rfl rfl hl.1 rfl (lv_room (by first | exact Nat.le_of_ble_eq_true rfl | simp [rf_cat, ct_ref, ct_int, ct_null, ct_long])) dX5_chooses_21 ⟨by decide, by decide⟩) hV hS hA (fun r h1 H locs hV hS hp _ => ?_)
        obtain ⟨e1, e2⟩ := hp
        subst e2
        rw [e1] at hV; clear e1
        refine m_zast hx hb hK hV hS 2 (i := nI i) (x := bI (readyM (rdM i (fuM μ)) i)) (q_m32 hM (by omega) (readyM (rdM i (fuM μ)) i)) rfl (vp_in_nI (by omega) (by omega)) (bI_nar _) dX5_chooses_24 (fun h H locs hV hS hM => ?_)
        refine lv_iinc (v := nI (i + 1)) (lv' := [(1, .int (nI (i + 1))), (0, .ref (B 100))]) hx hb dX5_chooses_25 hl (k := 1) rfl (show nI i + Int32.ofInt 1 = _ from nI_add i 1) (by decide) rfl (fun ls hl => ?_)
        refine lv_goto (tgt := 6) hx hb dX5_chooses_28 (by decide) ?_
        have q10 : (sB (rdM i (fuM μ)) 32 (va_up (kB (rdM i (fuM μ)) 32) i (readyM (rdM i (fuM μ)) i))) = (rdM (i + 1) (fuM μ)) := rfl
        rw [q10] at hM
        exact ih6 (i + 1) (by omega) (by omega) _ _ _ hM hV hS ls (lv_sub hl [1, 0] rfl)
  have q11 : (fuM μ) = (rdM 0 (fuM μ)) := rfl
  rw [q11] at hM
  have q12 : 0 = nI 0 := rfl
  replace hl : lv_has ls 3 [(1, .int (nI 0)), (0, .ref (B 100))] := (congrArg (lv_has ls 3) (m_lc (congrArg Value.int q12) (m_lc rfl rfl))).mp hl
  exact lp6 ((kN μ 24 0 - 0) + 1) 0 (Nat.zero_le _) (Nat.lt_succ_self _) _ _ _ hM hV hS ls (lv_sub hl [1, 0] rfl)
set_option maxHeartbeats 4000000 in
set_option maxRecDepth 100000 in
theorem c_X5_choice {l : Launch} {D : va_G} {cs : mC} {df : Nat} {P : Nat → Prop} {h0 : mH} {B : Nat → Nat} {μ : KS} {hh : mH} (sz : Nat) (hM : DRep cs P h0 B μ hh) (x0 : Int32) : Met l yX5_choice wsX5_choice ({ frames := 10, cells := 0, slots := 0, locals := 242 }) (mPre [.ref (B 100), .int x0] D cs df hh sz) (va_Qi ((fun (r : Int32) (h1 : mH) => ∃ μ1 : KS, DRep cs P h0 B μ1 h1 ∧ om_choice μ x0 r μ1)) (mB D hh sz) (mA hh sz)) 0 0 (mA hh sz) := by
  refine Met.ofW (cc := cX5_choice) (maxL := 2) (ret := (some .int)) (by decide) rfl ?_
  intro p e s m args below meth c s₁ B0 hml hv
  obtain ⟨hargs, hsz, hV, hE⟩ := hv
  subst hsz
  have hx := B0.exec
  have hb := B0.bytes
  have hr := B0.returns
  have hlocks := B0.notSynchronized
  have hts := atoms_spec (ws := wsX5_choice) B0.pre
  have hown : s.vm.findClass RX5 = some m.cls := findClass_of_methodNamed B0.named
  have hK := hE.1.1
  have hA : ∀ q : Nat, s.heap.size ≤ q → mA hh s.heap.size q := mA.top
  have hS : va_S (mA hh s.heap.size) s.heap s.heap [] := va_S.rf
  have hi_X5 : ∀ w ∈ u_ws RX5 TX5 34, w ∈ wsX5_choice := by decide +kernel
  have k82 : (Cond.fieldLink RX5 82 "TaskKernelModel" "chosen" "[I").before args s = true := hts _ (by decide +kernel)
  have hl := lv_entry ([.ref (B 100), .int x0]) (n := 2) (by first | exact Nat.le_of_ble_eq_true rfl | simp [lg_sl, rf_cat, ct_ref, ct_int, ct_null, ct_long])
  have hent := lg_entry_eq m ([.ref (B 100), .int x0]) 2
  rw [← hargs] at hent
  rw [hent]
  generalize (lg_sl ([.ref (B 100), .int x0]) ++ List.replicate (2 - (lg_sl ([.ref (B 100), .int x0])).length) Slot.unset).toArray = ls at hl ⊢
  replace hl : lv_has ls 2 [(0, .ref (B 100)), (1, .int x0)] := hl
  have hwf := hM.wf
  obtain ⟨⟨y0, y1, y2, y3⟩, y4, y5, y6, y7⟩ := hwf
  refine lv_aload_n hx hb dX5_choice_0 rfl (lv_at hl 0 rfl) ?_
  refine lv_iload_n hx hb dX5_choice_1 rfl (lv_at hl 1 rfl) ?_
  refine m_calli (va_runV (As := [.int x0]) (rest := []) ⟨hx, hb, hml, hown, hts⟩ (c_X5_isCore (l := l) (s.heap.size) hM x0) (cwV 1 hts gX5_choice_X5_isCore rfl rfl rfl (by decide +kernel) ⟨by decide, by decide⟩) (m_preV (r := (RX5, TX5, 34)) hE hV hS hA (hM.at 100 (by decide)) rfl) rfl rfl hl.1 rfl (lv_room (by first | exact Nat.le_of_ble_eq_true rfl | simp [rf_cat, ct_ref, ct_int, ct_null, ct_long])) dX5_choice_2 ⟨by decide, by decide⟩) hV hS hA (fun r h H locs hV hS hp _ => ?_)
  obtain ⟨hM, e2⟩ := hp
  subst e2
  refine lv_if_ne (tgt := 10) hx hb dX5_choice_5 (by decide) (fun c5 => ?_) (fun c5 => ?_)
  · replace c5 : ((inR x0 (kN μ 3 0)).isSome) = true := bI_1.mp c5
    rw [if_pos c5] at hM
    obtain ⟨t, ht⟩ := Option.isSome_iff_exists.mp c5
    obtain ⟨rfl, bt⟩ := inR_some ht
    refine lv_aload_n hx hb dX5_choice_10 rfl (lv_at hl 0 rfl) ?_
    refine m_callv (va_runV (As := []) (rest := []) ⟨hx, hb, hml, hown, hts⟩ (c_X5_chooses (l := l) (H.size) hM ) (cwV 0 hts gX5_choice_X5_chooses rfl rfl rfl (by decide +kernel) ⟨by decide, by decide⟩) (m_preV (r := (RX5, TX5, 34)) hE hV hS hA (hM.at 100 (by decide)) rfl) rfl rfl hl.1 rfl (lv_room (by first | exact Nat.le_of_ble_eq_true rfl | simp [rf_cat, ct_ref, ct_int, ct_null, ct_long])) dX5_choice_11 ⟨by decide, by decide⟩) hV hS hA (fun h H locs hV hS hp _ => ?_)
    replace hM := hp; clear hp
    refine lv_aload_n hx hb dX5_choice_14 rfl (lv_at hl 0 rfl) ?_
    refine m_get (C := RX5) (T := TX5) (N := 34) hx hb hts hi_X5 hown hK hV 30 (v := .ref (B 30)) (g_m30 hM) rfl (by decide) k82 (fun _ h9 => h9) dX5_choice_15 ?_
    refine lv_iload_n hx hb dX5_choice_18 rfl (lv_at hl 1 rfl) ?_
    refine m_iald hx hb hK hV 0 (i := nI t) (x := oI (kO (csM (thS μ 0)) 30 t)) (a_m30 hM) rfl (vp_in_nI (by omega) (by omega)) (by rw [nI_clamp (by omega)] <;> first | rfl | (show oI (va_up _ _ _ _) = _; rw [vu_s] <;> rfl) | (show va_up _ _ _ _ = _; rw [vu_s] <;> rfl)) dX5_choice_19 ?_
    exact m_iret (v := oI (kO (csM (thS μ 0)) 30 t)) hx hb hr hlocks hV hS (⟨_, hM, Or.inr ⟨t, ht, rfl, rfl⟩⟩) dX5_choice_20
  · replace c5 : ((inR x0 (kN μ 3 0)).isSome) = false := bI_0.mp c5
    rw [if_neg (by rw [c5]; decide)] at hM
    refine lv_iconst (v := (-1)) hx hb dX5_choice_8 (by decide) ?_
    exact m_iret (v := (-1)) hx hb hr hlocks hV hS (⟨_, hM, Or.inl ⟨Option.not_isSome_iff_eq_none.mp (by rw [c5]; decide), rfl⟩⟩) dX5_choice_9
set_option maxHeartbeats 4000000 in
set_option maxRecDepth 100000 in
theorem c_X5_choiceByComparing {l : Launch} {D : va_G} {cs : mC} {df : Nat} {P : Nat → Prop} {h0 : mH} {B : Nat → Nat} {μ : KS} {hh : mH} (sz : Nat) (hM : DRep cs P h0 B μ hh) (x0 : Int32) : Met l yX5_choiceByComparing wsX5_choiceByComparing ({ frames := 11, cells := 0, slots := 0, locals := 263 }) (mPre [.ref (B 100), .int x0] D cs df hh sz) (va_Qi ((fun (r : Int32) (h1 : mH) => ∃ μ1 : KS, DRep cs P h0 B μ1 h1 ∧ om_choiceByComparing μ x0 r μ1)) (mB D hh sz) (mA hh sz)) 0 0 (mA hh sz) := by
  refine Met.ofW (cc := cX5_choiceByComparing) (maxL := 2) (ret := (some .int)) (by decide) rfl ?_
  intro p e s m args below meth c s₁ B0 hml hv
  obtain ⟨hargs, hsz, hV, hE⟩ := hv
  subst hsz
  have hx := B0.exec
  have hb := B0.bytes
  have hr := B0.returns
  have hlocks := B0.notSynchronized
  have hts := atoms_spec (ws := wsX5_choiceByComparing) B0.pre
  have hown : s.vm.findClass RX5 = some m.cls := findClass_of_methodNamed B0.named
  have hK := hE.1.1
  have hA : ∀ q : Nat, s.heap.size ≤ q → mA hh s.heap.size q := mA.top
  have hS : va_S (mA hh s.heap.size) s.heap s.heap [] := va_S.rf
  have hl := lv_entry ([.ref (B 100), .int x0]) (n := 2) (by first | exact Nat.le_of_ble_eq_true rfl | simp [lg_sl, rf_cat, ct_ref, ct_int, ct_null, ct_long])
  have hent := lg_entry_eq m ([.ref (B 100), .int x0]) 2
  rw [← hargs] at hent
  rw [hent]
  generalize (lg_sl ([.ref (B 100), .int x0]) ++ List.replicate (2 - (lg_sl ([.ref (B 100), .int x0])).length) Slot.unset).toArray = ls at hl ⊢
  replace hl : lv_has ls 2 [(0, .ref (B 100)), (1, .int x0)] := hl
  have hwf := hM.wf
  obtain ⟨⟨y0, y1, y2, y3⟩, y4, y5, y6, y7⟩ := hwf
  refine lv_aload_n hx hb dX5_choiceByComparing_0 rfl (lv_at hl 0 rfl) ?_
  refine lv_iload_n hx hb dX5_choiceByComparing_1 rfl (lv_at hl 1 rfl) ?_
  refine m_calli (va_runV (As := [.int x0]) (rest := []) ⟨hx, hb, hml, hown, hts⟩ (c_X5_choice (l := l) (s.heap.size) hM x0) (cwV 1 hts gX5_choiceByComparing_X5_choice rfl rfl rfl (by decide +kernel) ⟨by decide, by decide⟩) (m_preV (r := (RX5, TX5, 34)) hE hV hS hA (hM.at 100 (by decide)) rfl) rfl rfl hl.1 rfl (lv_room (by first | exact Nat.le_of_ble_eq_true rfl | simp [rf_cat, ct_ref, ct_int, ct_null, ct_long])) dX5_choiceByComparing_2 ⟨by decide, by decide⟩) hV hS hA (fun r h H locs hV hS hp _ => ?_)
  exact m_iret (v := r) hx hb hr hlocks hV hS (hp) dX5_choiceByComparing_5
set_option maxHeartbeats 4000000 in
set_option maxRecDepth 100000 in
theorem c_X5_works {l : Launch} {D : va_G} {cs : mC} {df : Nat} {P : Nat → Prop} {h0 : mH} {B : Nat → Nat} {μ : KS} {hh : mH} (sz : Nat) (hM : DRep cs P h0 B μ hh) (c9 : Nat) (t9 : Nat) (hc9 : c9 < 3) (ht9 : t9 < kN μ 24 0) (hdI : dI μ) : Met l yX5_works wsX5_works ({ frames := 1, cells := 0, slots := 0, locals := 21 }) (mPre [.ref (B 100), .int (nI c9), .int (nI t9)] D cs df hh sz) (va_Qi ((fun (r : Int32) (h1 : mH) => DRep cs P h0 B (wkM μ c9 t9) h1 ∧ r = (wuM μ c9 t9))) (mB D hh sz) (mA hh sz)) 0 0 (mA hh sz) := by
  refine Met.ofW (cc := cX5_works) (maxL := 6) (ret := (some .int)) (by decide) rfl ?_
  intro p e s m args below meth c s₁ B0 hml hv
  obtain ⟨hargs, hsz, hV, hE⟩ := hv
  subst hsz
  have hx := B0.exec
  have hb := B0.bytes
  have hr := B0.returns
  have hlocks := B0.notSynchronized
  have hts := atoms_spec (ws := wsX5_works) B0.pre
  have hown : s.vm.findClass RX5 = some m.cls := findClass_of_methodNamed B0.named
  have hK := hE.1.1
  have hA : ∀ q : Nat, s.heap.size ≤ q → mA hh s.heap.size q := mA.top
  have hS : va_S (mA hh s.heap.size) s.heap s.heap [] := va_S.rf
  have hi_X5 : ∀ w ∈ u_ws RX5 TX5 34, w ∈ wsX5_works := by decide +kernel
  have k66 : (Cond.fieldLink RX5 66 "TaskKernelModel" "lastCore" "[I").before args s = true := hts _ (by decide +kernel)
  have k45 : (Cond.fieldLink RX5 45 "TaskKernelModel" "lefts" "[I").before args s = true := hts _ (by decide +kernel)
  have k205 : (Cond.fieldLink RX5 205 "TaskKernelModel" "moved" "I").before args s = true := hts _ (by decide +kernel)
  have k63 : (Cond.fieldLink RX5 63 "TaskKernelModel" "done" "[I").before args s = true := hts _ (by decide +kernel)
  have k42 : (Cond.fieldLink RX5 42 "TaskKernelModel" "times" "[J").before args s = true := hts _ (by decide +kernel)
  have k39 : (Cond.fieldLink RX5 39 "TaskKernelModel" "weights" "[I").before args s = true := hts _ (by decide +kernel)
  have k36 : (Cond.fieldLink RX5 36 "TaskKernelModel" "groupOf" "[I").before args s = true := hts _ (by decide +kernel)
  have k29 : (Cond.fieldLink RX5 29 "TaskKernelModel" "groupTimes" "[J").before args s = true := hts _ (by decide +kernel)
  have k26 : (Cond.fieldLink RX5 26 "TaskKernelModel" "groupWeights" "[I").before args s = true := hts _ (by decide +kernel)
  have k23 : (Cond.fieldLink RX5 23 "TaskKernelModel" "parents" "[I").before args s = true := hts _ (by decide +kernel)
  have hl := lv_entry ([.ref (B 100), .int (nI c9), .int (nI t9)]) (n := 6) (by first | exact Nat.le_of_ble_eq_true rfl | simp [lg_sl, rf_cat, ct_ref, ct_int, ct_null, ct_long])
  have hent := lg_entry_eq m ([.ref (B 100), .int (nI c9), .int (nI t9)]) 6
  rw [← hargs] at hent
  rw [hent]
  generalize (lg_sl ([.ref (B 100), .int (nI c9), .int (nI t9)]) ++ List.replicate (6 - (lg_sl ([.ref (B 100), .int (nI c9), .int (nI t9)])).length) Slot.unset).toArray = ls at hl ⊢
  replace hl : lv_has ls 6 [(0, .ref (B 100)), (1, .int (nI c9)), (2, .int (nI t9))] := hl
  have hwf := hM.wf
  obtain ⟨⟨y0, y1, y2, y3⟩, y4, y5, y6, y7⟩ := hwf
  refine lv_aload_n hx hb dX5_works_0 rfl (lv_at hl 0 rfl) ?_
  refine m_get (C := RX5) (T := TX5) (N := 34) hx hb hts hi_X5 hown hK hV 20 (v := .ref (B 20)) (g_m20 hM) rfl (by decide) k66 (fun _ h9 => h9) dX5_works_1 ?_
  refine lv_iload_n hx hb dX5_works_4 rfl (lv_at hl 2 rfl) ?_
  refine m_iald hx hb hK hV 0 (i := nI t9) (x := oI (kO μ 20 t9)) (a_m20 hM) rfl (vp_in_nI (by omega) (by omega)) (by rw [nI_clamp (by omega)] <;> first | rfl | (show oI (va_up _ _ _ _) = _; rw [vu_s] <;> rfl) | (show va_up _ _ _ _ = _; rw [vu_s] <;> rfl)) dX5_works_5 ?_
  refine lv_iconst (v := (-1)) hx hb dX5_works_6 (by decide) ?_
  refine lv_icmp_eq (tgt := 24) hx hb dX5_works_7 (by decide) (fun c7 => ?_) (fun c7 => ?_)
  · replace c7 : kO μ 20 t9 = none := (oI_m1 (fun k9 e9 => by have := hdI.2.2 t9 k9 ht9 e9; omega)).mp c7
    refine lv_iconst (v := 0) hx hb dX5_works_24 (by decide) ?_
    have wm : mvM μ c9 t9 = false := by unfold mvM; rw [c7]
    refine lv_istore_n (lv' := [(3, .int 0), (0, .ref (B 100)), (1, .int (nI c9)), (2, .int (nI t9))]) hx hb dX5_works_25 rfl hl (by decide) rfl (fun ls hl => ?_)
    refine lv_aload_n hx hb dX5_works_26 rfl (lv_at hl 1 rfl) ?_
    refine lv_iload_n hx hb dX5_works_27 rfl (lv_at hl 2 rfl) ?_
    refine m_calli (va_runV (As := [.int (nI c9)]) (rest := []) ⟨hx, hb, hml, hown, hts⟩ (c_X5_paceOf (l := l) (s.heap.size) hM c9 (by first | assumption | omega)) (cwV 1 hts gX5_works_X5_paceOf rfl rfl rfl (by decide +kernel) ⟨by decide, by decide⟩) (m_preV (r := (RX5, TX5, 34)) hE hV hS hA (hM.at 100 (by decide)) rfl) rfl rfl hl.1 rfl (lv_room (by first | exact Nat.le_of_ble_eq_true rfl | simp [rf_cat, ct_ref, ct_int, ct_null, ct_long])) dX5_works_28 ⟨by decide, by decide⟩) hV hS hA (fun r h1 H locs hV hS hp _ => ?_)
    obtain ⟨e1, e2⟩ := hp
    subst e2
    rw [e1] at hV; clear e1
    refine lv_iload_n hx hb dX5_works_31 rfl (lv_at hl 0 rfl) ?_
    refine lv_if_eq (tgt := 39) hx hb dX5_works_32 (by decide) (fun c32 => ?_) (fun c32 => (absurd (by decide) c32))
    refine lv_iconst (v := 0) hx hb dX5_works_39 (by decide) ?_
    refine lv_isub hx hb dX5_works_40 ?_
    refine lv_istore (lv' := [(4, .int ((paM μ c9) - 0)), (3, .int 0), (0, .ref (B 100)), (1, .int (nI c9)), (2, .int (nI t9))]) hx hb dX5_works_41 hl (by decide) rfl (fun ls hl => ?_)
    have wv : wvM μ c9 t9 = ((paM μ c9) - 0) := by unfold wvM; rw [wm] <;> rfl
    replace hl : lv_has ls 6 [(4, .int (wvM μ c9 t9)), (3, .int 0), (0, .ref (B 100)), (1, .int (nI c9)), (2, .int (nI t9))] := by have h9 := hl; rw [← wv] at h9; exact h9
    refine lv_iload hx hb dX5_works_43 (lv_at hl 0 rfl) ?_
    refine lv_aload_n hx hb dX5_works_45 rfl (lv_at hl 2 rfl) ?_
    refine m_get (C := RX5) (T := TX5) (N := 34) hx hb hts hi_X5 hown hK hV 13 (v := .ref (B 13)) (g_m13 hM) rfl (by decide) k45 (fun _ h9 => h9) dX5_works_46 ?_
    refine lv_iload_n hx hb dX5_works_49 rfl (lv_at hl 4 rfl) ?_
    refine m_iald hx hb hK hV 0 (i := nI t9) (x := (kI μ 13 t9)) (a_m13 hM) rfl (vp_in_nI (by omega) (by omega)) (by rw [nI_clamp (by omega)] <;> first | rfl | (show oI (va_up _ _ _ _) = _; rw [vu_s] <;> rfl) | (show va_up _ _ _ _ = _; rw [vu_s] <;> rfl)) dX5_works_50 ?_
    refine lv_icmp_ge (tgt := 59) hx hb dX5_works_51 (by decide) (fun c51 => ?_) (fun c51 => ?_)
    · refine lv_aload_n hx hb dX5_works_59 rfl (lv_at hl 2 rfl) ?_
      refine m_get (C := RX5) (T := TX5) (N := 34) hx hb hts hi_X5 hown hK hV 13 (v := .ref (B 13)) (g_m13 hM) rfl (by decide) k45 (fun _ h9 => h9) dX5_works_60 ?_
      refine lv_iload_n hx hb dX5_works_63 rfl (lv_at hl 4 rfl) ?_
      refine m_iald hx hb hK hV 0 (i := nI t9) (x := (kI μ 13 t9)) (a_m13 hM) rfl (vp_in_nI (by omega) (by omega)) (by rw [nI_clamp (by omega)] <;> first | rfl | (show oI (va_up _ _ _ _) = _; rw [vu_s] <;> rfl) | (show va_up _ _ _ _ = _; rw [vu_s] <;> rfl)) dX5_works_64 ?_
      refine lv_istore (lv' := [(4, .int (kI μ 13 t9)), (3, .int 0), (0, .ref (B 100)), (1, .int (nI c9)), (2, .int (nI t9))]) hx hb dX5_works_65 hl (by decide) rfl (fun ls hl => ?_)
      have wu : wuM μ c9 t9 = (kI μ 13 t9) := by unfold wuM; rw [if_pos c51]
      replace hl : lv_has ls 6 [(4, .int (wuM μ c9 t9)), (3, .int 0), (0, .ref (B 100)), (1, .int (nI c9)), (2, .int (nI t9))] := by have h9 := hl; rw [← wu] at h9; exact h9
      refine lv_aload_n hx hb dX5_works_67 rfl (lv_at hl 2 rfl) ?_
      refine lv_dup hx hb dX5_works_68 rfl ?_
      refine m_get (C := RX5) (T := TX5) (N := 34) hx hb hts hi_X5 hown hK hV 27 (v := .int (kI μ 27 0)) (by have z9 := g_m27 hM; exact z9) rfl (by decide) k205 (fun _ h9 => h9) dX5_works_69 ?_
      refine lv_iload_n hx hb dX5_works_72 rfl (lv_at hl 1 rfl) ?_
      refine lv_if_eq (tgt := 80) hx hb dX5_works_73 (by decide) (fun c73 => ?_) (fun c73 => (absurd (by decide) c73))
      refine lv_iconst (v := 0) hx hb dX5_works_80 (by decide) ?_
      refine lv_iadd hx hb dX5_works_81 ?_
      have wmm : wmM μ c9 t9 = ((kI μ 27 0) + 0) := by unfold wmM; rw [wm] <;> rfl
      refine m_topi (y := wmM μ c9 t9) (wmm.symm) ?_
      refine m_put (C := RX5) (T := TX5) (N := 34) (v := .int (wmM μ c9 t9)) hx hb hts hi_X5 tyX5 tyX5_ok nmX5 hown hK hV hS 27 (p_m27 hM (wmM μ c9 t9)) rfl (by decide) k205 (fun _ h9 => h9) rfl (tyX5_ok 27 (by decide)) rfl rfl dX5_works_82 (fun h H locs hV hS hM => ?_)
      refine lv_aload_n hx hb dX5_works_85 rfl (lv_at hl 2 rfl) ?_
      refine m_get (C := RX5) (T := TX5) (N := 34) hx hb hts hi_X5 hown hK hV 20 (v := .ref (B 20)) (g_m20 hM) rfl (by decide) k66 (fun _ h9 => h9) dX5_works_86 ?_
      refine lv_iload_n hx hb dX5_works_89 rfl (lv_at hl 4 rfl) ?_
      refine lv_iload_n hx hb dX5_works_90 rfl (lv_at hl 3 rfl) ?_
      refine m_iast hx hb hK hV hS 0 (i := nI t9) (x := oI (some c9)) (q_m20 hM (by omega) (some c9)) rfl (vp_in_nI (by omega) (by omega)) dX5_works_91 (fun h H locs hV hS hM => ?_)
      refine lv_aload_n hx hb dX5_works_92 rfl (lv_at hl 2 rfl) ?_
      refine m_get (C := RX5) (T := TX5) (N := 34) hx hb hts hi_X5 hown hK hV 13 (v := .ref (B 13)) (g_m13 hM) rfl (by decide) k45 (fun _ h9 => h9) dX5_works_93 ?_
      refine lv_iload_n hx hb dX5_works_96 rfl (lv_at hl 4 rfl) ?_
      refine lv_dup2_11 hx hb dX5_works_97 rfl rfl ?_
      refine m_iald hx hb hK hV 0 (i := nI t9) (x := (kI μ 13 t9)) (a_m13 hM) rfl (vp_in_nI (by omega) (by omega)) (by rw [nI_clamp (by omega)] <;> first | rfl | (show oI (va_up _ _ _ _) = _; rw [vu_s] <;> rfl) | (show va_up _ _ _ _ = _; rw [vu_s] <;> rfl)) dX5_works_98 ?_
      refine lv_iload hx hb dX5_works_99 (lv_at hl 0 rfl) ?_
      refine lv_isub hx hb dX5_works_101 ?_
      refine m_iast hx hb hK hV hS 0 (i := nI t9) (x := ((kI μ 13 t9) - (wuM μ c9 t9))) (q_m13 hM (by omega) ((kI μ 13 t9) - (wuM μ c9 t9))) rfl (vp_in_nI (by omega) (by omega)) dX5_works_102 (fun h H locs hV hS hM => ?_)
      refine lv_aload_n hx hb dX5_works_103 rfl (lv_at hl 2 rfl) ?_
      refine m_get (C := RX5) (T := TX5) (N := 34) hx hb hts hi_X5 hown hK hV 19 (v := .ref (B 19)) (g_m19 hM) rfl (by decide) k63 (fun _ h9 => h9) dX5_works_104 ?_
      refine lv_iload_n hx hb dX5_works_107 rfl (lv_at hl 4 rfl) ?_
      refine lv_dup2_11 hx hb dX5_works_108 rfl rfl ?_
      refine m_iald hx hb hK hV 0 (i := nI t9) (x := (kI μ 19 t9)) (a_m19 hM) rfl (vp_in_nI (by omega) (by omega)) (by rw [nI_clamp (by omega)] <;> first | rfl | (show oI (va_up _ _ _ _) = _; rw [vu_s] <;> rfl) | (show va_up _ _ _ _ = _; rw [vu_s] <;> rfl)) dX5_works_109 ?_
      refine lv_iload hx hb dX5_works_110 (lv_at hl 0 rfl) ?_
      refine lv_iadd hx hb dX5_works_112 ?_
      refine m_iast hx hb hK hV hS 0 (i := nI t9) (x := ((kI μ 19 t9) + (wuM μ c9 t9))) (q_m19 hM (by omega) ((kI μ 19 t9) + (wuM μ c9 t9))) rfl (vp_in_nI (by omega) (by omega)) dX5_works_113 (fun h H locs hV hS hM => ?_)
      refine lv_aload_n hx hb dX5_works_114 rfl (lv_at hl 2 rfl) ?_
      refine m_get (C := RX5) (T := TX5) (N := 34) hx hb hts hi_X5 hown hK hV 12 (v := .ref (B 12)) (g_m12 hM) rfl (by decide) k42 (fun _ h9 => h9) dX5_works_115 ?_
      refine lv_iload_n hx hb dX5_works_118 rfl (lv_at hl 4 rfl) ?_
      refine lv_dup2_11 hx hb dX5_works_119 rfl rfl ?_
      refine m_lald hx hb hK hV 1 (i := nI t9) (x := (kW μ 12 t9)) (a_m12 hM) rfl (vp_in_nI (by omega) (by omega)) (by rw [nI_clamp (by omega)] <;> first | rfl | (show oI (va_up _ _ _ _) = _; rw [vu_s] <;> rfl) | (show va_up _ _ _ _ = _; rw [vu_s] <;> rfl)) dX5_works_120 ?_
      refine lv_iload hx hb dX5_works_121 (lv_at hl 0 rfl) ?_
      refine lv_sipush (v := 2520) hx hb dX5_works_123 (by decide) ?_
      refine lv_aload_n hx hb dX5_works_126 rfl (lv_at hl 2 rfl) ?_
      refine m_get (C := RX5) (T := TX5) (N := 34) hx hb hts hi_X5 hown hK hV 11 (v := .ref (B 11)) (g_m11 hM) rfl (by decide) k39 (fun _ h9 => h9) dX5_works_127 ?_
      refine lv_iload_n hx hb dX5_works_130 rfl (lv_at hl 4 rfl) ?_
      refine m_iald hx hb hK hV 0 (i := nI t9) (x := (kI μ 11 t9)) (a_m11 hM) rfl (vp_in_nI (by omega) (by omega)) (by rw [nI_clamp (by omega)] <;> first | rfl | (show oI (va_up _ _ _ _) = _; rw [vu_s] <;> rfl) | (show va_up _ _ _ _ = _; rw [vu_s] <;> rfl)) dX5_works_131 ?_
      refine lv_idiv hx hb dX5_works_132 (hdI.1 t9 ht9) ?_
      refine lv_imul hx hb dX5_works_133 ?_
      refine lv_i2l (v := (((wuM μ c9 t9) * (2520 / (kI μ 11 t9)))).toInt64) hx hb dX5_works_134 rfl ?_
      refine lv_ladd hx hb dX5_works_135 ?_
      refine m_last hx hb hK hV hS 1 (i := nI t9) (x := ((kW μ 12 t9) + ((((wuM μ c9 t9) * (2520 / (kI μ 11 t9)))).toInt64))) (q_m12 hM (by omega) ((kW μ 12 t9) + ((((wuM μ c9 t9) * (2520 / (kI μ 11 t9)))).toInt64))) rfl (vp_in_nI (by omega) (by omega)) dX5_works_136 (fun h H locs hV hS hM => ?_)
      refine lv_aload_n hx hb dX5_works_137 rfl (lv_at hl 2 rfl) ?_
      refine m_get (C := RX5) (T := TX5) (N := 34) hx hb hts hi_X5 hown hK hV 10 (v := .ref (B 10)) (g_m10 hM) rfl (by decide) k36 (fun _ h9 => h9) dX5_works_138 ?_
      refine lv_iload_n hx hb dX5_works_141 rfl (lv_at hl 4 rfl) ?_
      refine m_iald hx hb hK hV 0 (i := nI t9) (x := nI (kN μ 10 t9)) (a_m10 hM) rfl (vp_in_nI (by omega) (by omega)) (by rw [nI_clamp (by omega)] <;> first | rfl | (show oI (va_up _ _ _ _) = _; rw [vu_s] <;> rfl) | (show va_up _ _ _ _ = _; rw [vu_s] <;> rfl)) dX5_works_142 ?_
      refine lv_istore (lv' := [(5, .int (nI (kN μ 10 t9))), (4, .int (wuM μ c9 t9)), (3, .int 0), (0, .ref (B 100)), (1, .int (nI c9)), (2, .int (nI t9))]) hx hb dX5_works_143 hl (by decide) rfl (fun ls hl => ?_)
      have lp145 : ∀ (fu : Nat) (f : Nat) (a : Nat) (ν : KS), (a ≤ f) → (a < kN ν 9 0) → (∀ g, 0 < g → g < kN ν 9 0 → ¬ kI ν 7 g = 0) → (upM (wuM μ c9 t9) f a ν = wkM μ c9 t9) → a < fu → ∀ (h : mH) (H : Heap) (locs : List Loc), DRep cs P h0 B (ν) h → mV D h (mA hh s.heap.size) H → va_S (mA hh s.heap.size) s.heap H locs → ∀ (ls : Array Slot), lv_has ls 6 [(4, .int (wuM μ c9 t9)), (0, .ref (B 100)), (5, .int (nI a))] → W p l e ({ frames := 1, cells := 0, slots := 0, locals := 21 } : Room) s m args below meth c H locs 0 0 (MQ below (va_Qi ((fun (r : Int32) (h1 : mH) => DRep cs P h0 B (wkM μ c9 t9) h1 ∧ r = (wuM μ c9 t9))) (mB D hh s.heap.size) (mA hh s.heap.size)) args s 0 0 (mA hh s.heap.size)) (F0 m 145 ls []) := by
        intro fu
        induction fu with
        | zero =>
          intro f a ν hm ha hg2 hf hfu
          exact absurd hfu (Nat.not_lt_zero _)
        | succ fu ih145 =>
          intro f a ν hm ha hg2 hf hfu h H locs hM hV hS ls hl
          have v2 := hM.wf.1.2.2.1
          refine lv_iload hx hb dX5_works_145 (lv_at hl 2 rfl) ?_
          refine lv_if_eq (tgt := 187) hx hb dX5_works_147 (by decide) (fun c147 => ?_) (fun c147 => ?_)
          · replace c147 : a = 0 := (nI_eq (a := a) (b := 0) (by omega) (by omega)).mp c147
            refine lv_iload hx hb dX5_works_187 (lv_at hl 0 rfl) ?_
            exact m_iret (v := (wuM μ c9 t9)) hx hb hr hlocks hV hS (⟨(by rw [c147, upM_z] at hf; rw [← hf]; exact hM), rfl⟩) dX5_works_189
          · replace c147 : ¬ a = 0 := fun q9 => c147 ((nI_eq (a := a) (b := 0) (by omega) (by omega)).mpr q9)
            refine lv_aload_n hx hb dX5_works_150 rfl (lv_at hl 1 rfl) ?_
            refine m_get (C := RX5) (T := TX5) (N := 34) hx hb hts hi_X5 hown hK hV 8 (v := .ref (B 8)) (g_m8 hM) rfl (by decide) k29 (fun _ h9 => h9) dX5_works_151 ?_
            refine lv_iload hx hb dX5_works_154 (lv_at hl 2 rfl) ?_
            refine lv_dup2_11 hx hb dX5_works_156 rfl rfl ?_
            refine m_lald hx hb hK hV 1 (i := nI a) (x := (kW ν 8 a)) (a_m8 hM) rfl (vp_in_nI (by omega) (by omega)) (by rw [nI_clamp (by omega)] <;> first | rfl | (show oI (va_up _ _ _ _) = _; rw [vu_s] <;> rfl) | (show va_up _ _ _ _ = _; rw [vu_s] <;> rfl)) dX5_works_157 ?_
            refine lv_iload hx hb dX5_works_158 (lv_at hl 0 rfl) ?_
            refine lv_sipush (v := 2520) hx hb dX5_works_160 (by decide) ?_
            refine lv_aload_n hx hb dX5_works_163 rfl (lv_at hl 1 rfl) ?_
            refine m_get (C := RX5) (T := TX5) (N := 34) hx hb hts hi_X5 hown hK hV 7 (v := .ref (B 7)) (g_m7 hM) rfl (by decide) k26 (fun _ h9 => h9) dX5_works_164 ?_
            refine lv_iload hx hb dX5_works_167 (lv_at hl 2 rfl) ?_
            refine m_iald hx hb hK hV 0 (i := nI a) (x := (kI ν 7 a)) (a_m7 hM) rfl (vp_in_nI (by omega) (by omega)) (by rw [nI_clamp (by omega)] <;> first | rfl | (show oI (va_up _ _ _ _) = _; rw [vu_s] <;> rfl) | (show va_up _ _ _ _ = _; rw [vu_s] <;> rfl)) dX5_works_169 ?_
            refine lv_idiv hx hb dX5_works_170 (hg2 a (by omega) ha) ?_
            refine lv_imul hx hb dX5_works_171 ?_
            refine lv_i2l (v := (((wuM μ c9 t9) * (2520 / (kI ν 7 a)))).toInt64) hx hb dX5_works_172 rfl ?_
            refine lv_ladd hx hb dX5_works_173 ?_
            refine m_last hx hb hK hV hS 1 (i := nI a) (x := ((kW ν 8 a) + ((((wuM μ c9 t9) * (2520 / (kI ν 7 a)))).toInt64))) (q_m8 hM (by omega) ((kW ν 8 a) + ((((wuM μ c9 t9) * (2520 / (kI ν 7 a)))).toInt64))) rfl (vp_in_nI (by omega) (by omega)) dX5_works_174 (fun h H locs hV hS hM => ?_)
            refine lv_aload_n hx hb dX5_works_175 rfl (lv_at hl 1 rfl) ?_
            refine m_get (C := RX5) (T := TX5) (N := 34) hx hb hts hi_X5 hown hK hV 6 (v := .ref (B 6)) (g_m6 hM) rfl (by decide) k23 (fun _ h9 => h9) dX5_works_176 ?_
            refine lv_iload hx hb dX5_works_179 (lv_at hl 2 rfl) ?_
            refine m_iald hx hb hK hV 0 (i := nI a) (x := nI (kN ν 6 a)) (a_m6 hM) rfl (vp_in_nI (by omega) (by omega)) (by rw [nI_clamp (by omega)] <;> first | rfl | (show oI (va_up _ _ _ _) = _; rw [vu_s] <;> rfl) | (show va_up _ _ _ _ = _; rw [vu_s] <;> rfl)) dX5_works_181 ?_
            refine lv_istore (lv' := [(5, .int (nI (kN ν 6 a))), (4, .int (wuM μ c9 t9)), (0, .ref (B 100))]) hx hb dX5_works_182 hl (by decide) rfl (fun ls hl => ?_)
            refine lv_goto (tgt := 145) hx hb dX5_works_184 (by decide) ?_
            obtain ⟨f9, rfl⟩ : ∃ f9, f = f9 + 1 := ⟨f - 1, by omega⟩
            have z9 : kN ν 6 a < a := hM.wf.2.1 a (by omega) ha
            have w9 : upM (wuM μ c9 t9) f9 (kN ν 6 a) (sW ν 8 (va_up (kW ν 8) a ((kW ν 8 a) + ((((wuM μ c9 t9) * (2520 / (kI ν 7 a)))).toInt64)))) = wkM μ c9 t9 := by rw [← hf, upM, if_neg c147] <;> rfl
            exact ih145 f9 (kN ν 6 a) (sW ν 8 (va_up (kW ν 8) a ((kW ν 8 a) + ((((wuM μ c9 t9) * (2520 / (kI ν 7 a)))).toInt64)))) (by omega) (by show kN ν 6 a < kN ν 9 0; omega) hg2 w9 (by omega) _ _ _ hM hV hS ls (lv_sub hl [1, 2, 0] rfl)
      have q1 : (sW (sI (sI (sO (sI μ 27 (va_up (kI μ 27) 0 (wmM μ c9 t9))) 20 (va_up (kO (sI μ 27 (va_up (kI μ 27) 0 (wmM μ c9 t9))) 20) t9 (some c9))) 13 (va_up (kI (sO (sI μ 27 (va_up (kI μ 27) 0 (wmM μ c9 t9))) 20 (va_up (kO (sI μ 27 (va_up (kI μ 27) 0 (wmM μ c9 t9))) 20) t9 (some c9))) 13) t9 ((kI μ 13 t9) - (wuM μ c9 t9)))) 19 (va_up (kI (sI (sO (sI μ 27 (va_up (kI μ 27) 0 (wmM μ c9 t9))) 20 (va_up (kO (sI μ 27 (va_up (kI μ 27) 0 (wmM μ c9 t9))) 20) t9 (some c9))) 13 (va_up (kI (sO (sI μ 27 (va_up (kI μ 27) 0 (wmM μ c9 t9))) 20 (va_up (kO (sI μ 27 (va_up (kI μ 27) 0 (wmM μ c9 t9))) 20) t9 (some c9))) 13) t9 ((kI μ 13 t9) - (wuM μ c9 t9)))) 19) t9 ((kI μ 19 t9) + (wuM μ c9 t9)))) 12 (va_up (kW (sI (sI (sO (sI μ 27 (va_up (kI μ 27) 0 (wmM μ c9 t9))) 20 (va_up (kO (sI μ 27 (va_up (kI μ 27) 0 (wmM μ c9 t9))) 20) t9 (some c9))) 13 (va_up (kI (sO (sI μ 27 (va_up (kI μ 27) 0 (wmM μ c9 t9))) 20 (va_up (kO (sI μ 27 (va_up (kI μ 27) 0 (wmM μ c9 t9))) 20) t9 (some c9))) 13) t9 ((kI μ 13 t9) - (wuM μ c9 t9)))) 19 (va_up (kI (sI (sO (sI μ 27 (va_up (kI μ 27) 0 (wmM μ c9 t9))) 20 (va_up (kO (sI μ 27 (va_up (kI μ 27) 0 (wmM μ c9 t9))) 20) t9 (some c9))) 13 (va_up (kI (sO (sI μ 27 (va_up (kI μ 27) 0 (wmM μ c9 t9))) 20 (va_up (kO (sI μ 27 (va_up (kI μ 27) 0 (wmM μ c9 t9))) 20) t9 (some c9))) 13) t9 ((kI μ 13 t9) - (wuM μ c9 t9)))) 19) t9 ((kI μ 19 t9) + (wuM μ c9 t9)))) 12) t9 ((kW μ 12 t9) + ((((wuM μ c9 t9) * (2520 / (kI μ 11 t9)))).toInt64)))) = (w1M μ (wmM μ c9 t9) (wuM μ c9 t9) c9 t9) := rfl
      rw [q1] at hM
      exact lp145 ((kN μ 10 t9) + 1) 6 (kN μ 10 t9) (w1M μ (wmM μ c9 t9) (wuM μ c9 t9) c9 t9) (by have := y5 t9 ht9; omega) (y5 t9 ht9) hdI.2.1 rfl (Nat.lt_succ_self _) _ _ _ hM hV hS ls (lv_sub hl [1, 3, 0] rfl)
    · refine lv_iload hx hb dX5_works_54 (lv_at hl 0 rfl) ?_
      refine lv_goto (tgt := 65) hx hb dX5_works_56 (by decide) ?_
      refine lv_istore (lv' := [(4, .int (wvM μ c9 t9)), (3, .int 0), (0, .ref (B 100)), (1, .int (nI c9)), (2, .int (nI t9))]) hx hb dX5_works_65 hl (by decide) rfl (fun ls hl => ?_)
      have wu : wuM μ c9 t9 = (wvM μ c9 t9) := by unfold wuM; rw [if_neg c51]
      replace hl : lv_has ls 6 [(4, .int (wuM μ c9 t9)), (3, .int 0), (0, .ref (B 100)), (1, .int (nI c9)), (2, .int (nI t9))] := by have h9 := hl; rw [← wu] at h9; exact h9
      refine lv_aload_n hx hb dX5_works_67 rfl (lv_at hl 2 rfl) ?_
      refine lv_dup hx hb dX5_works_68 rfl ?_
      refine m_get (C := RX5) (T := TX5) (N := 34) hx hb hts hi_X5 hown hK hV 27 (v := .int (kI μ 27 0)) (by have z9 := g_m27 hM; exact z9) rfl (by decide) k205 (fun _ h9 => h9) dX5_works_69 ?_
      refine lv_iload_n hx hb dX5_works_72 rfl (lv_at hl 1 rfl) ?_
      refine lv_if_eq (tgt := 80) hx hb dX5_works_73 (by decide) (fun c73 => ?_) (fun c73 => (absurd (by decide) c73))
      refine lv_iconst (v := 0) hx hb dX5_works_80 (by decide) ?_
      refine lv_iadd hx hb dX5_works_81 ?_
      have wmm : wmM μ c9 t9 = ((kI μ 27 0) + 0) := by unfold wmM; rw [wm] <;> rfl
      refine m_topi (y := wmM μ c9 t9) (wmm.symm) ?_
      refine m_put (C := RX5) (T := TX5) (N := 34) (v := .int (wmM μ c9 t9)) hx hb hts hi_X5 tyX5 tyX5_ok nmX5 hown hK hV hS 27 (p_m27 hM (wmM μ c9 t9)) rfl (by decide) k205 (fun _ h9 => h9) rfl (tyX5_ok 27 (by decide)) rfl rfl dX5_works_82 (fun h H locs hV hS hM => ?_)
      refine lv_aload_n hx hb dX5_works_85 rfl (lv_at hl 2 rfl) ?_
      refine m_get (C := RX5) (T := TX5) (N := 34) hx hb hts hi_X5 hown hK hV 20 (v := .ref (B 20)) (g_m20 hM) rfl (by decide) k66 (fun _ h9 => h9) dX5_works_86 ?_
      refine lv_iload_n hx hb dX5_works_89 rfl (lv_at hl 4 rfl) ?_
      refine lv_iload_n hx hb dX5_works_90 rfl (lv_at hl 3 rfl) ?_
      refine m_iast hx hb hK hV hS 0 (i := nI t9) (x := oI (some c9)) (q_m20 hM (by omega) (some c9)) rfl (vp_in_nI (by omega) (by omega)) dX5_works_91 (fun h H locs hV hS hM => ?_)
      refine lv_aload_n hx hb dX5_works_92 rfl (lv_at hl 2 rfl) ?_
      refine m_get (C := RX5) (T := TX5) (N := 34) hx hb hts hi_X5 hown hK hV 13 (v := .ref (B 13)) (g_m13 hM) rfl (by decide) k45 (fun _ h9 => h9) dX5_works_93 ?_
      refine lv_iload_n hx hb dX5_works_96 rfl (lv_at hl 4 rfl) ?_
      refine lv_dup2_11 hx hb dX5_works_97 rfl rfl ?_
      refine m_iald hx hb hK hV 0 (i := nI t9) (x := (kI μ 13 t9)) (a_m13 hM) rfl (vp_in_nI (by omega) (by omega)) (by rw [nI_clamp (by omega)] <;> first | rfl | (show oI (va_up _ _ _ _) = _; rw [vu_s] <;> rfl) | (show va_up _ _ _ _ = _; rw [vu_s] <;> rfl)) dX5_works_98 ?_
      refine lv_iload hx hb dX5_works_99 (lv_at hl 0 rfl) ?_
      refine lv_isub hx hb dX5_works_101 ?_
      refine m_iast hx hb hK hV hS 0 (i := nI t9) (x := ((kI μ 13 t9) - (wuM μ c9 t9))) (q_m13 hM (by omega) ((kI μ 13 t9) - (wuM μ c9 t9))) rfl (vp_in_nI (by omega) (by omega)) dX5_works_102 (fun h H locs hV hS hM => ?_)
      refine lv_aload_n hx hb dX5_works_103 rfl (lv_at hl 2 rfl) ?_
      refine m_get (C := RX5) (T := TX5) (N := 34) hx hb hts hi_X5 hown hK hV 19 (v := .ref (B 19)) (g_m19 hM) rfl (by decide) k63 (fun _ h9 => h9) dX5_works_104 ?_
      refine lv_iload_n hx hb dX5_works_107 rfl (lv_at hl 4 rfl) ?_
      refine lv_dup2_11 hx hb dX5_works_108 rfl rfl ?_
      refine m_iald hx hb hK hV 0 (i := nI t9) (x := (kI μ 19 t9)) (a_m19 hM) rfl (vp_in_nI (by omega) (by omega)) (by rw [nI_clamp (by omega)] <;> first | rfl | (show oI (va_up _ _ _ _) = _; rw [vu_s] <;> rfl) | (show va_up _ _ _ _ = _; rw [vu_s] <;> rfl)) dX5_works_109 ?_
      refine lv_iload hx hb dX5_works_110 (lv_at hl 0 rfl) ?_
      refine lv_iadd hx hb dX5_works_112 ?_
      refine m_iast hx hb hK hV hS 0 (i := nI t9) (x := ((kI μ 19 t9) + (wuM μ c9 t9))) (q_m19 hM (by omega) ((kI μ 19 t9) + (wuM μ c9 t9))) rfl (vp_in_nI (by omega) (by omega)) dX5_works_113 (fun h H locs hV hS hM => ?_)
      refine lv_aload_n hx hb dX5_works_114 rfl (lv_at hl 2 rfl) ?_
      refine m_get (C := RX5) (T := TX5) (N := 34) hx hb hts hi_X5 hown hK hV 12 (v := .ref (B 12)) (g_m12 hM) rfl (by decide) k42 (fun _ h9 => h9) dX5_works_115 ?_
      refine lv_iload_n hx hb dX5_works_118 rfl (lv_at hl 4 rfl) ?_
      refine lv_dup2_11 hx hb dX5_works_119 rfl rfl ?_
      refine m_lald hx hb hK hV 1 (i := nI t9) (x := (kW μ 12 t9)) (a_m12 hM) rfl (vp_in_nI (by omega) (by omega)) (by rw [nI_clamp (by omega)] <;> first | rfl | (show oI (va_up _ _ _ _) = _; rw [vu_s] <;> rfl) | (show va_up _ _ _ _ = _; rw [vu_s] <;> rfl)) dX5_works_120 ?_
      refine lv_iload hx hb dX5_works_121 (lv_at hl 0 rfl) ?_
      refine lv_sipush (v := 2520) hx hb dX5_works_123 (by decide) ?_
      refine lv_aload_n hx hb dX5_works_126 rfl (lv_at hl 2 rfl) ?_
      refine m_get (C := RX5) (T := TX5) (N := 34) hx hb hts hi_X5 hown hK hV 11 (v := .ref (B 11)) (g_m11 hM) rfl (by decide) k39 (fun _ h9 => h9) dX5_works_127 ?_
      refine lv_iload_n hx hb dX5_works_130 rfl (lv_at hl 4 rfl) ?_
      refine m_iald hx hb hK hV 0 (i := nI t9) (x := (kI μ 11 t9)) (a_m11 hM) rfl (vp_in_nI (by omega) (by omega)) (by rw [nI_clamp (by omega)] <;> first | rfl | (show oI (va_up _ _ _ _) = _; rw [vu_s] <;> rfl) | (show va_up _ _ _ _ = _; rw [vu_s] <;> rfl)) dX5_works_131 ?_
      refine lv_idiv hx hb dX5_works_132 (hdI.1 t9 ht9) ?_
      refine lv_imul hx hb dX5_works_133 ?_
      refine lv_i2l (v := (((wuM μ c9 t9) * (2520 / (kI μ 11 t9)))).toInt64) hx hb dX5_works_134 rfl ?_
      refine lv_ladd hx hb dX5_works_135 ?_
      refine m_last hx hb hK hV hS 1 (i := nI t9) (x := ((kW μ 12 t9) + ((((wuM μ c9 t9) * (2520 / (kI μ 11 t9)))).toInt64))) (q_m12 hM (by omega) ((kW μ 12 t9) + ((((wuM μ c9 t9) * (2520 / (kI μ 11 t9)))).toInt64))) rfl (vp_in_nI (by omega) (by omega)) dX5_works_136 (fun h H locs hV hS hM => ?_)
      refine lv_aload_n hx hb dX5_works_137 rfl (lv_at hl 2 rfl) ?_
      refine m_get (C := RX5) (T := TX5) (N := 34) hx hb hts hi_X5 hown hK hV 10 (v := .ref (B 10)) (g_m10 hM) rfl (by decide) k36 (fun _ h9 => h9) dX5_works_138 ?_
      refine lv_iload_n hx hb dX5_works_141 rfl (lv_at hl 4 rfl) ?_
      refine m_iald hx hb hK hV 0 (i := nI t9) (x := nI (kN μ 10 t9)) (a_m10 hM) rfl (vp_in_nI (by omega) (by omega)) (by rw [nI_clamp (by omega)] <;> first | rfl | (show oI (va_up _ _ _ _) = _; rw [vu_s] <;> rfl) | (show va_up _ _ _ _ = _; rw [vu_s] <;> rfl)) dX5_works_142 ?_
      refine lv_istore (lv' := [(5, .int (nI (kN μ 10 t9))), (4, .int (wuM μ c9 t9)), (3, .int 0), (0, .ref (B 100)), (1, .int (nI c9)), (2, .int (nI t9))]) hx hb dX5_works_143 hl (by decide) rfl (fun ls hl => ?_)
      have lp145 : ∀ (fu : Nat) (f : Nat) (a : Nat) (ν : KS), (a ≤ f) → (a < kN ν 9 0) → (∀ g, 0 < g → g < kN ν 9 0 → ¬ kI ν 7 g = 0) → (upM (wuM μ c9 t9) f a ν = wkM μ c9 t9) → a < fu → ∀ (h : mH) (H : Heap) (locs : List Loc), DRep cs P h0 B (ν) h → mV D h (mA hh s.heap.size) H → va_S (mA hh s.heap.size) s.heap H locs → ∀ (ls : Array Slot), lv_has ls 6 [(4, .int (wuM μ c9 t9)), (0, .ref (B 100)), (5, .int (nI a))] → W p l e ({ frames := 1, cells := 0, slots := 0, locals := 21 } : Room) s m args below meth c H locs 0 0 (MQ below (va_Qi ((fun (r : Int32) (h1 : mH) => DRep cs P h0 B (wkM μ c9 t9) h1 ∧ r = (wuM μ c9 t9))) (mB D hh s.heap.size) (mA hh s.heap.size)) args s 0 0 (mA hh s.heap.size)) (F0 m 145 ls []) := by
        intro fu
        induction fu with
        | zero =>
          intro f a ν hm ha hg2 hf hfu
          exact absurd hfu (Nat.not_lt_zero _)
        | succ fu ih145 =>
          intro f a ν hm ha hg2 hf hfu h H locs hM hV hS ls hl
          have v2 := hM.wf.1.2.2.1
          refine lv_iload hx hb dX5_works_145 (lv_at hl 2 rfl) ?_
          refine lv_if_eq (tgt := 187) hx hb dX5_works_147 (by decide) (fun c147 => ?_) (fun c147 => ?_)
          · replace c147 : a = 0 := (nI_eq (a := a) (b := 0) (by omega) (by omega)).mp c147
            refine lv_iload hx hb dX5_works_187 (lv_at hl 0 rfl) ?_
            exact m_iret (v := (wuM μ c9 t9)) hx hb hr hlocks hV hS (⟨(by rw [c147, upM_z] at hf; rw [← hf]; exact hM), rfl⟩) dX5_works_189
          · replace c147 : ¬ a = 0 := fun q9 => c147 ((nI_eq (a := a) (b := 0) (by omega) (by omega)).mpr q9)
            refine lv_aload_n hx hb dX5_works_150 rfl (lv_at hl 1 rfl) ?_
            refine m_get (C := RX5) (T := TX5) (N := 34) hx hb hts hi_X5 hown hK hV 8 (v := .ref (B 8)) (g_m8 hM) rfl (by decide) k29 (fun _ h9 => h9) dX5_works_151 ?_
            refine lv_iload hx hb dX5_works_154 (lv_at hl 2 rfl) ?_
            refine lv_dup2_11 hx hb dX5_works_156 rfl rfl ?_
            refine m_lald hx hb hK hV 1 (i := nI a) (x := (kW ν 8 a)) (a_m8 hM) rfl (vp_in_nI (by omega) (by omega)) (by rw [nI_clamp (by omega)] <;> first | rfl | (show oI (va_up _ _ _ _) = _; rw [vu_s] <;> rfl) | (show va_up _ _ _ _ = _; rw [vu_s] <;> rfl)) dX5_works_157 ?_
            refine lv_iload hx hb dX5_works_158 (lv_at hl 0 rfl) ?_
            refine lv_sipush (v := 2520) hx hb dX5_works_160 (by decide) ?_
            refine lv_aload_n hx hb dX5_works_163 rfl (lv_at hl 1 rfl) ?_
            refine m_get (C := RX5) (T := TX5) (N := 34) hx hb hts hi_X5 hown hK hV 7 (v := .ref (B 7)) (g_m7 hM) rfl (by decide) k26 (fun _ h9 => h9) dX5_works_164 ?_
            refine lv_iload hx hb dX5_works_167 (lv_at hl 2 rfl) ?_
            refine m_iald hx hb hK hV 0 (i := nI a) (x := (kI ν 7 a)) (a_m7 hM) rfl (vp_in_nI (by omega) (by omega)) (by rw [nI_clamp (by omega)] <;> first | rfl | (show oI (va_up _ _ _ _) = _; rw [vu_s] <;> rfl) | (show va_up _ _ _ _ = _; rw [vu_s] <;> rfl)) dX5_works_169 ?_
            refine lv_idiv hx hb dX5_works_170 (hg2 a (by omega) ha) ?_
            refine lv_imul hx hb dX5_works_171 ?_
            refine lv_i2l (v := (((wuM μ c9 t9) * (2520 / (kI ν 7 a)))).toInt64) hx hb dX5_works_172 rfl ?_
            refine lv_ladd hx hb dX5_works_173 ?_
            refine m_last hx hb hK hV hS 1 (i := nI a) (x := ((kW ν 8 a) + ((((wuM μ c9 t9) * (2520 / (kI ν 7 a)))).toInt64))) (q_m8 hM (by omega) ((kW ν 8 a) + ((((wuM μ c9 t9) * (2520 / (kI ν 7 a)))).toInt64))) rfl (vp_in_nI (by omega) (by omega)) dX5_works_174 (fun h H locs hV hS hM => ?_)
            refine lv_aload_n hx hb dX5_works_175 rfl (lv_at hl 1 rfl) ?_
            refine m_get (C := RX5) (T := TX5) (N := 34) hx hb hts hi_X5 hown hK hV 6 (v := .ref (B 6)) (g_m6 hM) rfl (by decide) k23 (fun _ h9 => h9) dX5_works_176 ?_
            refine lv_iload hx hb dX5_works_179 (lv_at hl 2 rfl) ?_
            refine m_iald hx hb hK hV 0 (i := nI a) (x := nI (kN ν 6 a)) (a_m6 hM) rfl (vp_in_nI (by omega) (by omega)) (by rw [nI_clamp (by omega)] <;> first | rfl | (show oI (va_up _ _ _ _) = _; rw [vu_s] <;> rfl) | (show va_up _ _ _ _ = _; rw [vu_s] <;> rfl)) dX5_works_181 ?_
            refine lv_istore (lv' := [(5, .int (nI (kN ν 6 a))), (4, .int (wuM μ c9 t9)), (0, .ref (B 100))]) hx hb dX5_works_182 hl (by decide) rfl (fun ls hl => ?_)
            refine lv_goto (tgt := 145) hx hb dX5_works_184 (by decide) ?_
            obtain ⟨f9, rfl⟩ : ∃ f9, f = f9 + 1 := ⟨f - 1, by omega⟩
            have z9 : kN ν 6 a < a := hM.wf.2.1 a (by omega) ha
            have w9 : upM (wuM μ c9 t9) f9 (kN ν 6 a) (sW ν 8 (va_up (kW ν 8) a ((kW ν 8 a) + ((((wuM μ c9 t9) * (2520 / (kI ν 7 a)))).toInt64)))) = wkM μ c9 t9 := by rw [← hf, upM, if_neg c147] <;> rfl
            exact ih145 f9 (kN ν 6 a) (sW ν 8 (va_up (kW ν 8) a ((kW ν 8 a) + ((((wuM μ c9 t9) * (2520 / (kI ν 7 a)))).toInt64)))) (by omega) (by show kN ν 6 a < kN ν 9 0; omega) hg2 w9 (by omega) _ _ _ hM hV hS ls (lv_sub hl [1, 2, 0] rfl)
      have q2 : (sW (sI (sI (sO (sI μ 27 (va_up (kI μ 27) 0 (wmM μ c9 t9))) 20 (va_up (kO (sI μ 27 (va_up (kI μ 27) 0 (wmM μ c9 t9))) 20) t9 (some c9))) 13 (va_up (kI (sO (sI μ 27 (va_up (kI μ 27) 0 (wmM μ c9 t9))) 20 (va_up (kO (sI μ 27 (va_up (kI μ 27) 0 (wmM μ c9 t9))) 20) t9 (some c9))) 13) t9 ((kI μ 13 t9) - (wuM μ c9 t9)))) 19 (va_up (kI (sI (sO (sI μ 27 (va_up (kI μ 27) 0 (wmM μ c9 t9))) 20 (va_up (kO (sI μ 27 (va_up (kI μ 27) 0 (wmM μ c9 t9))) 20) t9 (some c9))) 13 (va_up (kI (sO (sI μ 27 (va_up (kI μ 27) 0 (wmM μ c9 t9))) 20 (va_up (kO (sI μ 27 (va_up (kI μ 27) 0 (wmM μ c9 t9))) 20) t9 (some c9))) 13) t9 ((kI μ 13 t9) - (wuM μ c9 t9)))) 19) t9 ((kI μ 19 t9) + (wuM μ c9 t9)))) 12 (va_up (kW (sI (sI (sO (sI μ 27 (va_up (kI μ 27) 0 (wmM μ c9 t9))) 20 (va_up (kO (sI μ 27 (va_up (kI μ 27) 0 (wmM μ c9 t9))) 20) t9 (some c9))) 13 (va_up (kI (sO (sI μ 27 (va_up (kI μ 27) 0 (wmM μ c9 t9))) 20 (va_up (kO (sI μ 27 (va_up (kI μ 27) 0 (wmM μ c9 t9))) 20) t9 (some c9))) 13) t9 ((kI μ 13 t9) - (wuM μ c9 t9)))) 19 (va_up (kI (sI (sO (sI μ 27 (va_up (kI μ 27) 0 (wmM μ c9 t9))) 20 (va_up (kO (sI μ 27 (va_up (kI μ 27) 0 (wmM μ c9 t9))) 20) t9 (some c9))) 13 (va_up (kI (sO (sI μ 27 (va_up (kI μ 27) 0 (wmM μ c9 t9))) 20 (va_up (kO (sI μ 27 (va_up (kI μ 27) 0 (wmM μ c9 t9))) 20) t9 (some c9))) 13) t9 ((kI μ 13 t9) - (wuM μ c9 t9)))) 19) t9 ((kI μ 19 t9) + (wuM μ c9 t9)))) 12) t9 ((kW μ 12 t9) + ((((wuM μ c9 t9) * (2520 / (kI μ 11 t9)))).toInt64)))) = (w1M μ (wmM μ c9 t9) (wuM μ c9 t9) c9 t9) := rfl
      rw [q2] at hM
      exact lp145 ((kN μ 10 t9) + 1) 6 (kN μ 10 t9) (w1M μ (wmM μ c9 t9) (wuM μ c9 t9) c9 t9) (by have := y5 t9 ht9; omega) (y5 t9 ht9) hdI.2.1 rfl (Nat.lt_succ_self _) _ _ _ hM hV hS ls (lv_sub hl [1, 3, 0] rfl)
  · obtain ⟨k7, c7⟩ : ∃ z, kO μ 20 t9 = some z := Option.ne_none_iff_exists'.mp (fun q9 => c7 ((oI_m1 (fun k9 e9 => by have := hdI.2.2 t9 k9 ht9 e9; omega)).mpr q9))
    have bk7 := hdI.2.2 t9 k7 ht9 c7
    refine lv_aload_n hx hb dX5_works_10 rfl (lv_at hl 0 rfl) ?_
    refine m_get (C := RX5) (T := TX5) (N := 34) hx hb hts hi_X5 hown hK hV 20 (v := .ref (B 20)) (g_m20 hM) rfl (by decide) k66 (fun _ h9 => h9) dX5_works_11 ?_
    refine lv_iload_n hx hb dX5_works_14 rfl (lv_at hl 2 rfl) ?_
    refine m_iald hx hb hK hV 0 (i := nI t9) (x := nI k7) (a_m20 hM) rfl (vp_in_nI (by omega) (by omega)) (by rw [nI_clamp (by omega)] <;> first | (show oI (kO μ 20 t9) = _; rw [c7]; rfl) | (show oI (va_up _ _ _ _) = _; rw [vu_s, c7]; rfl)) dX5_works_15 ?_
    refine lv_iload_n hx hb dX5_works_16 rfl (lv_at hl 1 rfl) ?_
    refine lv_icmp_eq (tgt := 24) hx hb dX5_works_17 (by decide) (fun c17 => ?_) (fun c17 => ?_)
    · replace c17 : k7 = c9 := (nI_eq (a := k7) (b := c9) (by omega) (by omega)).mp c17
      refine lv_iconst (v := 0) hx hb dX5_works_24 (by decide) ?_
      have wm : mvM μ c9 t9 = false := by unfold mvM; rw [c7]; exact decide_eq_false (fun q => q c17)
      refine lv_istore_n (lv' := [(3, .int 0), (0, .ref (B 100)), (1, .int (nI c9)), (2, .int (nI t9))]) hx hb dX5_works_25 rfl hl (by decide) rfl (fun ls hl => ?_)
      refine lv_aload_n hx hb dX5_works_26 rfl (lv_at hl 1 rfl) ?_
      refine lv_iload_n hx hb dX5_works_27 rfl (lv_at hl 2 rfl) ?_
      refine m_calli (va_runV (As := [.int (nI c9)]) (rest := []) ⟨hx, hb, hml, hown, hts⟩ (c_X5_paceOf (l := l) (s.heap.size) hM c9 (by first | assumption | omega)) (cwV 1 hts gX5_works_X5_paceOf rfl rfl rfl (by decide +kernel) ⟨by decide, by decide⟩) (m_preV (r := (RX5, TX5, 34)) hE hV hS hA (hM.at 100 (by decide)) rfl) rfl rfl hl.1 rfl (lv_room (by first | exact Nat.le_of_ble_eq_true rfl | simp [rf_cat, ct_ref, ct_int, ct_null, ct_long])) dX5_works_28 ⟨by decide, by decide⟩) hV hS hA (fun r h1 H locs hV hS hp _ => ?_)
      obtain ⟨e1, e2⟩ := hp
      subst e2
      rw [e1] at hV; clear e1
      refine lv_iload_n hx hb dX5_works_31 rfl (lv_at hl 0 rfl) ?_
      refine lv_if_eq (tgt := 39) hx hb dX5_works_32 (by decide) (fun c32 => ?_) (fun c32 => (absurd (by decide) c32))
      refine lv_iconst (v := 0) hx hb dX5_works_39 (by decide) ?_
      refine lv_isub hx hb dX5_works_40 ?_
      refine lv_istore (lv' := [(4, .int ((paM μ c9) - 0)), (3, .int 0), (0, .ref (B 100)), (1, .int (nI c9)), (2, .int (nI t9))]) hx hb dX5_works_41 hl (by decide) rfl (fun ls hl => ?_)
      have wv : wvM μ c9 t9 = ((paM μ c9) - 0) := by unfold wvM; rw [wm] <;> rfl
      replace hl : lv_has ls 6 [(4, .int (wvM μ c9 t9)), (3, .int 0), (0, .ref (B 100)), (1, .int (nI c9)), (2, .int (nI t9))] := by have h9 := hl; rw [← wv] at h9; exact h9
      refine lv_iload hx hb dX5_works_43 (lv_at hl 0 rfl) ?_
      refine lv_aload_n hx hb dX5_works_45 rfl (lv_at hl 2 rfl) ?_
      refine m_get (C := RX5) (T := TX5) (N := 34) hx hb hts hi_X5 hown hK hV 13 (v := .ref (B 13)) (g_m13 hM) rfl (by decide) k45 (fun _ h9 => h9) dX5_works_46 ?_
      refine lv_iload_n hx hb dX5_works_49 rfl (lv_at hl 4 rfl) ?_
      refine m_iald hx hb hK hV 0 (i := nI t9) (x := (kI μ 13 t9)) (a_m13 hM) rfl (vp_in_nI (by omega) (by omega)) (by rw [nI_clamp (by omega)] <;> first | rfl | (show oI (va_up _ _ _ _) = _; rw [vu_s] <;> rfl) | (show va_up _ _ _ _ = _; rw [vu_s] <;> rfl)) dX5_works_50 ?_
      refine lv_icmp_ge (tgt := 59) hx hb dX5_works_51 (by decide) (fun c51 => ?_) (fun c51 => ?_)
      · refine lv_aload_n hx hb dX5_works_59 rfl (lv_at hl 2 rfl) ?_
        refine m_get (C := RX5) (T := TX5) (N := 34) hx hb hts hi_X5 hown hK hV 13 (v := .ref (B 13)) (g_m13 hM) rfl (by decide) k45 (fun _ h9 => h9) dX5_works_60 ?_
        refine lv_iload_n hx hb dX5_works_63 rfl (lv_at hl 4 rfl) ?_
        refine m_iald hx hb hK hV 0 (i := nI t9) (x := (kI μ 13 t9)) (a_m13 hM) rfl (vp_in_nI (by omega) (by omega)) (by rw [nI_clamp (by omega)] <;> first | rfl | (show oI (va_up _ _ _ _) = _; rw [vu_s] <;> rfl) | (show va_up _ _ _ _ = _; rw [vu_s] <;> rfl)) dX5_works_64 ?_
        refine lv_istore (lv' := [(4, .int (kI μ 13 t9)), (3, .int 0), (0, .ref (B 100)), (1, .int (nI c9)), (2, .int (nI t9))]) hx hb dX5_works_65 hl (by decide) rfl (fun ls hl => ?_)
        have wu : wuM μ c9 t9 = (kI μ 13 t9) := by unfold wuM; rw [if_pos c51]
        replace hl : lv_has ls 6 [(4, .int (wuM μ c9 t9)), (3, .int 0), (0, .ref (B 100)), (1, .int (nI c9)), (2, .int (nI t9))] := by have h9 := hl; rw [← wu] at h9; exact h9
        refine lv_aload_n hx hb dX5_works_67 rfl (lv_at hl 2 rfl) ?_
        refine lv_dup hx hb dX5_works_68 rfl ?_
        refine m_get (C := RX5) (T := TX5) (N := 34) hx hb hts hi_X5 hown hK hV 27 (v := .int (kI μ 27 0)) (by have z9 := g_m27 hM; exact z9) rfl (by decide) k205 (fun _ h9 => h9) dX5_works_69 ?_
        refine lv_iload_n hx hb dX5_works_72 rfl (lv_at hl 1 rfl) ?_
        refine lv_if_eq (tgt := 80) hx hb dX5_works_73 (by decide) (fun c73 => ?_) (fun c73 => (absurd (by decide) c73))
        refine lv_iconst (v := 0) hx hb dX5_works_80 (by decide) ?_
        refine lv_iadd hx hb dX5_works_81 ?_
        have wmm : wmM μ c9 t9 = ((kI μ 27 0) + 0) := by unfold wmM; rw [wm] <;> rfl
        refine m_topi (y := wmM μ c9 t9) (wmm.symm) ?_
        refine m_put (C := RX5) (T := TX5) (N := 34) (v := .int (wmM μ c9 t9)) hx hb hts hi_X5 tyX5 tyX5_ok nmX5 hown hK hV hS 27 (p_m27 hM (wmM μ c9 t9)) rfl (by decide) k205 (fun _ h9 => h9) rfl (tyX5_ok 27 (by decide)) rfl rfl dX5_works_82 (fun h H locs hV hS hM => ?_)
        refine lv_aload_n hx hb dX5_works_85 rfl (lv_at hl 2 rfl) ?_
        refine m_get (C := RX5) (T := TX5) (N := 34) hx hb hts hi_X5 hown hK hV 20 (v := .ref (B 20)) (g_m20 hM) rfl (by decide) k66 (fun _ h9 => h9) dX5_works_86 ?_
        refine lv_iload_n hx hb dX5_works_89 rfl (lv_at hl 4 rfl) ?_
        refine lv_iload_n hx hb dX5_works_90 rfl (lv_at hl 3 rfl) ?_
        refine m_iast hx hb hK hV hS 0 (i := nI t9) (x := oI (some c9)) (q_m20 hM (by omega) (some c9)) rfl (vp_in_nI (by omega) (by omega)) dX5_works_91 (fun h H locs hV hS hM => ?_)
        refine lv_aload_n hx hb dX5_works_92 rfl (lv_at hl 2 rfl) ?_
        refine m_get (C := RX5) (T := TX5) (N := 34) hx hb hts hi_X5 hown hK hV 13 (v := .ref (B 13)) (g_m13 hM) rfl (by decide) k45 (fun _ h9 => h9) dX5_works_93 ?_
        refine lv_iload_n hx hb dX5_works_96 rfl (lv_at hl 4 rfl) ?_
        refine lv_dup2_11 hx hb dX5_works_97 rfl rfl ?_
        refine m_iald hx hb hK hV 0 (i := nI t9) (x := (kI μ 13 t9)) (a_m13 hM) rfl (vp_in_nI (by omega) (by omega)) (by rw [nI_clamp (by omega)] <;> first | rfl | (show oI (va_up _ _ _ _) = _; rw [vu_s] <;> rfl) | (show va_up _ _ _ _ = _; rw [vu_s] <;> rfl)) dX5_works_98 ?_
        refine lv_iload hx hb dX5_works_99 (lv_at hl 0 rfl) ?_
        refine lv_isub hx hb dX5_works_101 ?_
        refine m_iast hx hb hK hV hS 0 (i := nI t9) (x := ((kI μ 13 t9) - (wuM μ c9 t9))) (q_m13 hM (by omega) ((kI μ 13 t9) - (wuM μ c9 t9))) rfl (vp_in_nI (by omega) (by omega)) dX5_works_102 (fun h H locs hV hS hM => ?_)
        refine lv_aload_n hx hb dX5_works_103 rfl (lv_at hl 2 rfl) ?_
        refine m_get (C := RX5) (T := TX5) (N := 34) hx hb hts hi_X5 hown hK hV 19 (v := .ref (B 19)) (g_m19 hM) rfl (by decide) k63 (fun _ h9 => h9) dX5_works_104 ?_
        refine lv_iload_n hx hb dX5_works_107 rfl (lv_at hl 4 rfl) ?_
        refine lv_dup2_11 hx hb dX5_works_108 rfl rfl ?_
        refine m_iald hx hb hK hV 0 (i := nI t9) (x := (kI μ 19 t9)) (a_m19 hM) rfl (vp_in_nI (by omega) (by omega)) (by rw [nI_clamp (by omega)] <;> first | rfl | (show oI (va_up _ _ _ _) = _; rw [vu_s] <;> rfl) | (show va_up _ _ _ _ = _; rw [vu_s] <;> rfl)) dX5_works_109 ?_
        refine lv_iload hx hb dX5_works_110 (lv_at hl 0 rfl) ?_
        refine lv_iadd hx hb dX5_works_112 ?_
        refine m_iast hx hb hK hV hS 0 (i := nI t9) (x := ((kI μ 19 t9) + (wuM μ c9 t9))) (q_m19 hM (by omega) ((kI μ 19 t9) + (wuM μ c9 t9))) rfl (vp_in_nI (by omega) (by omega)) dX5_works_113 (fun h H locs hV hS hM => ?_)
        refine lv_aload_n hx hb dX5_works_114 rfl (lv_at hl 2 rfl) ?_
        refine m_get (C := RX5) (T := TX5) (N := 34) hx hb hts hi_X5 hown hK hV 12 (v := .ref (B 12)) (g_m12 hM) rfl (by decide) k42 (fun _ h9 => h9) dX5_works_115 ?_
        refine lv_iload_n hx hb dX5_works_118 rfl (lv_at hl 4 rfl) ?_
        refine lv_dup2_11 hx hb dX5_works_119 rfl rfl ?_
        refine m_lald hx hb hK hV 1 (i := nI t9) (x := (kW μ 12 t9)) (a_m12 hM) rfl (vp_in_nI (by omega) (by omega)) (by rw [nI_clamp (by omega)] <;> first | rfl | (show oI (va_up _ _ _ _) = _; rw [vu_s] <;> rfl) | (show va_up _ _ _ _ = _; rw [vu_s] <;> rfl)) dX5_works_120 ?_
        refine lv_iload hx hb dX5_works_121 (lv_at hl 0 rfl) ?_
        refine lv_sipush (v := 2520) hx hb dX5_works_123 (by decide) ?_
        refine lv_aload_n hx hb dX5_works_126 rfl (lv_at hl 2 rfl) ?_
        refine m_get (C := RX5) (T := TX5) (N := 34) hx hb hts hi_X5 hown hK hV 11 (v := .ref (B 11)) (g_m11 hM) rfl (by decide) k39 (fun _ h9 => h9) dX5_works_127 ?_
        refine lv_iload_n hx hb dX5_works_130 rfl (lv_at hl 4 rfl) ?_
        refine m_iald hx hb hK hV 0 (i := nI t9) (x := (kI μ 11 t9)) (a_m11 hM) rfl (vp_in_nI (by omega) (by omega)) (by rw [nI_clamp (by omega)] <;> first | rfl | (show oI (va_up _ _ _ _) = _; rw [vu_s] <;> rfl) | (show va_up _ _ _ _ = _; rw [vu_s] <;> rfl)) dX5_works_131 ?_
        refine lv_idiv hx hb dX5_works_132 (hdI.1 t9 ht9) ?_
        refine lv_imul hx hb dX5_works_133 ?_
        refine lv_i2l (v := (((wuM μ c9 t9) * (2520 / (kI μ 11 t9)))).toInt64) hx hb dX5_works_134 rfl ?_
        refine lv_ladd hx hb dX5_works_135 ?_
        refine m_last hx hb hK hV hS 1 (i := nI t9) (x := ((kW μ 12 t9) + ((((wuM μ c9 t9) * (2520 / (kI μ 11 t9)))).toInt64))) (q_m12 hM (by omega) ((kW μ 12 t9) + ((((wuM μ c9 t9) * (2520 / (kI μ 11 t9)))).toInt64))) rfl (vp_in_nI (by omega) (by omega)) dX5_works_136 (fun h H locs hV hS hM => ?_)
        refine lv_aload_n hx hb dX5_works_137 rfl (lv_at hl 2 rfl) ?_
        refine m_get (C := RX5) (T := TX5) (N := 34) hx hb hts hi_X5 hown hK hV 10 (v := .ref (B 10)) (g_m10 hM) rfl (by decide) k36 (fun _ h9 => h9) dX5_works_138 ?_
        refine lv_iload_n hx hb dX5_works_141 rfl (lv_at hl 4 rfl) ?_
        refine m_iald hx hb hK hV 0 (i := nI t9) (x := nI (kN μ 10 t9)) (a_m10 hM) rfl (vp_in_nI (by omega) (by omega)) (by rw [nI_clamp (by omega)] <;> first | rfl | (show oI (va_up _ _ _ _) = _; rw [vu_s] <;> rfl) | (show va_up _ _ _ _ = _; rw [vu_s] <;> rfl)) dX5_works_142 ?_
        refine lv_istore (lv' := [(5, .int (nI (kN μ 10 t9))), (4, .int (wuM μ c9 t9)), (3, .int 0), (0, .ref (B 100)), (1, .int (nI c9)), (2, .int (nI t9))]) hx hb dX5_works_143 hl (by decide) rfl (fun ls hl => ?_)
        have lp145 : ∀ (fu : Nat) (f : Nat) (a : Nat) (ν : KS), (a ≤ f) → (a < kN ν 9 0) → (∀ g, 0 < g → g < kN ν 9 0 → ¬ kI ν 7 g = 0) → (upM (wuM μ c9 t9) f a ν = wkM μ c9 t9) → a < fu → ∀ (h : mH) (H : Heap) (locs : List Loc), DRep cs P h0 B (ν) h → mV D h (mA hh s.heap.size) H → va_S (mA hh s.heap.size) s.heap H locs → ∀ (ls : Array Slot), lv_has ls 6 [(4, .int (wuM μ c9 t9)), (0, .ref (B 100)), (5, .int (nI a))] → W p l e ({ frames := 1, cells := 0, slots := 0, locals := 21 } : Room) s m args below meth c H locs 0 0 (MQ below (va_Qi ((fun (r : Int32) (h1 : mH) => DRep cs P h0 B (wkM μ c9 t9) h1 ∧ r = (wuM μ c9 t9))) (mB D hh s.heap.size) (mA hh s.heap.size)) args s 0 0 (mA hh s.heap.size)) (F0 m 145 ls []) := by
          intro fu
          induction fu with
          | zero =>
            intro f a ν hm ha hg2 hf hfu
            exact absurd hfu (Nat.not_lt_zero _)
          | succ fu ih145 =>
            intro f a ν hm ha hg2 hf hfu h H locs hM hV hS ls hl
            have v2 := hM.wf.1.2.2.1
            refine lv_iload hx hb dX5_works_145 (lv_at hl 2 rfl) ?_
            refine lv_if_eq (tgt := 187) hx hb dX5_works_147 (by decide) (fun c147 => ?_) (fun c147 => ?_)
            · replace c147 : a = 0 := (nI_eq (a := a) (b := 0) (by omega) (by omega)).mp c147
              refine lv_iload hx hb dX5_works_187 (lv_at hl 0 rfl) ?_
              exact m_iret (v := (wuM μ c9 t9)) hx hb hr hlocks hV hS (⟨(by rw [c147, upM_z] at hf; rw [← hf]; exact hM), rfl⟩) dX5_works_189
            · replace c147 : ¬ a = 0 := fun q9 => c147 ((nI_eq (a := a) (b := 0) (by omega) (by omega)).mpr q9)
              refine lv_aload_n hx hb dX5_works_150 rfl (lv_at hl 1 rfl) ?_
              refine m_get (C := RX5) (T := TX5) (N := 34) hx hb hts hi_X5 hown hK hV 8 (v := .ref (B 8)) (g_m8 hM) rfl (by decide) k29 (fun _ h9 => h9) dX5_works_151 ?_
              refine lv_iload hx hb dX5_works_154 (lv_at hl 2 rfl) ?_
              refine lv_dup2_11 hx hb dX5_works_156 rfl rfl ?_
              refine m_lald hx hb hK hV 1 (i := nI a) (x := (kW ν 8 a)) (a_m8 hM) rfl (vp_in_nI (by omega) (by omega)) (by rw [nI_clamp (by omega)] <;> first | rfl | (show oI (va_up _ _ _ _) = _; rw [vu_s] <;> rfl) | (show va_up _ _ _ _ = _; rw [vu_s] <;> rfl)) dX5_works_157 ?_
              refine lv_iload hx hb dX5_works_158 (lv_at hl 0 rfl) ?_
              refine lv_sipush (v := 2520) hx hb dX5_works_160 (by decide) ?_
              refine lv_aload_n hx hb dX5_works_163 rfl (lv_at hl 1 rfl) ?_
              refine m_get (C := RX5) (T := TX5) (N := 34) hx hb hts hi_X5 hown hK hV 7 (v := .ref (B 7)) (g_m7 hM) rfl (by decide) k26 (fun _ h9 => h9) dX5_works_164 ?_
              refine lv_iload hx hb dX5_works_167 (lv_at hl 2 rfl) ?_
              refine m_iald hx hb hK hV 0 (i := nI a) (x := (kI ν 7 a)) (a_m7 hM) rfl (vp_in_nI (by omega) (by omega)) (by rw [nI_clamp (by omega)] <;> first | rfl | (show oI (va_up _ _ _ _) = _; rw [vu_s] <;> rfl) | (show va_up _ _ _ _ = _; rw [vu_s] <;> rfl)) dX5_works_169 ?_
              refine lv_idiv hx hb dX5_works_170 (hg2 a (by omega) ha) ?_
              refine lv_imul hx hb dX5_works_171 ?_
              refine lv_i2l (v := (((wuM μ c9 t9) * (2520 / (kI ν 7 a)))).toInt64) hx hb dX5_works_172 rfl ?_
              refine lv_ladd hx hb dX5_works_173 ?_
              refine m_last hx hb hK hV hS 1 (i := nI a) (x := ((kW ν 8 a) + ((((wuM μ c9 t9) * (2520 / (kI ν 7 a)))).toInt64))) (q_m8 hM (by omega) ((kW ν 8 a) + ((((wuM μ c9 t9) * (2520 / (kI ν 7 a)))).toInt64))) rfl (vp_in_nI (by omega) (by omega)) dX5_works_174 (fun h H locs hV hS hM => ?_)
              refine lv_aload_n hx hb dX5_works_175 rfl (lv_at hl 1 rfl) ?_
              refine m_get (C := RX5) (T := TX5) (N := 34) hx hb hts hi_X5 hown hK hV 6 (v := .ref (B 6)) (g_m6 hM) rfl (by decide) k23 (fun _ h9 => h9) dX5_works_176 ?_
              refine lv_iload hx hb dX5_works_179 (lv_at hl 2 rfl) ?_
              refine m_iald hx hb hK hV 0 (i := nI a) (x := nI (kN ν 6 a)) (a_m6 hM) rfl (vp_in_nI (by omega) (by omega)) (by rw [nI_clamp (by omega)] <;> first | rfl | (show oI (va_up _ _ _ _) = _; rw [vu_s] <;> rfl) | (show va_up _ _ _ _ = _; rw [vu_s] <;> rfl)) dX5_works_181 ?_
              refine lv_istore (lv' := [(5, .int (nI (kN ν 6 a))), (4, .int (wuM μ c9 t9)), (0, .ref (B 100))]) hx hb dX5_works_182 hl (by decide) rfl (fun ls hl => ?_)
              refine lv_goto (tgt := 145) hx hb dX5_works_184 (by decide) ?_
              obtain ⟨f9, rfl⟩ : ∃ f9, f = f9 + 1 := ⟨f - 1, by omega⟩
              have z9 : kN ν 6 a < a := hM.wf.2.1 a (by omega) ha
              have w9 : upM (wuM μ c9 t9) f9 (kN ν 6 a) (sW ν 8 (va_up (kW ν 8) a ((kW ν 8 a) + ((((wuM μ c9 t9) * (2520 / (kI ν 7 a)))).toInt64)))) = wkM μ c9 t9 := by rw [← hf, upM, if_neg c147] <;> rfl
              exact ih145 f9 (kN ν 6 a) (sW ν 8 (va_up (kW ν 8) a ((kW ν 8 a) + ((((wuM μ c9 t9) * (2520 / (kI ν 7 a)))).toInt64)))) (by omega) (by show kN ν 6 a < kN ν 9 0; omega) hg2 w9 (by omega) _ _ _ hM hV hS ls (lv_sub hl [1, 2, 0] rfl)
        have q3 : (sW (sI (sI (sO (sI μ 27 (va_up (kI μ 27) 0 (wmM μ c9 t9))) 20 (va_up (kO (sI μ 27 (va_up (kI μ 27) 0 (wmM μ c9 t9))) 20) t9 (some c9))) 13 (va_up (kI (sO (sI μ 27 (va_up (kI μ 27) 0 (wmM μ c9 t9))) 20 (va_up (kO (sI μ 27 (va_up (kI μ 27) 0 (wmM μ c9 t9))) 20) t9 (some c9))) 13) t9 ((kI μ 13 t9) - (wuM μ c9 t9)))) 19 (va_up (kI (sI (sO (sI μ 27 (va_up (kI μ 27) 0 (wmM μ c9 t9))) 20 (va_up (kO (sI μ 27 (va_up (kI μ 27) 0 (wmM μ c9 t9))) 20) t9 (some c9))) 13 (va_up (kI (sO (sI μ 27 (va_up (kI μ 27) 0 (wmM μ c9 t9))) 20 (va_up (kO (sI μ 27 (va_up (kI μ 27) 0 (wmM μ c9 t9))) 20) t9 (some c9))) 13) t9 ((kI μ 13 t9) - (wuM μ c9 t9)))) 19) t9 ((kI μ 19 t9) + (wuM μ c9 t9)))) 12 (va_up (kW (sI (sI (sO (sI μ 27 (va_up (kI μ 27) 0 (wmM μ c9 t9))) 20 (va_up (kO (sI μ 27 (va_up (kI μ 27) 0 (wmM μ c9 t9))) 20) t9 (some c9))) 13 (va_up (kI (sO (sI μ 27 (va_up (kI μ 27) 0 (wmM μ c9 t9))) 20 (va_up (kO (sI μ 27 (va_up (kI μ 27) 0 (wmM μ c9 t9))) 20) t9 (some c9))) 13) t9 ((kI μ 13 t9) - (wuM μ c9 t9)))) 19 (va_up (kI (sI (sO (sI μ 27 (va_up (kI μ 27) 0 (wmM μ c9 t9))) 20 (va_up (kO (sI μ 27 (va_up (kI μ 27) 0 (wmM μ c9 t9))) 20) t9 (some c9))) 13 (va_up (kI (sO (sI μ 27 (va_up (kI μ 27) 0 (wmM μ c9 t9))) 20 (va_up (kO (sI μ 27 (va_up (kI μ 27) 0 (wmM μ c9 t9))) 20) t9 (some c9))) 13) t9 ((kI μ 13 t9) - (wuM μ c9 t9)))) 19) t9 ((kI μ 19 t9) + (wuM μ c9 t9)))) 12) t9 ((kW μ 12 t9) + ((((wuM μ c9 t9) * (2520 / (kI μ 11 t9)))).toInt64)))) = (w1M μ (wmM μ c9 t9) (wuM μ c9 t9) c9 t9) := rfl
        rw [q3] at hM
        exact lp145 ((kN μ 10 t9) + 1) 6 (kN μ 10 t9) (w1M μ (wmM μ c9 t9) (wuM μ c9 t9) c9 t9) (by have := y5 t9 ht9; omega) (y5 t9 ht9) hdI.2.1 rfl (Nat.lt_succ_self _) _ _ _ hM hV hS ls (lv_sub hl [1, 3, 0] rfl)
      · refine lv_iload hx hb dX5_works_54 (lv_at hl 0 rfl) ?_
        refine lv_goto (tgt := 65) hx hb dX5_works_56 (by decide) ?_
        refine lv_istore (lv' := [(4, .int (wvM μ c9 t9)), (3, .int 0), (0, .ref (B 100)), (1, .int (nI c9)), (2, .int (nI t9))]) hx hb dX5_works_65 hl (by decide) rfl (fun ls hl => ?_)
        have wu : wuM μ c9 t9 = (wvM μ c9 t9) := by unfold wuM; rw [if_neg c51]
        replace hl : lv_has ls 6 [(4, .int (wuM μ c9 t9)), (3, .int 0), (0, .ref (B 100)), (1, .int (nI c9)), (2, .int (nI t9))] := by have h9 := hl; rw [← wu] at h9; exact h9
        refine lv_aload_n hx hb dX5_works_67 rfl (lv_at hl 2 rfl) ?_
        refine lv_dup hx hb dX5_works_68 rfl ?_
        refine m_get (C := RX5) (T := TX5) (N := 34) hx hb hts hi_X5 hown hK hV 27 (v := .int (kI μ 27 0)) (by have z9 := g_m27 hM; exact z9) rfl (by decide) k205 (fun _ h9 => h9) dX5_works_69 ?_
        refine lv_iload_n hx hb dX5_works_72 rfl (lv_at hl 1 rfl) ?_
        refine lv_if_eq (tgt := 80) hx hb dX5_works_73 (by decide) (fun c73 => ?_) (fun c73 => (absurd (by decide) c73))
        refine lv_iconst (v := 0) hx hb dX5_works_80 (by decide) ?_
        refine lv_iadd hx hb dX5_works_81 ?_
        have wmm : wmM μ c9 t9 = ((kI μ 27 0) + 0) := by unfold wmM; rw [wm] <;> rfl
        refine m_topi (y := wmM μ c9 t9) (wmm.symm) ?_
        refine m_put (C := RX5) (T := TX5) (N := 34) (v := .int (wmM μ c9 t9)) hx hb hts hi_X5 tyX5 tyX5_ok nmX5 hown hK hV hS 27 (p_m27 hM (wmM μ c9 t9)) rfl (by decide) k205 (fun _ h9 => h9) rfl (tyX5_ok 27 (by decide)) rfl rfl dX5_works_82 (fun h H locs hV hS hM => ?_)
        refine lv_aload_n hx hb dX5_works_85 rfl (lv_at hl 2 rfl) ?_
        refine m_get (C := RX5) (T := TX5) (N := 34) hx hb hts hi_X5 hown hK hV 20 (v := .ref (B 20)) (g_m20 hM) rfl (by decide) k66 (fun _ h9 => h9) dX5_works_86 ?_
        refine lv_iload_n hx hb dX5_works_89 rfl (lv_at hl 4 rfl) ?_
        refine lv_iload_n hx hb dX5_works_90 rfl (lv_at hl 3 rfl) ?_
        refine m_iast hx hb hK hV hS 0 (i := nI t9) (x := oI (some c9)) (q_m20 hM (by omega) (some c9)) rfl (vp_in_nI (by omega) (by omega)) dX5_works_91 (fun h H locs hV hS hM => ?_)
        refine lv_aload_n hx hb dX5_works_92 rfl (lv_at hl 2 rfl) ?_
        refine m_get (C := RX5) (T := TX5) (N := 34) hx hb hts hi_X5 hown hK hV 13 (v := .ref (B 13)) (g_m13 hM) rfl (by decide) k45 (fun _ h9 => h9) dX5_works_93 ?_
        refine lv_iload_n hx hb dX5_works_96 rfl (lv_at hl 4 rfl) ?_
        refine lv_dup2_11 hx hb dX5_works_97 rfl rfl ?_
        refine m_iald hx hb hK hV 0 (i := nI t9) (x := (kI μ 13 t9)) (a_m13 hM) rfl (vp_in_nI (by omega) (by omega)) (by rw [nI_clamp (by omega)] <;> first | rfl | (show oI (va_up _ _ _ _) = _; rw [vu_s] <;> rfl) | (show va_up _ _ _ _ = _; rw [vu_s] <;> rfl)) dX5_works_98 ?_
        refine lv_iload hx hb dX5_works_99 (lv_at hl 0 rfl) ?_
        refine lv_isub hx hb dX5_works_101 ?_
        refine m_iast hx hb hK hV hS 0 (i := nI t9) (x := ((kI μ 13 t9) - (wuM μ c9 t9))) (q_m13 hM (by omega) ((kI μ 13 t9) - (wuM μ c9 t9))) rfl (vp_in_nI (by omega) (by omega)) dX5_works_102 (fun h H locs hV hS hM => ?_)
        refine lv_aload_n hx hb dX5_works_103 rfl (lv_at hl 2 rfl) ?_
        refine m_get (C := RX5) (T := TX5) (N := 34) hx hb hts hi_X5 hown hK hV 19 (v := .ref (B 19)) (g_m19 hM) rfl (by decide) k63 (fun _ h9 => h9) dX5_works_104 ?_
        refine lv_iload_n hx hb dX5_works_107 rfl (lv_at hl 4 rfl) ?_
        refine lv_dup2_11 hx hb dX5_works_108 rfl rfl ?_
        refine m_iald hx hb hK hV 0 (i := nI t9) (x := (kI μ 19 t9)) (a_m19 hM) rfl (vp_in_nI (by omega) (by omega)) (by rw [nI_clamp (by omega)] <;> first | rfl | (show oI (va_up _ _ _ _) = _; rw [vu_s] <;> rfl) | (show va_up _ _ _ _ = _; rw [vu_s] <;> rfl)) dX5_works_109 ?_
        refine lv_iload hx hb dX5_works_110 (lv_at hl 0 rfl) ?_
        refine lv_iadd hx hb dX5_works_112 ?_
        refine m_iast hx hb hK hV hS 0 (i := nI t9) (x := ((kI μ 19 t9) + (wuM μ c9 t9))) (q_m19 hM (by omega) ((kI μ 19 t9) + (wuM μ c9 t9))) rfl (vp_in_nI (by omega) (by omega)) dX5_works_113 (fun h H locs hV hS hM => ?_)
        refine lv_aload_n hx hb dX5_works_114 rfl (lv_at hl 2 rfl) ?_
        refine m_get (C := RX5) (T := TX5) (N := 34) hx hb hts hi_X5 hown hK hV 12 (v := .ref (B 12)) (g_m12 hM) rfl (by decide) k42 (fun _ h9 => h9) dX5_works_115 ?_
        refine lv_iload_n hx hb dX5_works_118 rfl (lv_at hl 4 rfl) ?_
        refine lv_dup2_11 hx hb dX5_works_119 rfl rfl ?_
        refine m_lald hx hb hK hV 1 (i := nI t9) (x := (kW μ 12 t9)) (a_m12 hM) rfl (vp_in_nI (by omega) (by omega)) (by rw [nI_clamp (by omega)] <;> first | rfl | (show oI (va_up _ _ _ _) = _; rw [vu_s] <;> rfl) | (show va_up _ _ _ _ = _; rw [vu_s] <;> rfl)) dX5_works_120 ?_
        refine lv_iload hx hb dX5_works_121 (lv_at hl 0 rfl) ?_
        refine lv_sipush (v := 2520) hx hb dX5_works_123 (by decide) ?_
        refine lv_aload_n hx hb dX5_works_126 rfl (lv_at hl 2 rfl) ?_
        refine m_get (C := RX5) (T := TX5) (N := 34) hx hb hts hi_X5 hown hK hV 11 (v := .ref (B 11)) (g_m11 hM) rfl (by decide) k39 (fun _ h9 => h9) dX5_works_127 ?_
        refine lv_iload_n hx hb dX5_works_130 rfl (lv_at hl 4 rfl) ?_
        refine m_iald hx hb hK hV 0 (i := nI t9) (x := (kI μ 11 t9)) (a_m11 hM) rfl (vp_in_nI (by omega) (by omega)) (by rw [nI_clamp (by omega)] <;> first | rfl | (show oI (va_up _ _ _ _) = _; rw [vu_s] <;> rfl) | (show va_up _ _ _ _ = _; rw [vu_s] <;> rfl)) dX5_works_131 ?_
        refine lv_idiv hx hb dX5_works_132 (hdI.1 t9 ht9) ?_
        refine lv_imul hx hb dX5_works_133 ?_
        refine lv_i2l (v := (((wuM μ c9 t9) * (2520 / (kI μ 11 t9)))).toInt64) hx hb dX5_works_134 rfl ?_
        refine lv_ladd hx hb dX5_works_135 ?_
        refine m_last hx hb hK hV hS 1 (i := nI t9) (x := ((kW μ 12 t9) + ((((wuM μ c9 t9) * (2520 / (kI μ 11 t9)))).toInt64))) (q_m12 hM (by omega) ((kW μ 12 t9) + ((((wuM μ c9 t9) * (2520 / (kI μ 11 t9)))).toInt64))) rfl (vp_in_nI (by omega) (by omega)) dX5_works_136 (fun h H locs hV hS hM => ?_)
        refine lv_aload_n hx hb dX5_works_137 rfl (lv_at hl 2 rfl) ?_
        refine m_get (C := RX5) (T := TX5) (N := 34) hx hb hts hi_X5 hown hK hV 10 (v := .ref (B 10)) (g_m10 hM) rfl (by decide) k36 (fun _ h9 => h9) dX5_works_138 ?_
        refine lv_iload_n hx hb dX5_works_141 rfl (lv_at hl 4 rfl) ?_
        refine m_iald hx hb hK hV 0 (i := nI t9) (x := nI (kN μ 10 t9)) (a_m10 hM) rfl (vp_in_nI (by omega) (by omega)) (by rw [nI_clamp (by omega)] <;> first | rfl | (show oI (va_up _ _ _ _) = _; rw [vu_s] <;> rfl) | (show va_up _ _ _ _ = _; rw [vu_s] <;> rfl)) dX5_works_142 ?_
        refine lv_istore (lv' := [(5, .int (nI (kN μ 10 t9))), (4, .int (wuM μ c9 t9)), (3, .int 0), (0, .ref (B 100)), (1, .int (nI c9)), (2, .int (nI t9))]) hx hb dX5_works_143 hl (by decide) rfl (fun ls hl => ?_)
        have lp145 : ∀ (fu : Nat) (f : Nat) (a : Nat) (ν : KS), (a ≤ f) → (a < kN ν 9 0) → (∀ g, 0 < g → g < kN ν 9 0 → ¬ kI ν 7 g = 0) → (upM (wuM μ c9 t9) f a ν = wkM μ c9 t9) → a < fu → ∀ (h : mH) (H : Heap) (locs : List Loc), DRep cs P h0 B (ν) h → mV D h (mA hh s.heap.size) H → va_S (mA hh s.heap.size) s.heap H locs → ∀ (ls : Array Slot), lv_has ls 6 [(4, .int (wuM μ c9 t9)), (0, .ref (B 100)), (5, .int (nI a))] → W p l e ({ frames := 1, cells := 0, slots := 0, locals := 21 } : Room) s m args below meth c H locs 0 0 (MQ below (va_Qi ((fun (r : Int32) (h1 : mH) => DRep cs P h0 B (wkM μ c9 t9) h1 ∧ r = (wuM μ c9 t9))) (mB D hh s.heap.size) (mA hh s.heap.size)) args s 0 0 (mA hh s.heap.size)) (F0 m 145 ls []) := by
          intro fu
          induction fu with
          | zero =>
            intro f a ν hm ha hg2 hf hfu
            exact absurd hfu (Nat.not_lt_zero _)
          | succ fu ih145 =>
            intro f a ν hm ha hg2 hf hfu h H locs hM hV hS ls hl
            have v2 := hM.wf.1.2.2.1
            refine lv_iload hx hb dX5_works_145 (lv_at hl 2 rfl) ?_
            refine lv_if_eq (tgt := 187) hx hb dX5_works_147 (by decide) (fun c147 => ?_) (fun c147 => ?_)
            · replace c147 : a = 0 := (nI_eq (a := a) (b := 0) (by omega) (by omega)).mp c147
              refine lv_iload hx hb dX5_works_187 (lv_at hl 0 rfl) ?_
              exact m_iret (v := (wuM μ c9 t9)) hx hb hr hlocks hV hS (⟨(by rw [c147, upM_z] at hf; rw [← hf]; exact hM), rfl⟩) dX5_works_189
            · replace c147 : ¬ a = 0 := fun q9 => c147 ((nI_eq (a := a) (b := 0) (by omega) (by omega)).mpr q9)
              refine lv_aload_n hx hb dX5_works_150 rfl (lv_at hl 1 rfl) ?_
              refine m_get (C := RX5) (T := TX5) (N := 34) hx hb hts hi_X5 hown hK hV 8 (v := .ref (B 8)) (g_m8 hM) rfl (by decide) k29 (fun _ h9 => h9) dX5_works_151 ?_
              refine lv_iload hx hb dX5_works_154 (lv_at hl 2 rfl) ?_
              refine lv_dup2_11 hx hb dX5_works_156 rfl rfl ?_
              refine m_lald hx hb hK hV 1 (i := nI a) (x := (kW ν 8 a)) (a_m8 hM) rfl (vp_in_nI (by omega) (by omega)) (by rw [nI_clamp (by omega)] <;> first | rfl | (show oI (va_up _ _ _ _) = _; rw [vu_s] <;> rfl) | (show va_up _ _ _ _ = _; rw [vu_s] <;> rfl)) dX5_works_157 ?_
              refine lv_iload hx hb dX5_works_158 (lv_at hl 0 rfl) ?_
              refine lv_sipush (v := 2520) hx hb dX5_works_160 (by decide) ?_
              refine lv_aload_n hx hb dX5_works_163 rfl (lv_at hl 1 rfl) ?_
              refine m_get (C := RX5) (T := TX5) (N := 34) hx hb hts hi_X5 hown hK hV 7 (v := .ref (B 7)) (g_m7 hM) rfl (by decide) k26 (fun _ h9 => h9) dX5_works_164 ?_
              refine lv_iload hx hb dX5_works_167 (lv_at hl 2 rfl) ?_
              refine m_iald hx hb hK hV 0 (i := nI a) (x := (kI ν 7 a)) (a_m7 hM) rfl (vp_in_nI (by omega) (by omega)) (by rw [nI_clamp (by omega)] <;> first | rfl | (show oI (va_up _ _ _ _) = _; rw [vu_s] <;> rfl) | (show va_up _ _ _ _ = _; rw [vu_s] <;> rfl)) dX5_works_169 ?_
              refine lv_idiv hx hb dX5_works_170 (hg2 a (by omega) ha) ?_
              refine lv_imul hx hb dX5_works_171 ?_
              refine lv_i2l (v := (((wuM μ c9 t9) * (2520 / (kI ν 7 a)))).toInt64) hx hb dX5_works_172 rfl ?_
              refine lv_ladd hx hb dX5_works_173 ?_
              refine m_last hx hb hK hV hS 1 (i := nI a) (x := ((kW ν 8 a) + ((((wuM μ c9 t9) * (2520 / (kI ν 7 a)))).toInt64))) (q_m8 hM (by omega) ((kW ν 8 a) + ((((wuM μ c9 t9) * (2520 / (kI ν 7 a)))).toInt64))) rfl (vp_in_nI (by omega) (by omega)) dX5_works_174 (fun h H locs hV hS hM => ?_)
              refine lv_aload_n hx hb dX5_works_175 rfl (lv_at hl 1 rfl) ?_
              refine m_get (C := RX5) (T := TX5) (N := 34) hx hb hts hi_X5 hown hK hV 6 (v := .ref (B 6)) (g_m6 hM) rfl (by decide) k23 (fun _ h9 => h9) dX5_works_176 ?_
              refine lv_iload hx hb dX5_works_179 (lv_at hl 2 rfl) ?_
              refine m_iald hx hb hK hV 0 (i := nI a) (x := nI (kN ν 6 a)) (a_m6 hM) rfl (vp_in_nI (by omega) (by omega)) (by rw [nI_clamp (by omega)] <;> first | rfl | (show oI (va_up _ _ _ _) = _; rw [vu_s] <;> rfl) | (show va_up _ _ _ _ = _; rw [vu_s] <;> rfl)) dX5_works_181 ?_
              refine lv_istore (lv' := [(5, .int (nI (kN ν 6 a))), (4, .int (wuM μ c9 t9)), (0, .ref (B 100))]) hx hb dX5_works_182 hl (by decide) rfl (fun ls hl => ?_)
              refine lv_goto (tgt := 145) hx hb dX5_works_184 (by decide) ?_
              obtain ⟨f9, rfl⟩ : ∃ f9, f = f9 + 1 := ⟨f - 1, by omega⟩
              have z9 : kN ν 6 a < a := hM.wf.2.1 a (by omega) ha
              have w9 : upM (wuM μ c9 t9) f9 (kN ν 6 a) (sW ν 8 (va_up (kW ν 8) a ((kW ν 8 a) + ((((wuM μ c9 t9) * (2520 / (kI ν 7 a)))).toInt64)))) = wkM μ c9 t9 := by rw [← hf, upM, if_neg c147] <;> rfl
              exact ih145 f9 (kN ν 6 a) (sW ν 8 (va_up (kW ν 8) a ((kW ν 8 a) + ((((wuM μ c9 t9) * (2520 / (kI ν 7 a)))).toInt64)))) (by omega) (by show kN ν 6 a < kN ν 9 0; omega) hg2 w9 (by omega) _ _ _ hM hV hS ls (lv_sub hl [1, 2, 0] rfl)
        have q4 : (sW (sI (sI (sO (sI μ 27 (va_up (kI μ 27) 0 (wmM μ c9 t9))) 20 (va_up (kO (sI μ 27 (va_up (kI μ 27) 0 (wmM μ c9 t9))) 20) t9 (some c9))) 13 (va_up (kI (sO (sI μ 27 (va_up (kI μ 27) 0 (wmM μ c9 t9))) 20 (va_up (kO (sI μ 27 (va_up (kI μ 27) 0 (wmM μ c9 t9))) 20) t9 (some c9))) 13) t9 ((kI μ 13 t9) - (wuM μ c9 t9)))) 19 (va_up (kI (sI (sO (sI μ 27 (va_up (kI μ 27) 0 (wmM μ c9 t9))) 20 (va_up (kO (sI μ 27 (va_up (kI μ 27) 0 (wmM μ c9 t9))) 20) t9 (some c9))) 13 (va_up (kI (sO (sI μ 27 (va_up (kI μ 27) 0 (wmM μ c9 t9))) 20 (va_up (kO (sI μ 27 (va_up (kI μ 27) 0 (wmM μ c9 t9))) 20) t9 (some c9))) 13) t9 ((kI μ 13 t9) - (wuM μ c9 t9)))) 19) t9 ((kI μ 19 t9) + (wuM μ c9 t9)))) 12 (va_up (kW (sI (sI (sO (sI μ 27 (va_up (kI μ 27) 0 (wmM μ c9 t9))) 20 (va_up (kO (sI μ 27 (va_up (kI μ 27) 0 (wmM μ c9 t9))) 20) t9 (some c9))) 13 (va_up (kI (sO (sI μ 27 (va_up (kI μ 27) 0 (wmM μ c9 t9))) 20 (va_up (kO (sI μ 27 (va_up (kI μ 27) 0 (wmM μ c9 t9))) 20) t9 (some c9))) 13) t9 ((kI μ 13 t9) - (wuM μ c9 t9)))) 19 (va_up (kI (sI (sO (sI μ 27 (va_up (kI μ 27) 0 (wmM μ c9 t9))) 20 (va_up (kO (sI μ 27 (va_up (kI μ 27) 0 (wmM μ c9 t9))) 20) t9 (some c9))) 13 (va_up (kI (sO (sI μ 27 (va_up (kI μ 27) 0 (wmM μ c9 t9))) 20 (va_up (kO (sI μ 27 (va_up (kI μ 27) 0 (wmM μ c9 t9))) 20) t9 (some c9))) 13) t9 ((kI μ 13 t9) - (wuM μ c9 t9)))) 19) t9 ((kI μ 19 t9) + (wuM μ c9 t9)))) 12) t9 ((kW μ 12 t9) + ((((wuM μ c9 t9) * (2520 / (kI μ 11 t9)))).toInt64)))) = (w1M μ (wmM μ c9 t9) (wuM μ c9 t9) c9 t9) := rfl
        rw [q4] at hM
        exact lp145 ((kN μ 10 t9) + 1) 6 (kN μ 10 t9) (w1M μ (wmM μ c9 t9) (wuM μ c9 t9) c9 t9) (by have := y5 t9 ht9; omega) (y5 t9 ht9) hdI.2.1 rfl (Nat.lt_succ_self _) _ _ _ hM hV hS ls (lv_sub hl [1, 3, 0] rfl)
    · replace c17 : ¬ k7 = c9 := fun q9 => c17 ((nI_eq (a := k7) (b := c9) (by omega) (by omega)).mpr q9)
      refine lv_iconst (v := 1) hx hb dX5_works_20 (by decide) ?_
      refine lv_goto (tgt := 25) hx hb dX5_works_21 (by decide) ?_
      have wm : mvM μ c9 t9 = true := by unfold mvM; rw [c7]; exact decide_eq_true c17
      refine lv_istore_n (lv' := [(3, .int 1), (0, .ref (B 100)), (1, .int (nI c9)), (2, .int (nI t9))]) hx hb dX5_works_25 rfl hl (by decide) rfl (fun ls hl => ?_)
      refine lv_aload_n hx hb dX5_works_26 rfl (lv_at hl 1 rfl) ?_
      refine lv_iload_n hx hb dX5_works_27 rfl (lv_at hl 2 rfl) ?_
      refine m_calli (va_runV (As := [.int (nI c9)]) (rest := []) ⟨hx, hb, hml, hown, hts⟩ (c_X5_paceOf (l := l) (s.heap.size) hM c9 (by first | assumption | omega)) (cwV 1 hts gX5_works_X5_paceOf rfl rfl rfl (by decide +kernel) ⟨by decide, by decide⟩) (m_preV (r := (RX5, TX5, 34)) hE hV hS hA (hM.at 100 (by decide)) rfl) rfl rfl hl.1 rfl (lv_room (by first | exact Nat.le_of_ble_eq_true rfl | simp [rf_cat, ct_ref, ct_int, ct_null, ct_long])) dX5_works_28 ⟨by decide, by decide⟩) hV hS hA (fun r h1 H locs hV hS hp _ => ?_)
      obtain ⟨e1, e2⟩ := hp
      subst e2
      rw [e1] at hV; clear e1
      refine lv_iload_n hx hb dX5_works_31 rfl (lv_at hl 0 rfl) ?_
      refine lv_if_eq (tgt := 39) hx hb dX5_works_32 (by decide) (fun c32 => (absurd c32 (by decide))) (fun c32 => ?_)
      refine lv_iconst (v := 1) hx hb dX5_works_35 (by decide) ?_
      refine lv_goto (tgt := 40) hx hb dX5_works_36 (by decide) ?_
      refine lv_isub hx hb dX5_works_40 ?_
      refine lv_istore (lv' := [(4, .int ((paM μ c9) - 1)), (3, .int 1), (0, .ref (B 100)), (1, .int (nI c9)), (2, .int (nI t9))]) hx hb dX5_works_41 hl (by decide) rfl (fun ls hl => ?_)
      have wv : wvM μ c9 t9 = ((paM μ c9) - 1) := by unfold wvM; rw [wm] <;> rfl
      replace hl : lv_has ls 6 [(4, .int (wvM μ c9 t9)), (3, .int 1), (0, .ref (B 100)), (1, .int (nI c9)), (2, .int (nI t9))] := by have h9 := hl; rw [← wv] at h9; exact h9
      refine lv_iload hx hb dX5_works_43 (lv_at hl 0 rfl) ?_
      refine lv_aload_n hx hb dX5_works_45 rfl (lv_at hl 2 rfl) ?_
      refine m_get (C := RX5) (T := TX5) (N := 34) hx hb hts hi_X5 hown hK hV 13 (v := .ref (B 13)) (g_m13 hM) rfl (by decide) k45 (fun _ h9 => h9) dX5_works_46 ?_
      refine lv_iload_n hx hb dX5_works_49 rfl (lv_at hl 4 rfl) ?_
      refine m_iald hx hb hK hV 0 (i := nI t9) (x := (kI μ 13 t9)) (a_m13 hM) rfl (vp_in_nI (by omega) (by omega)) (by rw [nI_clamp (by omega)] <;> first | rfl | (show oI (va_up _ _ _ _) = _; rw [vu_s] <;> rfl) | (show va_up _ _ _ _ = _; rw [vu_s] <;> rfl)) dX5_works_50 ?_
      refine lv_icmp_ge (tgt := 59) hx hb dX5_works_51 (by decide) (fun c51 => ?_) (fun c51 => ?_)
      · refine lv_aload_n hx hb dX5_works_59 rfl (lv_at hl 2 rfl) ?_
        refine m_get (C := RX5) (T := TX5) (N := 34) hx hb hts hi_X5 hown hK hV 13 (v := .ref (B 13)) (g_m13 hM) rfl (by decide) k45 (fun _ h9 => h9) dX5_works_60 ?_
        refine lv_iload_n hx hb dX5_works_63 rfl (lv_at hl 4 rfl) ?_
        refine m_iald hx hb hK hV 0 (i := nI t9) (x := (kI μ 13 t9)) (a_m13 hM) rfl (vp_in_nI (by omega) (by omega)) (by rw [nI_clamp (by omega)] <;> first | rfl | (show oI (va_up _ _ _ _) = _; rw [vu_s] <;> rfl) | (show va_up _ _ _ _ = _; rw [vu_s] <;> rfl)) dX5_works_64 ?_
        refine lv_istore (lv' := [(4, .int (kI μ 13 t9)), (3, .int 1), (0, .ref (B 100)), (1, .int (nI c9)), (2, .int (nI t9))]) hx hb dX5_works_65 hl (by decide) rfl (fun ls hl => ?_)
        have wu : wuM μ c9 t9 = (kI μ 13 t9) := by unfold wuM; rw [if_pos c51]
        replace hl : lv_has ls 6 [(4, .int (wuM μ c9 t9)), (3, .int 1), (0, .ref (B 100)), (1, .int (nI c9)), (2, .int (nI t9))] := by have h9 := hl; rw [← wu] at h9; exact h9
        refine lv_aload_n hx hb dX5_works_67 rfl (lv_at hl 2 rfl) ?_
        refine lv_dup hx hb dX5_works_68 rfl ?_
        refine m_get (C := RX5) (T := TX5) (N := 34) hx hb hts hi_X5 hown hK hV 27 (v := .int (kI μ 27 0)) (by have z9 := g_m27 hM; exact z9) rfl (by decide) k205 (fun _ h9 => h9) dX5_works_69 ?_
        refine lv_iload_n hx hb dX5_works_72 rfl (lv_at hl 1 rfl) ?_
        refine lv_if_eq (tgt := 80) hx hb dX5_works_73 (by decide) (fun c73 => (absurd c73 (by decide))) (fun c73 => ?_)
        refine lv_iconst (v := 1) hx hb dX5_works_76 (by decide) ?_
        refine lv_goto (tgt := 81) hx hb dX5_works_77 (by decide) ?_
        refine lv_iadd hx hb dX5_works_81 ?_
        have wmm : wmM μ c9 t9 = ((kI μ 27 0) + 1) := by unfold wmM; rw [wm] <;> rfl
        refine m_topi (y := wmM μ c9 t9) (wmm.symm) ?_
        refine m_put (C := RX5) (T := TX5) (N := 34) (v := .int (wmM μ c9 t9)) hx hb hts hi_X5 tyX5 tyX5_ok nmX5 hown hK hV hS 27 (p_m27 hM (wmM μ c9 t9)) rfl (by decide) k205 (fun _ h9 => h9) rfl (tyX5_ok 27 (by decide)) rfl rfl dX5_works_82 (fun h H locs hV hS hM => ?_)
        refine lv_aload_n hx hb dX5_works_85 rfl (lv_at hl 2 rfl) ?_
        refine m_get (C := RX5) (T := TX5) (N := 34) hx hb hts hi_X5 hown hK hV 20 (v := .ref (B 20)) (g_m20 hM) rfl (by decide) k66 (fun _ h9 => h9) dX5_works_86 ?_
        refine lv_iload_n hx hb dX5_works_89 rfl (lv_at hl 4 rfl) ?_
        refine lv_iload_n hx hb dX5_works_90 rfl (lv_at hl 3 rfl) ?_
        refine m_iast hx hb hK hV hS 0 (i := nI t9) (x := oI (some c9)) (q_m20 hM (by omega) (some c9)) rfl (vp_in_nI (by omega) (by omega)) dX5_works_91 (fun h H locs hV hS hM => ?_)
        refine lv_aload_n hx hb dX5_works_92 rfl (lv_at hl 2 rfl) ?_
        refine m_get (C := RX5) (T := TX5) (N := 34) hx hb hts hi_X5 hown hK hV 13 (v := .ref (B 13)) (g_m13 hM) rfl (by decide) k45 (fun _ h9 => h9) dX5_works_93 ?_
        refine lv_iload_n hx hb dX5_works_96 rfl (lv_at hl 4 rfl) ?_
        refine lv_dup2_11 hx hb dX5_works_97 rfl rfl ?_
        refine m_iald hx hb hK hV 0 (i := nI t9) (x := (kI μ 13 t9)) (a_m13 hM) rfl (vp_in_nI (by omega) (by omega)) (by rw [nI_clamp (by omega)] <;> first | rfl | (show oI (va_up _ _ _ _) = _; rw [vu_s] <;> rfl) | (show va_up _ _ _ _ = _; rw [vu_s] <;> rfl)) dX5_works_98 ?_
        refine lv_iload hx hb dX5_works_99 (lv_at hl 0 rfl) ?_
        refine lv_isub hx hb dX5_works_101 ?_
        refine m_iast hx hb hK hV hS 0 (i := nI t9) (x := ((kI μ 13 t9) - (wuM μ c9 t9))) (q_m13 hM (by omega) ((kI μ 13 t9) - (wuM μ c9 t9))) rfl (vp_in_nI (by omega) (by omega)) dX5_works_102 (fun h H locs hV hS hM => ?_)
        refine lv_aload_n hx hb dX5_works_103 rfl (lv_at hl 2 rfl) ?_
        refine m_get (C := RX5) (T := TX5) (N := 34) hx hb hts hi_X5 hown hK hV 19 (v := .ref (B 19)) (g_m19 hM) rfl (by decide) k63 (fun _ h9 => h9) dX5_works_104 ?_
        refine lv_iload_n hx hb dX5_works_107 rfl (lv_at hl 4 rfl) ?_
        refine lv_dup2_11 hx hb dX5_works_108 rfl rfl ?_
        refine m_iald hx hb hK hV 0 (i := nI t9) (x := (kI μ 19 t9)) (a_m19 hM) rfl (vp_in_nI (by omega) (by omega)) (by rw [nI_clamp (by omega)] <;> first | rfl | (show oI (va_up _ _ _ _) = _; rw [vu_s] <;> rfl) | (show va_up _ _ _ _ = _; rw [vu_s] <;> rfl)) dX5_works_109 ?_
        refine lv_iload hx hb dX5_works_110 (lv_at hl 0 rfl) ?_
        refine lv_iadd hx hb dX5_works_112 ?_
        refine m_iast hx hb hK hV hS 0 (i := nI t9) (x := ((kI μ 19 t9) + (wuM μ c9 t9))) (q_m19 hM (by omega) ((kI μ 19 t9) + (wuM μ c9 t9))) rfl (vp_in_nI (by omega) (by omega)) dX5_works_113 (fun h H locs hV hS hM => ?_)
        refine lv_aload_n hx hb dX5_works_114 rfl (lv_at hl 2 rfl) ?_
        refine m_get (C := RX5) (T := TX5) (N := 34) hx hb hts hi_X5 hown hK hV 12 (v := .ref (B 12)) (g_m12 hM) rfl (by decide) k42 (fun _ h9 => h9) dX5_works_115 ?_
        refine lv_iload_n hx hb dX5_works_118 rfl (lv_at hl 4 rfl) ?_
        refine lv_dup2_11 hx hb dX5_works_119 rfl rfl ?_
        refine m_lald hx hb hK hV 1 (i := nI t9) (x := (kW μ 12 t9)) (a_m12 hM) rfl (vp_in_nI (by omega) (by omega)) (by rw [nI_clamp (by omega)] <;> first | rfl | (show oI (va_up _ _ _ _) = _; rw [vu_s] <;> rfl) | (show va_up _ _ _ _ = _; rw [vu_s] <;> rfl)) dX5_works_120 ?_
        refine lv_iload hx hb dX5_works_121 (lv_at hl 0 rfl) ?_
        refine lv_sipush (v := 2520) hx hb dX5_works_123 (by decide) ?_
        refine lv_aload_n hx hb dX5_works_126 rfl (lv_at hl 2 rfl) ?_
        refine m_get (C := RX5) (T := TX5) (N := 34) hx hb hts hi_X5 hown hK hV 11 (v := .ref (B 11)) (g_m11 hM) rfl (by decide) k39 (fun _ h9 => h9) dX5_works_127 ?_
        refine lv_iload_n hx hb dX5_works_130 rfl (lv_at hl 4 rfl) ?_
        refine m_iald hx hb hK hV 0 (i := nI t9) (x := (kI μ 11 t9)) (a_m11 hM) rfl (vp_in_nI (by omega) (by omega)) (by rw [nI_clamp (by omega)] <;> first | rfl | (show oI (va_up _ _ _ _) = _; rw [vu_s] <;> rfl) | (show va_up _ _ _ _ = _; rw [vu_s] <;> rfl)) dX5_works_131 ?_
        refine lv_idiv hx hb dX5_works_132 (hdI.1 t9 ht9) ?_
        refine lv_imul hx hb dX5_works_133 ?_
        refine lv_i2l (v := (((wuM μ c9 t9) * (2520 / (kI μ 11 t9)))).toInt64) hx hb dX5_works_134 rfl ?_
        refine lv_ladd hx hb dX5_works_135 ?_
        refine m_last hx hb hK hV hS 1 (i := nI t9) (x := ((kW μ 12 t9) + ((((wuM μ c9 t9) * (2520 / (kI μ 11 t9)))).toInt64))) (q_m12 hM (by omega) ((kW μ 12 t9) + ((((wuM μ c9 t9) * (2520 / (kI μ 11 t9)))).toInt64))) rfl (vp_in_nI (by omega) (by omega)) dX5_works_136 (fun h H locs hV hS hM => ?_)
        refine lv_aload_n hx hb dX5_works_137 rfl (lv_at hl 2 rfl) ?_
        refine m_get (C := RX5) (T := TX5) (N := 34) hx hb hts hi_X5 hown hK hV 10 (v := .ref (B 10)) (g_m10 hM) rfl (by decide) k36 (fun _ h9 => h9) dX5_works_138 ?_
        refine lv_iload_n hx hb dX5_works_141 rfl (lv_at hl 4 rfl) ?_
        refine m_iald hx hb hK hV 0 (i := nI t9) (x := nI (kN μ 10 t9)) (a_m10 hM) rfl (vp_in_nI (by omega) (by omega)) (by rw [nI_clamp (by omega)] <;> first | rfl | (show oI (va_up _ _ _ _) = _; rw [vu_s] <;> rfl) | (show va_up _ _ _ _ = _; rw [vu_s] <;> rfl)) dX5_works_142 ?_
        refine lv_istore (lv' := [(5, .int (nI (kN μ 10 t9))), (4, .int (wuM μ c9 t9)), (3, .int 1), (0, .ref (B 100)), (1, .int (nI c9)), (2, .int (nI t9))]) hx hb dX5_works_143 hl (by decide) rfl (fun ls hl => ?_)
        have lp145 : ∀ (fu : Nat) (f : Nat) (a : Nat) (ν : KS), (a ≤ f) → (a < kN ν 9 0) → (∀ g, 0 < g → g < kN ν 9 0 → ¬ kI ν 7 g = 0) → (upM (wuM μ c9 t9) f a ν = wkM μ c9 t9) → a < fu → ∀ (h : mH) (H : Heap) (locs : List Loc), DRep cs P h0 B (ν) h → mV D h (mA hh s.heap.size) H → va_S (mA hh s.heap.size) s.heap H locs → ∀ (ls : Array Slot), lv_has ls 6 [(4, .int (wuM μ c9 t9)), (0, .ref (B 100)), (5, .int (nI a))] → W p l e ({ frames := 1, cells := 0, slots := 0, locals := 21 } : Room) s m args below meth c H locs 0 0 (MQ below (va_Qi ((fun (r : Int32) (h1 : mH) => DRep cs P h0 B (wkM μ c9 t9) h1 ∧ r = (wuM μ c9 t9))) (mB D hh s.heap.size) (mA hh s.heap.size)) args s 0 0 (mA hh s.heap.size)) (F0 m 145 ls []) := by
          intro fu
          induction fu with
          | zero =>
            intro f a ν hm ha hg2 hf hfu
            exact absurd hfu (Nat.not_lt_zero _)
          | succ fu ih145 =>
            intro f a ν hm ha hg2 hf hfu h H locs hM hV hS ls hl
            have v2 := hM.wf.1.2.2.1
            refine lv_iload hx hb dX5_works_145 (lv_at hl 2 rfl) ?_
            refine lv_if_eq (tgt := 187) hx hb dX5_works_147 (by decide) (fun c147 => ?_) (fun c147 => ?_)
            · replace c147 : a = 0 := (nI_eq (a := a) (b := 0) (by omega) (by omega)).mp c147
              refine lv_iload hx hb dX5_works_187 (lv_at hl 0 rfl) ?_
              exact m_iret (v := (wuM μ c9 t9)) hx hb hr hlocks hV hS (⟨(by rw [c147, upM_z] at hf; rw [← hf]; exact hM), rfl⟩) dX5_works_189
            · replace c147 : ¬ a = 0 := fun q9 => c147 ((nI_eq (a := a) (b := 0) (by omega) (by omega)).mpr q9)
              refine lv_aload_n hx hb dX5_works_150 rfl (lv_at hl 1 rfl) ?_
              refine m_get (C := RX5) (T := TX5) (N := 34) hx hb hts hi_X5 hown hK hV 8 (v := .ref (B 8)) (g_m8 hM) rfl (by decide) k29 (fun _ h9 => h9) dX5_works_151 ?_
              refine lv_iload hx hb dX5_works_154 (lv_at hl 2 rfl) ?_
              refine lv_dup2_11 hx hb dX5_works_156 rfl rfl ?_
              refine m_lald hx hb hK hV 1 (i := nI a) (x := (kW ν 8 a)) (a_m8 hM) rfl (vp_in_nI (by omega) (by omega)) (by rw [nI_clamp (by omega)] <;> first | rfl | (show oI (va_up _ _ _ _) = _; rw [vu_s] <;> rfl) | (show va_up _ _ _ _ = _; rw [vu_s] <;> rfl)) dX5_works_157 ?_
              refine lv_iload hx hb dX5_works_158 (lv_at hl 0 rfl) ?_
              refine lv_sipush (v := 2520) hx hb dX5_works_160 (by decide) ?_
              refine lv_aload_n hx hb dX5_works_163 rfl (lv_at hl 1 rfl) ?_
              refine m_get (C := RX5) (T := TX5) (N := 34) hx hb hts hi_X5 hown hK hV 7 (v := .ref (B 7)) (g_m7 hM) rfl (by decide) k26 (fun _ h9 => h9) dX5_works_164 ?_
              refine lv_iload hx hb dX5_works_167 (lv_at hl 2 rfl) ?_
              refine m_iald hx hb hK hV 0 (i := nI a) (x := (kI ν 7 a)) (a_m7 hM) rfl (vp_in_nI (by omega) (by omega)) (by rw [nI_clamp (by omega)] <;> first | rfl | (show oI (va_up _ _ _ _) = _; rw [vu_s] <;> rfl) | (show va_up _ _ _ _ = _; rw [vu_s] <;> rfl)) dX5_works_169 ?_
              refine lv_idiv hx hb dX5_works_170 (hg2 a (by omega) ha) ?_
              refine lv_imul hx hb dX5_works_171 ?_
              refine lv_i2l (v := (((wuM μ c9 t9) * (2520 / (kI ν 7 a)))).toInt64) hx hb dX5_works_172 rfl ?_
              refine lv_ladd hx hb dX5_works_173 ?_
              refine m_last hx hb hK hV hS 1 (i := nI a) (x := ((kW ν 8 a) + ((((wuM μ c9 t9) * (2520 / (kI ν 7 a)))).toInt64))) (q_m8 hM (by omega) ((kW ν 8 a) + ((((wuM μ c9 t9) * (2520 / (kI ν 7 a)))).toInt64))) rfl (vp_in_nI (by omega) (by omega)) dX5_works_174 (fun h H locs hV hS hM => ?_)
              refine lv_aload_n hx hb dX5_works_175 rfl (lv_at hl 1 rfl) ?_
              refine m_get (C := RX5) (T := TX5) (N := 34) hx hb hts hi_X5 hown hK hV 6 (v := .ref (B 6)) (g_m6 hM) rfl (by decide) k23 (fun _ h9 => h9) dX5_works_176 ?_
              refine lv_iload hx hb dX5_works_179 (lv_at hl 2 rfl) ?_
              refine m_iald hx hb hK hV 0 (i := nI a) (x := nI (kN ν 6 a)) (a_m6 hM) rfl (vp_in_nI (by omega) (by omega)) (by rw [nI_clamp (by omega)] <;> first | rfl | (show oI (va_up _ _ _ _) = _; rw [vu_s] <;> rfl) | (show va_up _ _ _ _ = _; rw [vu_s] <;> rfl)) dX5_works_181 ?_
              refine lv_istore (lv' := [(5, .int (nI (kN ν 6 a))), (4, .int (wuM μ c9 t9)), (0, .ref (B 100))]) hx hb dX5_works_182 hl (by decide) rfl (fun ls hl => ?_)
              refine lv_goto (tgt := 145) hx hb dX5_works_184 (by decide) ?_
              obtain ⟨f9, rfl⟩ : ∃ f9, f = f9 + 1 := ⟨f - 1, by omega⟩
              have z9 : kN ν 6 a < a := hM.wf.2.1 a (by omega) ha
              have w9 : upM (wuM μ c9 t9) f9 (kN ν 6 a) (sW ν 8 (va_up (kW ν 8) a ((kW ν 8 a) + ((((wuM μ c9 t9) * (2520 / (kI ν 7 a)))).toInt64)))) = wkM μ c9 t9 := by rw [← hf, upM, if_neg c147] <;> rfl
              exact ih145 f9 (kN ν 6 a) (sW ν 8 (va_up (kW ν 8) a ((kW ν 8 a) + ((((wuM μ c9 t9) * (2520 / (kI ν 7 a)))).toInt64)))) (by omega) (by show kN ν 6 a < kN ν 9 0; omega) hg2 w9 (by omega) _ _ _ hM hV hS ls (lv_sub hl [1, 2, 0] rfl)
        have q5 : (sW (sI (sI (sO (sI μ 27 (va_up (kI μ 27) 0 (wmM μ c9 t9))) 20 (va_up (kO (sI μ 27 (va_up (kI μ 27) 0 (wmM μ c9 t9))) 20) t9 (some c9))) 13 (va_up (kI (sO (sI μ 27 (va_up (kI μ 27) 0 (wmM μ c9 t9))) 20 (va_up (kO (sI μ 27 (va_up (kI μ 27) 0 (wmM μ c9 t9))) 20) t9 (some c9))) 13) t9 ((kI μ 13 t9) - (wuM μ c9 t9)))) 19 (va_up (kI (sI (sO (sI μ 27 (va_up (kI μ 27) 0 (wmM μ c9 t9))) 20 (va_up (kO (sI μ 27 (va_up (kI μ 27) 0 (wmM μ c9 t9))) 20) t9 (some c9))) 13 (va_up (kI (sO (sI μ 27 (va_up (kI μ 27) 0 (wmM μ c9 t9))) 20 (va_up (kO (sI μ 27 (va_up (kI μ 27) 0 (wmM μ c9 t9))) 20) t9 (some c9))) 13) t9 ((kI μ 13 t9) - (wuM μ c9 t9)))) 19) t9 ((kI μ 19 t9) + (wuM μ c9 t9)))) 12 (va_up (kW (sI (sI (sO (sI μ 27 (va_up (kI μ 27) 0 (wmM μ c9 t9))) 20 (va_up (kO (sI μ 27 (va_up (kI μ 27) 0 (wmM μ c9 t9))) 20) t9 (some c9))) 13 (va_up (kI (sO (sI μ 27 (va_up (kI μ 27) 0 (wmM μ c9 t9))) 20 (va_up (kO (sI μ 27 (va_up (kI μ 27) 0 (wmM μ c9 t9))) 20) t9 (some c9))) 13) t9 ((kI μ 13 t9) - (wuM μ c9 t9)))) 19 (va_up (kI (sI (sO (sI μ 27 (va_up (kI μ 27) 0 (wmM μ c9 t9))) 20 (va_up (kO (sI μ 27 (va_up (kI μ 27) 0 (wmM μ c9 t9))) 20) t9 (some c9))) 13 (va_up (kI (sO (sI μ 27 (va_up (kI μ 27) 0 (wmM μ c9 t9))) 20 (va_up (kO (sI μ 27 (va_up (kI μ 27) 0 (wmM μ c9 t9))) 20) t9 (some c9))) 13) t9 ((kI μ 13 t9) - (wuM μ c9 t9)))) 19) t9 ((kI μ 19 t9) + (wuM μ c9 t9)))) 12) t9 ((kW μ 12 t9) + ((((wuM μ c9 t9) * (2520 / (kI μ 11 t9)))).toInt64)))) = (w1M μ (wmM μ c9 t9) (wuM μ c9 t9) c9 t9) := rfl
        rw [q5] at hM
        exact lp145 ((kN μ 10 t9) + 1) 6 (kN μ 10 t9) (w1M μ (wmM μ c9 t9) (wuM μ c9 t9) c9 t9) (by have := y5 t9 ht9; omega) (y5 t9 ht9) hdI.2.1 rfl (Nat.lt_succ_self _) _ _ _ hM hV hS ls (lv_sub hl [1, 3, 0] rfl)
      · refine lv_iload hx hb dX5_works_54 (lv_at hl 0 rfl) ?_
        refine lv_goto (tgt := 65) hx hb dX5_works_56 (by decide) ?_
        refine lv_istore (lv' := [(4, .int (wvM μ c9 t9)), (3, .int 1), (0, .ref (B 100)), (1, .int (nI c9)), (2, .int (nI t9))]) hx hb dX5_works_65 hl (by decide) rfl (fun ls hl => ?_)
        have wu : wuM μ c9 t9 = (wvM μ c9 t9) := by unfold wuM; rw [if_neg c51]
        replace hl : lv_has ls 6 [(4, .int (wuM μ c9 t9)), (3, .int 1), (0, .ref (B 100)), (1, .int (nI c9)), (2, .int (nI t9))] := by have h9 := hl; rw [← wu] at h9; exact h9
        refine lv_aload_n hx hb dX5_works_67 rfl (lv_at hl 2 rfl) ?_
        refine lv_dup hx hb dX5_works_68 rfl ?_
        refine m_get (C := RX5) (T := TX5) (N := 34) hx hb hts hi_X5 hown hK hV 27 (v := .int (kI μ 27 0)) (by have z9 := g_m27 hM; exact z9) rfl (by decide) k205 (fun _ h9 => h9) dX5_works_69 ?_
        refine lv_iload_n hx hb dX5_works_72 rfl (lv_at hl 1 rfl) ?_
        refine lv_if_eq (tgt := 80) hx hb dX5_works_73 (by decide) (fun c73 => (absurd c73 (by decide))) (fun c73 => ?_)
        refine lv_iconst (v := 1) hx hb dX5_works_76 (by decide) ?_
        refine lv_goto (tgt := 81) hx hb dX5_works_77 (by decide) ?_
        refine lv_iadd hx hb dX5_works_81 ?_
        have wmm : wmM μ c9 t9 = ((kI μ 27 0) + 1) := by unfold wmM; rw [wm] <;> rfl
        refine m_topi (y := wmM μ c9 t9) (wmm.symm) ?_
        refine m_put (C := RX5) (T := TX5) (N := 34) (v := .int (wmM μ c9 t9)) hx hb hts hi_X5 tyX5 tyX5_ok nmX5 hown hK hV hS 27 (p_m27 hM (wmM μ c9 t9)) rfl (by decide) k205 (fun _ h9 => h9) rfl (tyX5_ok 27 (by decide)) rfl rfl dX5_works_82 (fun h H locs hV hS hM => ?_)
        refine lv_aload_n hx hb dX5_works_85 rfl (lv_at hl 2 rfl) ?_
        refine m_get (C := RX5) (T := TX5) (N := 34) hx hb hts hi_X5 hown hK hV 20 (v := .ref (B 20)) (g_m20 hM) rfl (by decide) k66 (fun _ h9 => h9) dX5_works_86 ?_
        refine lv_iload_n hx hb dX5_works_89 rfl (lv_at hl 4 rfl) ?_
        refine lv_iload_n hx hb dX5_works_90 rfl (lv_at hl 3 rfl) ?_
        refine m_iast hx hb hK hV hS 0 (i := nI t9) (x := oI (some c9)) (q_m20 hM (by omega) (some c9)) rfl (vp_in_nI (by omega) (by omega)) dX5_works_91 (fun h H locs hV hS hM => ?_)
        refine lv_aload_n hx hb dX5_works_92 rfl (lv_at hl 2 rfl) ?_
        refine m_get (C := RX5) (T := TX5) (N := 34) hx hb hts hi_X5 hown hK hV 13 (v := .ref (B 13)) (g_m13 hM) rfl (by decide) k45 (fun _ h9 => h9) dX5_works_93 ?_
        refine lv_iload_n hx hb dX5_works_96 rfl (lv_at hl 4 rfl) ?_
        refine lv_dup2_11 hx hb dX5_works_97 rfl rfl ?_
        refine m_iald hx hb hK hV 0 (i := nI t9) (x := (kI μ 13 t9)) (a_m13 hM) rfl (vp_in_nI (by omega) (by omega)) (by rw [nI_clamp (by omega)] <;> first | rfl | (show oI (va_up _ _ _ _) = _; rw [vu_s] <;> rfl) | (show va_up _ _ _ _ = _; rw [vu_s] <;> rfl)) dX5_works_98 ?_
        refine lv_iload hx hb dX5_works_99 (lv_at hl 0 rfl) ?_
        refine lv_isub hx hb dX5_works_101 ?_
        refine m_iast hx hb hK hV hS 0 (i := nI t9) (x := ((kI μ 13 t9) - (wuM μ c9 t9))) (q_m13 hM (by omega) ((kI μ 13 t9) - (wuM μ c9 t9))) rfl (vp_in_nI (by omega) (by omega)) dX5_works_102 (fun h H locs hV hS hM => ?_)
        refine lv_aload_n hx hb dX5_works_103 rfl (lv_at hl 2 rfl) ?_
        refine m_get (C := RX5) (T := TX5) (N := 34) hx hb hts hi_X5 hown hK hV 19 (v := .ref (B 19)) (g_m19 hM) rfl (by decide) k63 (fun _ h9 => h9) dX5_works_104 ?_
        refine lv_iload_n hx hb dX5_works_107 rfl (lv_at hl 4 rfl) ?_
        refine lv_dup2_11 hx hb dX5_works_108 rfl rfl ?_
        refine m_iald hx hb hK hV 0 (i := nI t9) (x := (kI μ 19 t9)) (a_m19 hM) rfl (vp_in_nI (by omega) (by omega)) (by rw [nI_clamp (by omega)] <;> first | rfl | (show oI (va_up _ _ _ _) = _; rw [vu_s] <;> rfl) | (show va_up _ _ _ _ = _; rw [vu_s] <;> rfl)) dX5_works_109 ?_
        refine lv_iload hx hb dX5_works_110 (lv_at hl 0 rfl) ?_
        refine lv_iadd hx hb dX5_works_112 ?_
        refine m_iast hx hb hK hV hS 0 (i := nI t9) (x := ((kI μ 19 t9) + (wuM μ c9 t9))) (q_m19 hM (by omega) ((kI μ 19 t9) + (wuM μ c9 t9))) rfl (vp_in_nI (by omega) (by omega)) dX5_works_113 (fun h H locs hV hS hM => ?_)
        refine lv_aload_n hx hb dX5_works_114 rfl (lv_at hl 2 rfl) ?_
        refine m_get (C := RX5) (T := TX5) (N := 34) hx hb hts hi_X5 hown hK hV 12 (v := .ref (B 12)) (g_m12 hM) rfl (by decide) k42 (fun _ h9 => h9) dX5_works_115 ?_
        refine lv_iload_n hx hb dX5_works_118 rfl (lv_at hl 4 rfl) ?_
        refine lv_dup2_11 hx hb dX5_works_119 rfl rfl ?_
        refine m_lald hx hb hK hV 1 (i := nI t9) (x := (kW μ 12 t9)) (a_m12 hM) rfl (vp_in_nI (by omega) (by omega)) (by rw [nI_clamp (by omega)] <;> first | rfl | (show oI (va_up _ _ _ _) = _; rw [vu_s] <;> rfl) | (show va_up _ _ _ _ = _; rw [vu_s] <;> rfl)) dX5_works_120 ?_
        refine lv_iload hx hb dX5_works_121 (lv_at hl 0 rfl) ?_
        refine lv_sipush (v := 2520) hx hb dX5_works_123 (by decide) ?_
        refine lv_aload_n hx hb dX5_works_126 rfl (lv_at hl 2 rfl) ?_
        refine m_get (C := RX5) (T := TX5) (N := 34) hx hb hts hi_X5 hown hK hV 11 (v := .ref (B 11)) (g_m11 hM) rfl (by decide) k39 (fun _ h9 => h9) dX5_works_127 ?_
        refine lv_iload_n hx hb dX5_works_130 rfl (lv_at hl 4 rfl) ?_
        refine m_iald hx hb hK hV 0 (i := nI t9) (x := (kI μ 11 t9)) (a_m11 hM) rfl (vp_in_nI (by omega) (by omega)) (by rw [nI_clamp (by omega)] <;> first | rfl | (show oI (va_up _ _ _ _) = _; rw [vu_s] <;> rfl) | (show va_up _ _ _ _ = _; rw [vu_s] <;> rfl)) dX5_works_131 ?_
        refine lv_idiv hx hb dX5_works_132 (hdI.1 t9 ht9) ?_
        refine lv_imul hx hb dX5_works_133 ?_
        refine lv_i2l (v := (((wuM μ c9 t9) * (2520 / (kI μ 11 t9)))).toInt64) hx hb dX5_works_134 rfl ?_
        refine lv_ladd hx hb dX5_works_135 ?_
        refine m_last hx hb hK hV hS 1 (i := nI t9) (x := ((kW μ 12 t9) + ((((wuM μ c9 t9) * (2520 / (kI μ 11 t9)))).toInt64))) (q_m12 hM (by omega) ((kW μ 12 t9) + ((((wuM μ c9 t9) * (2520 / (kI μ 11 t9)))).toInt64))) rfl (vp_in_nI (by omega) (by omega)) dX5_works_136 (fun h H locs hV hS hM => ?_)
        refine lv_aload_n hx hb dX5_works_137 rfl (lv_at hl 2 rfl) ?_
        refine m_get (C := RX5) (T := TX5) (N := 34) hx hb hts hi_X5 hown hK hV 10 (v := .ref (B 10)) (g_m10 hM) rfl (by decide) k36 (fun _ h9 => h9) dX5_works_138 ?_
        refine lv_iload_n hx hb dX5_works_141 rfl (lv_at hl 4 rfl) ?_
        refine m_iald hx hb hK hV 0 (i := nI t9) (x := nI (kN μ 10 t9)) (a_m10 hM) rfl (vp_in_nI (by omega) (by omega)) (by rw [nI_clamp (by omega)] <;> first | rfl | (show oI (va_up _ _ _ _) = _; rw [vu_s] <;> rfl) | (show va_up _ _ _ _ = _; rw [vu_s] <;> rfl)) dX5_works_142 ?_
        refine lv_istore (lv' := [(5, .int (nI (kN μ 10 t9))), (4, .int (wuM μ c9 t9)), (3, .int 1), (0, .ref (B 100)), (1, .int (nI c9)), (2, .int (nI t9))]) hx hb dX5_works_143 hl (by decide) rfl (fun ls hl => ?_)
        have lp145 : ∀ (fu : Nat) (f : Nat) (a : Nat) (ν : KS), (a ≤ f) → (a < kN ν 9 0) → (∀ g, 0 < g → g < kN ν 9 0 → ¬ kI ν 7 g = 0) → (upM (wuM μ c9 t9) f a ν = wkM μ c9 t9) → a < fu → ∀ (h : mH) (H : Heap) (locs : List Loc), DRep cs P h0 B (ν) h → mV D h (mA hh s.heap.size) H → va_S (mA hh s.heap.size) s.heap H locs → ∀ (ls : Array Slot), lv_has ls 6 [(4, .int (wuM μ c9 t9)), (0, .ref (B 100)), (5, .int (nI a))] → W p l e ({ frames := 1, cells := 0, slots := 0, locals := 21 } : Room) s m args below meth c H locs 0 0 (MQ below (va_Qi ((fun (r : Int32) (h1 : mH) => DRep cs P h0 B (wkM μ c9 t9) h1 ∧ r = (wuM μ c9 t9))) (mB D hh s.heap.size) (mA hh s.heap.size)) args s 0 0 (mA hh s.heap.size)) (F0 m 145 ls []) := by
          intro fu
          induction fu with
          | zero =>
            intro f a ν hm ha hg2 hf hfu
            exact absurd hfu (Nat.not_lt_zero _)
          | succ fu ih145 =>
            intro f a ν hm ha hg2 hf hfu h H locs hM hV hS ls hl
            have v2 := hM.wf.1.2.2.1
            refine lv_iload hx hb dX5_works_145 (lv_at hl 2 rfl) ?_
            refine lv_if_eq (tgt := 187) hx hb dX5_works_147 (by decide) (fun c147 => ?_) (fun c147 => ?_)
            · replace c147 : a = 0 := (nI_eq (a := a) (b := 0) (by omega) (by omega)).mp c147
              refine lv_iload hx hb dX5_works_187 (lv_at hl 0 rfl) ?_
              exact m_iret (v := (wuM μ c9 t9)) hx hb hr hlocks hV hS (⟨(by rw [c147, upM_z] at hf; rw [← hf]; exact hM), rfl⟩) dX5_works_189
            · replace c147 : ¬ a = 0 := fun q9 => c147 ((nI_eq (a := a) (b := 0) (by omega) (by omega)).mpr q9)
              refine lv_aload_n hx hb dX5_works_150 rfl (lv_at hl 1 rfl) ?_
              refine m_get (C := RX5) (T := TX5) (N := 34) hx hb hts hi_X5 hown hK hV 8 (v := .ref (B 8)) (g_m8 hM) rfl (by decide) k29 (fun _ h9 => h9) dX5_works_151 ?_
              refine lv_iload hx hb dX5_works_154 (lv_at hl 2 rfl) ?_
              refine lv_dup2_11 hx hb dX5_works_156 rfl rfl ?_
              refine m_lald hx hb hK hV 1 (i := nI a) (x := (kW ν 8 a)) (a_m8 hM) rfl (vp_in_nI (by omega) (by omega)) (by rw [nI_clamp (by omega)] <;> first | rfl | (show oI (va_up _ _ _ _) = _; rw [vu_s] <;> rfl) | (show va_up _ _ _ _ = _; rw [vu_s] <;> rfl)) dX5_works_157 ?_
              refine lv_iload hx hb dX5_works_158 (lv_at hl 0 rfl) ?_
              refine lv_sipush (v := 2520) hx hb dX5_works_160 (by decide) ?_
              refine lv_aload_n hx hb dX5_works_163 rfl (lv_at hl 1 rfl) ?_
              refine m_get (C := RX5) (T := TX5) (N := 34) hx hb hts hi_X5 hown hK hV 7 (v := .ref (B 7)) (g_m7 hM) rfl (by decide) k26 (fun _ h9 => h9) dX5_works_164 ?_
              refine lv_iload hx hb dX5_works_167 (lv_at hl 2 rfl) ?_
              refine m_iald hx hb hK hV 0 (i := nI a) (x := (kI ν 7 a)) (a_m7 hM) rfl (vp_in_nI (by omega) (by omega)) (by rw [nI_clamp (by omega)] <;> first | rfl | (show oI (va_up _ _ _ _) = _; rw [vu_s] <;> rfl) | (show va_up _ _ _ _ = _; rw [vu_s] <;> rfl)) dX5_works_169 ?_
              refine lv_idiv hx hb dX5_works_170 (hg2 a (by omega) ha) ?_
              refine lv_imul hx hb dX5_works_171 ?_
              refine lv_i2l (v := (((wuM μ c9 t9) * (2520 / (kI ν 7 a)))).toInt64) hx hb dX5_works_172 rfl ?_
              refine lv_ladd hx hb dX5_works_173 ?_
              refine m_last hx hb hK hV hS 1 (i := nI a) (x := ((kW ν 8 a) + ((((wuM μ c9 t9) * (2520 / (kI ν 7 a)))).toInt64))) (q_m8 hM (by omega) ((kW ν 8 a) + ((((wuM μ c9 t9) * (2520 / (kI ν 7 a)))).toInt64))) rfl (vp_in_nI (by omega) (by omega)) dX5_works_174 (fun h H locs hV hS hM => ?_)
              refine lv_aload_n hx hb dX5_works_175 rfl (lv_at hl 1 rfl) ?_
              refine m_get (C := RX5) (T := TX5) (N := 34) hx hb hts hi_X5 hown hK hV 6 (v := .ref (B 6)) (g_m6 hM) rfl (by decide) k23 (fun _ h9 => h9) dX5_works_176 ?_
              refine lv_iload hx hb dX5_works_179 (lv_at hl 2 rfl) ?_
              refine m_iald hx hb hK hV 0 (i := nI a) (x := nI (kN ν 6 a)) (a_m6 hM) rfl (vp_in_nI (by omega) (by omega)) (by rw [nI_clamp (by omega)] <;> first | rfl | (show oI (va_up _ _ _ _) = _; rw [vu_s] <;> rfl) | (show va_up _ _ _ _ = _; rw [vu_s] <;> rfl)) dX5_works_181 ?_
              refine lv_istore (lv' := [(5, .int (nI (kN ν 6 a))), (4, .int (wuM μ c9 t9)), (0, .ref (B 100))]) hx hb dX5_works_182 hl (by decide) rfl (fun ls hl => ?_)
              refine lv_goto (tgt := 145) hx hb dX5_works_184 (by decide) ?_
              obtain ⟨f9, rfl⟩ : ∃ f9, f = f9 + 1 := ⟨f - 1, by omega⟩
              have z9 : kN ν 6 a < a := hM.wf.2.1 a (by omega) ha
              have w9 : upM (wuM μ c9 t9) f9 (kN ν 6 a) (sW ν 8 (va_up (kW ν 8) a ((kW ν 8 a) + ((((wuM μ c9 t9) * (2520 / (kI ν 7 a)))).toInt64)))) = wkM μ c9 t9 := by rw [← hf, upM, if_neg c147] <;> rfl
              exact ih145 f9 (kN ν 6 a) (sW ν 8 (va_up (kW ν 8) a ((kW ν 8 a) + ((((wuM μ c9 t9) * (2520 / (kI ν 7 a)))).toInt64)))) (by omega) (by show kN ν 6 a < kN ν 9 0; omega) hg2 w9 (by omega) _ _ _ hM hV hS ls (lv_sub hl [1, 2, 0] rfl)
        have q6 : (sW (sI (sI (sO (sI μ 27 (va_up (kI μ 27) 0 (wmM μ c9 t9))) 20 (va_up (kO (sI μ 27 (va_up (kI μ 27) 0 (wmM μ c9 t9))) 20) t9 (some c9))) 13 (va_up (kI (sO (sI μ 27 (va_up (kI μ 27) 0 (wmM μ c9 t9))) 20 (va_up (kO (sI μ 27 (va_up (kI μ 27) 0 (wmM μ c9 t9))) 20) t9 (some c9))) 13) t9 ((kI μ 13 t9) - (wuM μ c9 t9)))) 19 (va_up (kI (sI (sO (sI μ 27 (va_up (kI μ 27) 0 (wmM μ c9 t9))) 20 (va_up (kO (sI μ 27 (va_up (kI μ 27) 0 (wmM μ c9 t9))) 20) t9 (some c9))) 13 (va_up (kI (sO (sI μ 27 (va_up (kI μ 27) 0 (wmM μ c9 t9))) 20 (va_up (kO (sI μ 27 (va_up (kI μ 27) 0 (wmM μ c9 t9))) 20) t9 (some c9))) 13) t9 ((kI μ 13 t9) - (wuM μ c9 t9)))) 19) t9 ((kI μ 19 t9) + (wuM μ c9 t9)))) 12 (va_up (kW (sI (sI (sO (sI μ 27 (va_up (kI μ 27) 0 (wmM μ c9 t9))) 20 (va_up (kO (sI μ 27 (va_up (kI μ 27) 0 (wmM μ c9 t9))) 20) t9 (some c9))) 13 (va_up (kI (sO (sI μ 27 (va_up (kI μ 27) 0 (wmM μ c9 t9))) 20 (va_up (kO (sI μ 27 (va_up (kI μ 27) 0 (wmM μ c9 t9))) 20) t9 (some c9))) 13) t9 ((kI μ 13 t9) - (wuM μ c9 t9)))) 19 (va_up (kI (sI (sO (sI μ 27 (va_up (kI μ 27) 0 (wmM μ c9 t9))) 20 (va_up (kO (sI μ 27 (va_up (kI μ 27) 0 (wmM μ c9 t9))) 20) t9 (some c9))) 13 (va_up (kI (sO (sI μ 27 (va_up (kI μ 27) 0 (wmM μ c9 t9))) 20 (va_up (kO (sI μ 27 (va_up (kI μ 27) 0 (wmM μ c9 t9))) 20) t9 (some c9))) 13) t9 ((kI μ 13 t9) - (wuM μ c9 t9)))) 19) t9 ((kI μ 19 t9) + (wuM μ c9 t9)))) 12) t9 ((kW μ 12 t9) + ((((wuM μ c9 t9) * (2520 / (kI μ 11 t9)))).toInt64)))) = (w1M μ (wmM μ c9 t9) (wuM μ c9 t9) c9 t9) := rfl
        rw [q6] at hM
        exact lp145 ((kN μ 10 t9) + 1) 6 (kN μ 10 t9) (w1M μ (wmM μ c9 t9) (wuM μ c9 t9) c9 t9) (by have := y5 t9 ht9; omega) (y5 t9 ht9) hdI.2.1 rfl (Nat.lt_succ_self _) _ _ _ hM hV hS ls (lv_sub hl [1, 3, 0] rfl)
