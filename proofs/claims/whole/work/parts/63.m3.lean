set_option maxHeartbeats 4000000 in
set_option maxRecDepth 100000 in
theorem c_X5_findsUrgencies {l : Launch} {D : va_G} {cs : mC} {df : Nat} {P : Nat → Prop} {h0 : mH} {B : Nat → Nat} {μ : KS} {hh : mH} (sz : Nat) (hM : DRep cs P h0 B μ hh)  : Met l yX5_findsUrgencies wsX5_findsUrgencies ({ frames := 0, cells := 0, slots := 0, locals := 0 }) (mPre [.ref (B 100)] D cs df hh sz) (va_Qv ((fun (h1 : mH) => DRep cs P h0 B (fuM μ) h1)) (mB D hh sz) (mA hh sz)) 0 0 (mA hh sz) := by
  refine Met.ofW (cc := cX5_findsUrgencies) (maxL := 4) (ret := none) (by decide) rfl ?_
  intro p e s m args below meth c s₁ B0 hml hv
  obtain ⟨hargs, hsz, hV, hE⟩ := hv
  subst hsz
  have hx := B0.exec
  have hb := B0.bytes
  have hr := B0.returns
  have hlocks := B0.notSynchronized
  have hts := atoms_spec (ws := wsX5_findsUrgencies) B0.pre
  have hown : s.vm.findClass RX5 = some m.cls := findClass_of_methodNamed B0.named
  have hK := hE.1.1
  have hA : ∀ q : Nat, s.heap.size ≤ q → mA hh s.heap.size q := mA.top
  have hS : va_S (mA hh s.heap.size) s.heap s.heap [] := va_S.rf
  have hi_X5 : ∀ w ∈ u_ws RX5 TX5 34, w ∈ wsX5_findsUrgencies := by decide +kernel
  have k117 : (Cond.fieldLink RX5 117 "TaskKernelModel" "tasks" "I").before args s = true := hts _ (by decide +kernel)
  have k73 : (Cond.fieldLink RX5 73 "TaskKernelModel" "waitsFor" "[I").before args s = true := hts _ (by decide +kernel)
  have k79 : (Cond.fieldLink RX5 79 "TaskKernelModel" "holders" "[I").before args s = true := hts _ (by decide +kernel)
  have k85 : (Cond.fieldLink RX5 85 "TaskKernelModel" "urgencies" "[I").before args s = true := hts _ (by decide +kernel)
  have k48 : (Cond.fieldLink RX5 48 "TaskKernelModel" "periods" "[I").before args s = true := hts _ (by decide +kernel)
  have kk169 : (Cond.constant RX5 169 (1000000)).before args s = true := hts _ (by decide +kernel)
  have k45 : (Cond.fieldLink RX5 45 "TaskKernelModel" "lefts" "[I").before args s = true := hts _ (by decide +kernel)
  have k54 : (Cond.fieldLink RX5 54 "TaskKernelModel" "deadlines" "[I").before args s = true := hts _ (by decide +kernel)
  have hl := lv_entry ([.ref (B 100)]) (n := 4) (by first | exact Nat.le_of_ble_eq_true rfl | simp [lg_sl, rf_cat, ct_ref, ct_int, ct_null, ct_long])
  have hent := lg_entry_eq m ([.ref (B 100)]) 4
  rw [← hargs] at hent
  rw [hent]
  generalize (lg_sl ([.ref (B 100)]) ++ List.replicate (4 - (lg_sl ([.ref (B 100)])).length) Slot.unset).toArray = ls at hl ⊢
  replace hl : lv_has ls 4 [(0, .ref (B 100))] := hl
  have hwf := hM.wf
  obtain ⟨⟨y0, y1, y2, y3⟩, y4, y5, y6, y7⟩ := hwf
  refine lv_iconst (v := 0) hx hb dX5_findsUrgencies_0 (by decide) ?_
  refine lv_istore_n (lv' := [(1, .int 0), (0, .ref (B 100))]) hx hb dX5_findsUrgencies_1 rfl hl (by decide) rfl (fun ls hl => ?_)
  have lp2 : ∀ (fu : Nat) (i : Nat), (i ≤ kN μ 24 0) → kN μ 24 0 - i < fu → ∀ (h : mH) (H : Heap) (locs : List Loc), DRep cs P h0 B (fuA i μ) h → mV D h (mA hh s.heap.size) H → va_S (mA hh s.heap.size) s.heap H locs → ∀ (ls : Array Slot), lv_has ls 4 [(0, .ref (B 100)), (1, .int (nI i))] → W p l e ({ frames := 0, cells := 0, slots := 0, locals := 0 } : Room) s m args below meth c H locs 0 0 (MQ below (va_Qv ((fun (h1 : mH) => DRep cs P h0 B (fuM μ) h1)) (mB D hh s.heap.size) (mA hh s.heap.size)) args s 0 0 (mA hh s.heap.size)) (F0 m 2 ls []) := by
    intro fu
    induction fu with
    | zero =>
      intro i hi hfu
      exact absurd hfu (Nat.not_lt_zero _)
    | succ fu ih2 =>
      intro i hi hfu h H locs hM hV hS ls hl
      have en : kN (fuA i μ) 24 0 = kN μ 24 0 := by rw [(fuA_U i μ).N]
      refine lv_iload_n hx hb dX5_findsUrgencies_2 rfl (lv_at hl 1 rfl) ?_
      refine lv_aload_n hx hb dX5_findsUrgencies_3 rfl (lv_at hl 0 rfl) ?_
      refine m_get (C := RX5) (T := TX5) (N := 34) hx hb hts hi_X5 hown hK hV 24 (v := .int (nI (kN (fuA i μ) 24 0))) (by have z9 := g_m24 hM; exact z9) rfl (by decide) k117 (fun _ h9 => h9) dX5_findsUrgencies_4 ?_
      refine lv_icmp_ge (tgt := 51) hx hb dX5_findsUrgencies_7 (by decide) (fun c7 => ?_) (fun c7 => ?_)
      · replace c7 : kN (fuA i μ) 24 0 ≤ i := (nI_leI (a := kN (fuA i μ) 24 0) (b := i) (by omega) (by omega)).mp c7
        refine lv_iconst (v := 0) hx hb dX5_findsUrgencies_51 (by decide) ?_
        refine lv_istore_n (lv' := [(1, .int 0), (0, .ref (B 100))]) hx hb dX5_findsUrgencies_52 rfl hl (by decide) rfl (fun ls hl => ?_)
        have lp53 : ∀ (fu : Nat) (r : Nat), (r ≤ 12) → 12 - r < fu → ∀ (h : mH) (H : Heap) (locs : List Loc), DRep cs P h0 B (fuR (kN μ 24 0) r (fuA (kN μ 24 0) μ)) h → mV D h (mA hh s.heap.size) H → va_S (mA hh s.heap.size) s.heap H locs → ∀ (ls : Array Slot), lv_has ls 4 [(0, .ref (B 100)), (1, .int (nI r))] → W p l e ({ frames := 0, cells := 0, slots := 0, locals := 0 } : Room) s m args below meth c H locs 0 0 (MQ below (va_Qv ((fun (h1 : mH) => DRep cs P h0 B (fuM μ) h1)) (mB D hh s.heap.size) (mA hh s.heap.size)) args s 0 0 (mA hh s.heap.size)) (F0 m 53 ls []) := by
          intro fu
          induction fu with
          | zero =>
            intro r hr0 hfu
            exact absurd hfu (Nat.not_lt_zero _)
          | succ fu ih53 =>
            intro r hr0 hfu h H locs hM hV hS ls hl
            have ur : sameU μ (fuR (kN μ 24 0) r (fuA (kN μ 24 0) μ)) := (fuA_U _ _).tr (fuR_U _ _ _)
            have en : kN (fuR (kN μ 24 0) r (fuA (kN μ 24 0) μ)) 24 0 = kN μ 24 0 := by rw [ur.N]
            refine lv_iload_n hx hb dX5_findsUrgencies_53 rfl (lv_at hl 1 rfl) ?_
            refine lv_bipush (v := 12) hx hb dX5_findsUrgencies_54 (by decide) ?_
            refine lv_icmp_ge (tgt := 139) hx hb dX5_findsUrgencies_56 (by decide) (fun c56 => ?_) (fun c56 => ?_)
            · replace c56 : 12 ≤ r := (nI_leI (a := 12) (b := r) (by omega) (by omega)).mp c56
              exact m_vret hx hb hr hlocks hV hS ((by rw [show r = 12 by omega] at hM; exact hM)) dX5_findsUrgencies_139
            · replace c56 : ¬ 12 ≤ r := fun q9 => c56 ((nI_leI (a := 12) (b := r) (by omega) (by omega)).mpr q9)
              refine lv_iconst (v := 0) hx hb dX5_findsUrgencies_59 (by decide) ?_
              refine lv_istore_n (lv' := [(2, .int 0), (0, .ref (B 100)), (1, .int (nI r))]) hx hb dX5_findsUrgencies_60 rfl hl (by decide) rfl (fun ls hl => ?_)
              have lp61 : ∀ (fu : Nat) (k : Nat), (k ≤ kN μ 24 0) → kN μ 24 0 - k < fu → ∀ (h : mH) (H : Heap) (locs : List Loc), DRep cs P h0 B (fuT k (fuR (kN μ 24 0) r (fuA (kN μ 24 0) μ))) h → mV D h (mA hh s.heap.size) H → va_S (mA hh s.heap.size) s.heap H locs → ∀ (ls : Array Slot), lv_has ls 4 [(0, .ref (B 100)), (1, .int (nI r)), (2, .int (nI k))] → W p l e ({ frames := 0, cells := 0, slots := 0, locals := 0 } : Room) s m args below meth c H locs 0 0 (MQ below (va_Qv ((fun (h1 : mH) => DRep cs P h0 B (fuM μ) h1)) (mB D hh s.heap.size) (mA hh s.heap.size)) args s 0 0 (mA hh s.heap.size)) (F0 m 61 ls []) := by
                intro fu
                induction fu with
                | zero =>
                  intro k hk hfu
                  exact absurd hfu (Nat.not_lt_zero _)
                | succ fu ih61 =>
                  intro k hk hfu h H locs hM hV hS ls hl
                  have ut : sameU μ (fuT k (fuR (kN μ 24 0) r (fuA (kN μ 24 0) μ))) := ((fuA_U _ _).tr (fuR_U _ _ _)).tr (fuT_U _ _)
                  have en2 : kN (fuT k (fuR (kN μ 24 0) r (fuA (kN μ 24 0) μ))) 24 0 = kN μ 24 0 := by rw [ut.N]
                  refine lv_iload_n hx hb dX5_findsUrgencies_61 rfl (lv_at hl 2 rfl) ?_
                  refine lv_aload_n hx hb dX5_findsUrgencies_62 rfl (lv_at hl 0 rfl) ?_
                  refine m_get (C := RX5) (T := TX5) (N := 34) hx hb hts hi_X5 hown hK hV 24 (v := .int (nI (kN (fuT k (fuR (kN μ 24 0) r (fuA (kN μ 24 0) μ))) 24 0))) (by have z9 := g_m24 hM; exact z9) rfl (by decide) k117 (fun _ h9 => h9) dX5_findsUrgencies_63 ?_
                  refine lv_icmp_ge (tgt := 133) hx hb dX5_findsUrgencies_66 (by decide) (fun c66 => ?_) (fun c66 => ?_)
                  · replace c66 : kN (fuT k (fuR (kN μ 24 0) r (fuA (kN μ 24 0) μ))) 24 0 ≤ k := (nI_leI (a := kN (fuT k (fuR (kN μ 24 0) r (fuA (kN μ 24 0) μ))) 24 0) (b := k) (by omega) (by omega)).mp c66
                    refine lv_iinc (v := nI (r + 1)) (lv' := [(1, .int (nI (r + 1))), (0, .ref (B 100)), (2, .int (nI k))]) hx hb dX5_findsUrgencies_133 hl (k := 1) rfl (show nI r + Int32.ofInt 1 = _ from nI_add r 1) (by decide) rfl (fun ls hl => ?_)
                    refine lv_goto (tgt := 53) hx hb dX5_findsUrgencies_136 (by decide) ?_
                    have q1 : (fuT k (fuR (kN μ 24 0) r (fuA (kN μ 24 0) μ))) = (fuR (kN μ 24 0) (r + 1) (fuA (kN μ 24 0) μ)) := (by rw [show k = kN μ 24 0 by omega]; rfl)
                    rw [q1] at hM
                    exact ih53 (r + 1) (by omega) (by omega) _ _ _ hM hV hS ls (lv_sub hl [1, 0] rfl)
                  · replace c66 : ¬ kN (fuT k (fuR (kN μ 24 0) r (fuA (kN μ 24 0) μ))) 24 0 ≤ k := fun q9 => c66 ((nI_leI (a := kN (fuT k (fuR (kN μ 24 0) r (fuA (kN μ 24 0) μ))) 24 0) (b := k) (by omega) (by omega)).mpr q9)
                    refine lv_aload_n hx hb dX5_findsUrgencies_69 rfl (lv_at hl 0 rfl) ?_
                    refine m_get (C := RX5) (T := TX5) (N := 34) hx hb hts hi_X5 hown hK hV 22 (v := .ref (B 22)) (g_m22 hM) rfl (by decide) k73 (fun _ h9 => h9) dX5_findsUrgencies_70 ?_
                    refine lv_iload_n hx hb dX5_findsUrgencies_73 rfl (lv_at hl 2 rfl) ?_
                    refine m_iald hx hb hK hV 0 (i := nI k) (x := oI (kO (fuT k (fuR (kN μ 24 0) r (fuA (kN μ 24 0) μ))) 22 k)) (a_m22 hM) rfl (vp_in_nI (by omega) (by omega)) (by rw [nI_clamp (by omega)] <;> first | rfl | (show oI (va_up _ _ _ _) = _; rw [vu_s]) | (show va_up _ _ _ _ = _; rw [vu_s])) dX5_findsUrgencies_74 ?_
                    refine lv_iconst (v := (-1)) hx hb dX5_findsUrgencies_75 (by decide) ?_
                    refine lv_icmp_ne (tgt := 83) hx hb dX5_findsUrgencies_76 (by decide) (fun c76 => ?_) (fun c76 => ?_)
                    · obtain ⟨k76, c76⟩ : ∃ z, kO (fuT k (fuR (kN μ 24 0) r (fuA (kN μ 24 0) μ))) 22 k = some z := Option.ne_none_iff_exists'.mp (fun q9 => c76 ((oI_m1 (fun k9 e9 => by have : k9 < 4 := hM.wf.2.2.2.1 k (by first | assumption | (show k < kN (fuT k (fuR (kN μ 24 0) r (fuA (kN μ 24 0) μ))) 24 0; omega)) _ e9; omega)).mpr q9))
                      have bk76 : k76 < 4 := hM.wf.2.2.2.1 k (by first | assumption | (show k < kN (fuT k (fuR (kN μ 24 0) r (fuA (kN μ 24 0) μ))) 24 0; omega)) _ c76
                      refine lv_aload_n hx hb dX5_findsUrgencies_83 rfl (lv_at hl 0 rfl) ?_
                      refine m_get (C := RX5) (T := TX5) (N := 34) hx hb hts hi_X5 hown hK hV 26 (v := .ref (B 26)) (g_m26 hM) rfl (by decide) k79 (fun _ h9 => h9) dX5_findsUrgencies_84 ?_
                      refine lv_aload_n hx hb dX5_findsUrgencies_87 rfl (lv_at hl 0 rfl) ?_
                      refine m_get (C := RX5) (T := TX5) (N := 34) hx hb hts hi_X5 hown hK hV 22 (v := .ref (B 22)) (g_m22 hM) rfl (by decide) k73 (fun _ h9 => h9) dX5_findsUrgencies_88 ?_
                      refine lv_iload_n hx hb dX5_findsUrgencies_91 rfl (lv_at hl 2 rfl) ?_
                      refine m_iald hx hb hK hV 0 (i := nI k) (x := nI k76) (a_m22 hM) rfl (vp_in_nI (by omega) (by omega)) (by rw [nI_clamp (by omega)]; show oI (kO (fuT k (fuR (kN μ 24 0) r (fuA (kN μ 24 0) μ))) 22 k) = _; rw [c76]; rfl) dX5_findsUrgencies_92 ?_
                      refine m_iald hx hb hK hV 0 (i := nI k76) (x := oI (kO (fuT k (fuR (kN μ 24 0) r (fuA (kN μ 24 0) μ))) 26 k76)) (a_m26 hM) rfl (vp_in_nI (by omega) (by omega)) (by rw [nI_clamp (by omega)] <;> first | rfl | (show oI (va_up _ _ _ _) = _; rw [vu_s]) | (show va_up _ _ _ _ = _; rw [vu_s])) dX5_findsUrgencies_93 ?_
                      refine lv_istore_n (lv' := [(3, .int (oI (kO (fuT k (fuR (kN μ 24 0) r (fuA (kN μ 24 0) μ))) 26 k76))), (0, .ref (B 100)), (1, .int (nI r)), (2, .int (nI k))]) hx hb dX5_findsUrgencies_94 rfl hl (by decide) rfl (fun ls hl => ?_)
                      refine lv_iload_n hx hb dX5_findsUrgencies_95 rfl (lv_at hl 0 rfl) ?_
                      refine lv_iconst (v := (-1)) hx hb dX5_findsUrgencies_96 (by decide) ?_
                      refine lv_icmp_eq (tgt := 127) hx hb dX5_findsUrgencies_97 (by decide) (fun c97 => ?_) (fun c97 => ?_)
                      · replace c97 : kO (fuT k (fuR (kN μ 24 0) r (fuA (kN μ 24 0) μ))) 26 k76 = none := (oI_m1 (fun k9 e9 => by have : k9 < kN (fuT k (fuR (kN μ 24 0) r (fuA (kN μ 24 0) μ))) 24 0 := hM.wf.2.2.2.2 k76 (show k76 < 4 by omega) _ e9; omega)).mp c97
                        replace hl : lv_has ls 4 [(3, .int (-1)), (0, .ref (B 100)), (1, .int (nI r)), (2, .int (nI k))] := by have h9 := hl; rw [c97] at h9; exact h9
                        refine lv_iinc (v := nI (k + 1)) (lv' := [(2, .int (nI (k + 1))), (3, .int (-1)), (0, .ref (B 100)), (1, .int (nI r))]) hx hb dX5_findsUrgencies_127 hl (k := 3) rfl (show nI k + Int32.ofInt 1 = _ from nI_add k 1) (by decide) rfl (fun ls hl => ?_)
                        refine lv_goto (tgt := 61) hx hb dX5_findsUrgencies_130 (by decide) ?_
                        have q2 : (fuT k (fuR (kN μ 24 0) r (fuA (kN μ 24 0) μ))) = (fuT (k + 1) (fuR (kN μ 24 0) r (fuA (kN μ 24 0) μ))) := (by show _ = fuT1 (fuT k (fuR (kN μ 24 0) r (fuA (kN μ 24 0) μ))) k; unfold fuT1 hdM; rw [c76]; dsimp only; rw [c97])
                        rw [q2] at hM
                        exact ih61 (k + 1) (by omega) (by omega) _ _ _ hM hV hS ls (lv_sub hl [2, 3, 0] rfl)
                      · obtain ⟨k97, c97⟩ : ∃ z, kO (fuT k (fuR (kN μ 24 0) r (fuA (kN μ 24 0) μ))) 26 k76 = some z := Option.ne_none_iff_exists'.mp (fun q9 => c97 ((oI_m1 (fun k9 e9 => by have : k9 < kN (fuT k (fuR (kN μ 24 0) r (fuA (kN μ 24 0) μ))) 24 0 := hM.wf.2.2.2.2 k76 (show k76 < 4 by omega) _ e9; omega)).mpr q9))
                        have bk97 : k97 < kN (fuT k (fuR (kN μ 24 0) r (fuA (kN μ 24 0) μ))) 24 0 := hM.wf.2.2.2.2 k76 (show k76 < 4 by omega) _ c97
                        replace hl : lv_has ls 4 [(3, .int (nI k97)), (0, .ref (B 100)), (1, .int (nI r)), (2, .int (nI k))] := by have h9 := hl; rw [c97] at h9; exact h9
                        refine lv_aload_n hx hb dX5_findsUrgencies_100 rfl (lv_at hl 1 rfl) ?_
                        refine m_get (C := RX5) (T := TX5) (N := 34) hx hb hts hi_X5 hown hK hV 31 (v := .ref (B 31)) (g_m31 hM) rfl (by decide) k85 (fun _ h9 => h9) dX5_findsUrgencies_101 ?_
                        refine lv_iload_n hx hb dX5_findsUrgencies_104 rfl (lv_at hl 3 rfl) ?_
                        refine m_iald hx hb hK hV 0 (i := nI k) (x := (kI (fuT k (fuR (kN μ 24 0) r (fuA (kN μ 24 0) μ))) 31 k)) (a_m31 hM) rfl (vp_in_nI (by omega) (by omega)) (by rw [nI_clamp (by omega)] <;> first | rfl | (show oI (va_up _ _ _ _) = _; rw [vu_s]) | (show va_up _ _ _ _ = _; rw [vu_s])) dX5_findsUrgencies_105 ?_
                        refine lv_aload_n hx hb dX5_findsUrgencies_106 rfl (lv_at hl 1 rfl) ?_
                        refine m_get (C := RX5) (T := TX5) (N := 34) hx hb hts hi_X5 hown hK hV 31 (v := .ref (B 31)) (g_m31 hM) rfl (by decide) k85 (fun _ h9 => h9) dX5_findsUrgencies_107 ?_
                        refine lv_iload_n hx hb dX5_findsUrgencies_110 rfl (lv_at hl 0 rfl) ?_
                        refine m_iald hx hb hK hV 0 (i := nI k97) (x := (kI (fuT k (fuR (kN μ 24 0) r (fuA (kN μ 24 0) μ))) 31 k97)) (a_m31 hM) rfl (vp_in_nI (by omega) (by omega)) (by rw [nI_clamp (by omega)] <;> first | rfl | (show oI (va_up _ _ _ _) = _; rw [vu_s]) | (show va_up _ _ _ _ = _; rw [vu_s])) dX5_findsUrgencies_111 ?_
                        refine lv_icmp_ge (tgt := 127) hx hb dX5_findsUrgencies_112 (by decide) (fun c112 => ?_) (fun c112 => ?_)
                        · refine lv_iinc (v := nI (k + 1)) (lv' := [(2, .int (nI (k + 1))), (3, .int (nI k97)), (0, .ref (B 100)), (1, .int (nI r))]) hx hb dX5_findsUrgencies_127 hl (k := 3) rfl (show nI k + Int32.ofInt 1 = _ from nI_add k 1) (by decide) rfl (fun ls hl => ?_)
                          refine lv_goto (tgt := 61) hx hb dX5_findsUrgencies_130 (by decide) ?_
                          have q3 : (fuT k (fuR (kN μ 24 0) r (fuA (kN μ 24 0) μ))) = (fuT (k + 1) (fuR (kN μ 24 0) r (fuA (kN μ 24 0) μ))) := (by show _ = fuT1 (fuT k (fuR (kN μ 24 0) r (fuA (kN μ 24 0) μ))) k; unfold fuT1 hdM; rw [c76]; dsimp only; rw [c97]; dsimp only; rw [if_neg (Int32.not_lt.mpr c112)])
                          rw [q3] at hM
                          exact ih61 (k + 1) (by omega) (by omega) _ _ _ hM hV hS ls (lv_sub hl [2, 3, 0] rfl)
                        · refine lv_aload_n hx hb dX5_findsUrgencies_115 rfl (lv_at hl 1 rfl) ?_
                          refine m_get (C := RX5) (T := TX5) (N := 34) hx hb hts hi_X5 hown hK hV 31 (v := .ref (B 31)) (g_m31 hM) rfl (by decide) k85 (fun _ h9 => h9) dX5_findsUrgencies_116 ?_
                          refine lv_iload_n hx hb dX5_findsUrgencies_119 rfl (lv_at hl 0 rfl) ?_
                          refine lv_aload_n hx hb dX5_findsUrgencies_120 rfl (lv_at hl 1 rfl) ?_
                          refine m_get (C := RX5) (T := TX5) (N := 34) hx hb hts hi_X5 hown hK hV 31 (v := .ref (B 31)) (g_m31 hM) rfl (by decide) k85 (fun _ h9 => h9) dX5_findsUrgencies_121 ?_
                          refine lv_iload_n hx hb dX5_findsUrgencies_124 rfl (lv_at hl 3 rfl) ?_
                          refine m_iald hx hb hK hV 0 (i := nI k) (x := (kI (fuT k (fuR (kN μ 24 0) r (fuA (kN μ 24 0) μ))) 31 k)) (a_m31 hM) rfl (vp_in_nI (by omega) (by omega)) (by rw [nI_clamp (by omega)] <;> first | rfl | (show oI (va_up _ _ _ _) = _; rw [vu_s]) | (show va_up _ _ _ _ = _; rw [vu_s])) dX5_findsUrgencies_125 ?_
                          refine m_iast hx hb hK hV hS 0 (i := nI k97) (x := (kI (fuT k (fuR (kN μ 24 0) r (fuA (kN μ 24 0) μ))) 31 k)) (q_m31 hM (by omega) (kI (fuT k (fuR (kN μ 24 0) r (fuA (kN μ 24 0) μ))) 31 k)) rfl (vp_in_nI (by omega) (by omega)) dX5_findsUrgencies_126 (fun h H locs hV hS hM => ?_)
                          refine lv_iinc (v := nI (k + 1)) (lv' := [(2, .int (nI (k + 1))), (3, .int (nI k97)), (0, .ref (B 100)), (1, .int (nI r))]) hx hb dX5_findsUrgencies_127 hl (k := 3) rfl (show nI k + Int32.ofInt 1 = _ from nI_add k 1) (by decide) rfl (fun ls hl => ?_)
                          refine lv_goto (tgt := 61) hx hb dX5_findsUrgencies_130 (by decide) ?_
                          have q4 : (sI (fuT k (fuR (kN μ 24 0) r (fuA (kN μ 24 0) μ))) 31 (va_up (kI (fuT k (fuR (kN μ 24 0) r (fuA (kN μ 24 0) μ))) 31) k97 (kI (fuT k (fuR (kN μ 24 0) r (fuA (kN μ 24 0) μ))) 31 k))) = (fuT (k + 1) (fuR (kN μ 24 0) r (fuA (kN μ 24 0) μ))) := (by show _ = fuT1 (fuT k (fuR (kN μ 24 0) r (fuA (kN μ 24 0) μ))) k; unfold fuT1 hdM; rw [c76]; dsimp only; rw [c97]; dsimp only; rw [if_pos (Int32.not_le.mp c112)])
                          rw [q4] at hM
                          exact ih61 (k + 1) (by omega) (by omega) _ _ _ hM hV hS ls (lv_sub hl [2, 3, 0] rfl)
                    · replace c76 : kO (fuT k (fuR (kN μ 24 0) r (fuA (kN μ 24 0) μ))) 22 k = none := (oI_m1 (fun k9 e9 => by have : k9 < 4 := hM.wf.2.2.2.1 k (by first | assumption | (show k < kN (fuT k (fuR (kN μ 24 0) r (fuA (kN μ 24 0) μ))) 24 0; omega)) _ e9; omega)).mp c76
                      refine lv_iconst (v := (-1)) hx hb dX5_findsUrgencies_79 (by decide) ?_
                      refine lv_goto (tgt := 94) hx hb dX5_findsUrgencies_80 (by decide) ?_
                      refine lv_istore_n (lv' := [(3, .int (-1)), (0, .ref (B 100)), (1, .int (nI r)), (2, .int (nI k))]) hx hb dX5_findsUrgencies_94 rfl hl (by decide) rfl (fun ls hl => ?_)
                      refine lv_iload_n hx hb dX5_findsUrgencies_95 rfl (lv_at hl 0 rfl) ?_
                      refine lv_iconst (v := (-1)) hx hb dX5_findsUrgencies_96 (by decide) ?_
                      refine lv_icmp_eq (tgt := 127) hx hb dX5_findsUrgencies_97 (by decide) (fun c97 => ?_) (fun c97 => (absurd (by decide) c97))
                      refine lv_iinc (v := nI (k + 1)) (lv' := [(2, .int (nI (k + 1))), (3, .int (-1)), (0, .ref (B 100)), (1, .int (nI r))]) hx hb dX5_findsUrgencies_127 hl (k := 3) rfl (show nI k + Int32.ofInt 1 = _ from nI_add k 1) (by decide) rfl (fun ls hl => ?_)
                      refine lv_goto (tgt := 61) hx hb dX5_findsUrgencies_130 (by decide) ?_
                      have q5 : (fuT k (fuR (kN μ 24 0) r (fuA (kN μ 24 0) μ))) = (fuT (k + 1) (fuR (kN μ 24 0) r (fuA (kN μ 24 0) μ))) := (by show _ = fuT1 (fuT k (fuR (kN μ 24 0) r (fuA (kN μ 24 0) μ))) k; unfold fuT1 hdM; rw [c76])
                      rw [q5] at hM
                      exact ih61 (k + 1) (by omega) (by omega) _ _ _ hM hV hS ls (lv_sub hl [2, 3, 0] rfl)
              have q6 : (fuR (kN μ 24 0) r (fuA (kN μ 24 0) μ)) = (fuT 0 (fuR (kN μ 24 0) r (fuA (kN μ 24 0) μ))) := rfl
              rw [q6] at hM
              have q7 : 0 = nI 0 := rfl
              replace hl : lv_has ls 4 [(2, .int (nI 0)), (0, .ref (B 100)), (1, .int (nI r))] := (congrArg (lv_has ls 4) (m_lc (congrArg Value.int q7) (m_lc rfl (m_lc rfl rfl)))).mp hl
              exact lp61 ((kN μ 24 0 - 0) + 1) 0 (Nat.zero_le _) (Nat.lt_succ_self _) _ _ _ hM hV hS ls (lv_sub hl [1, 2, 0] rfl)
        have q8 : (fuA i μ) = (fuR (kN μ 24 0) 0 (fuA (kN μ 24 0) μ)) := (by rw [show i = kN μ 24 0 by omega]; rfl)
        rw [q8] at hM
        have q9 : 0 = nI 0 := rfl
        replace hl : lv_has ls 4 [(1, .int (nI 0)), (0, .ref (B 100))] := (congrArg (lv_has ls 4) (m_lc (congrArg Value.int q9) (m_lc rfl rfl))).mp hl
        exact lp53 ((12 - 0) + 1) 0 (by omega) (Nat.lt_succ_self _) _ _ _ hM hV hS ls (lv_sub hl [1, 0] rfl)
      · replace c7 : ¬ kN (fuA i μ) 24 0 ≤ i := fun q9 => c7 ((nI_leI (a := kN (fuA i μ) 24 0) (b := i) (by omega) (by omega)).mpr q9)
        refine lv_aload_n hx hb dX5_findsUrgencies_10 rfl (lv_at hl 0 rfl) ?_
        refine m_get (C := RX5) (T := TX5) (N := 34) hx hb hts hi_X5 hown hK hV 31 (v := .ref (B 31)) (g_m31 hM) rfl (by decide) k85 (fun _ h9 => h9) dX5_findsUrgencies_11 ?_
        refine lv_iload_n hx hb dX5_findsUrgencies_14 rfl (lv_at hl 1 rfl) ?_
        refine lv_aload_n hx hb dX5_findsUrgencies_15 rfl (lv_at hl 0 rfl) ?_
        refine m_get (C := RX5) (T := TX5) (N := 34) hx hb hts hi_X5 hown hK hV 14 (v := .ref (B 14)) (g_m14 hM) rfl (by decide) k48 (fun _ h9 => h9) dX5_findsUrgencies_16 ?_
        refine lv_iload_n hx hb dX5_findsUrgencies_19 rfl (lv_at hl 1 rfl) ?_
        refine m_iald hx hb hK hV 0 (i := nI i) (x := (kI (fuA i μ) 14 i)) (a_m14 hM) rfl (vp_in_nI (by omega) (by omega)) (by rw [nI_clamp (by omega)] <;> first | rfl | (show oI (va_up _ _ _ _) = _; rw [vu_s]) | (show va_up _ _ _ _ = _; rw [vu_s])) dX5_findsUrgencies_20 ?_
        refine lv_if_le (tgt := 42) hx hb dX5_findsUrgencies_21 (by decide) (fun c21 => ?_) (fun c21 => ?_)
        · refine lv_ldc (v := 1000000) hx hb hown kk169 dX5_findsUrgencies_42 ?_
          refine m_iast hx hb hK hV hS 0 (i := nI i) (x := 1000000) (q_m31 hM (by omega) 1000000) rfl (vp_in_nI (by omega) (by omega)) dX5_findsUrgencies_44 (fun h H locs hV hS hM => ?_)
          refine lv_iinc (v := nI (i + 1)) (lv' := [(1, .int (nI (i + 1))), (0, .ref (B 100))]) hx hb dX5_findsUrgencies_45 hl (k := 1) rfl (show nI i + Int32.ofInt 1 = _ from nI_add i 1) (by decide) rfl (fun ls hl => ?_)
          refine lv_goto (tgt := 2) hx hb dX5_findsUrgencies_48 (by decide) ?_
          have q10 : (sI (fuA i μ) 31 (va_up (kI (fuA i μ) 31) i 1000000)) = (fuA (i + 1) μ) := (by show _ = sI (fuA i μ) 31 (va_up (kI (fuA i μ) 31) i (ownM (fuA i μ) i)); unfold ownM; rw [if_neg (fun q => Int32.not_lt.mpr c21 q.1)])
          rw [q10] at hM
          exact ih2 (i + 1) (by omega) (by omega) _ _ _ hM hV hS ls (lv_sub hl [1, 0] rfl)
        · refine lv_aload_n hx hb dX5_findsUrgencies_24 rfl (lv_at hl 0 rfl) ?_
          refine m_get (C := RX5) (T := TX5) (N := 34) hx hb hts hi_X5 hown hK hV 13 (v := .ref (B 13)) (g_m13 hM) rfl (by decide) k45 (fun _ h9 => h9) dX5_findsUrgencies_25 ?_
          refine lv_iload_n hx hb dX5_findsUrgencies_28 rfl (lv_at hl 1 rfl) ?_
          refine m_iald hx hb hK hV 0 (i := nI i) (x := (kI (fuA i μ) 13 i)) (a_m13 hM) rfl (vp_in_nI (by omega) (by omega)) (by rw [nI_clamp (by omega)] <;> first | rfl | (show oI (va_up _ _ _ _) = _; rw [vu_s]) | (show va_up _ _ _ _ = _; rw [vu_s])) dX5_findsUrgencies_29 ?_
          refine lv_if_le (tgt := 42) hx hb dX5_findsUrgencies_30 (by decide) (fun c30 => ?_) (fun c30 => ?_)
          · refine lv_ldc (v := 1000000) hx hb hown kk169 dX5_findsUrgencies_42 ?_
            refine m_iast hx hb hK hV hS 0 (i := nI i) (x := 1000000) (q_m31 hM (by omega) 1000000) rfl (vp_in_nI (by omega) (by omega)) dX5_findsUrgencies_44 (fun h H locs hV hS hM => ?_)
            refine lv_iinc (v := nI (i + 1)) (lv' := [(1, .int (nI (i + 1))), (0, .ref (B 100))]) hx hb dX5_findsUrgencies_45 hl (k := 1) rfl (show nI i + Int32.ofInt 1 = _ from nI_add i 1) (by decide) rfl (fun ls hl => ?_)
            refine lv_goto (tgt := 2) hx hb dX5_findsUrgencies_48 (by decide) ?_
            have q11 : (sI (fuA i μ) 31 (va_up (kI (fuA i μ) 31) i 1000000)) = (fuA (i + 1) μ) := (by show _ = sI (fuA i μ) 31 (va_up (kI (fuA i μ) 31) i (ownM (fuA i μ) i)); unfold ownM; rw [if_neg (fun q => Int32.not_lt.mpr c30 q.2)])
            rw [q11] at hM
            exact ih2 (i + 1) (by omega) (by omega) _ _ _ hM hV hS ls (lv_sub hl [1, 0] rfl)
          · refine lv_aload_n hx hb dX5_findsUrgencies_33 rfl (lv_at hl 0 rfl) ?_
            refine m_get (C := RX5) (T := TX5) (N := 34) hx hb hts hi_X5 hown hK hV 16 (v := .ref (B 16)) (g_m16 hM) rfl (by decide) k54 (fun _ h9 => h9) dX5_findsUrgencies_34 ?_
            refine lv_iload_n hx hb dX5_findsUrgencies_37 rfl (lv_at hl 1 rfl) ?_
            refine m_iald hx hb hK hV 0 (i := nI i) (x := (kI (fuA i μ) 16 i)) (a_m16 hM) rfl (vp_in_nI (by omega) (by omega)) (by rw [nI_clamp (by omega)] <;> first | rfl | (show oI (va_up _ _ _ _) = _; rw [vu_s]) | (show va_up _ _ _ _ = _; rw [vu_s])) dX5_findsUrgencies_38 ?_
            refine lv_goto (tgt := 44) hx hb dX5_findsUrgencies_39 (by decide) ?_
            refine m_iast hx hb hK hV hS 0 (i := nI i) (x := (kI (fuA i μ) 16 i)) (q_m31 hM (by omega) (kI (fuA i μ) 16 i)) rfl (vp_in_nI (by omega) (by omega)) dX5_findsUrgencies_44 (fun h H locs hV hS hM => ?_)
            refine lv_iinc (v := nI (i + 1)) (lv' := [(1, .int (nI (i + 1))), (0, .ref (B 100))]) hx hb dX5_findsUrgencies_45 hl (k := 1) rfl (show nI i + Int32.ofInt 1 = _ from nI_add i 1) (by decide) rfl (fun ls hl => ?_)
            refine lv_goto (tgt := 2) hx hb dX5_findsUrgencies_48 (by decide) ?_
            have q12 : (sI (fuA i μ) 31 (va_up (kI (fuA i μ) 31) i (kI (fuA i μ) 16 i))) = (fuA (i + 1) μ) := (by show _ = sI (fuA i μ) 31 (va_up (kI (fuA i μ) 31) i (ownM (fuA i μ) i)); unfold ownM; rw [if_pos ⟨Int32.not_le.mp c21, Int32.not_le.mp c30⟩])
            rw [q12] at hM
            exact ih2 (i + 1) (by omega) (by omega) _ _ _ hM hV hS ls (lv_sub hl [1, 0] rfl)
  have q13 : μ = (fuA 0 μ) := rfl
  rw [q13] at hM
  have q14 : 0 = nI 0 := rfl
  replace hl : lv_has ls 4 [(1, .int (nI 0)), (0, .ref (B 100))] := (congrArg (lv_has ls 4) (m_lc (congrArg Value.int q14) (m_lc rfl rfl))).mp hl
  exact lp2 ((kN μ 24 0 - 0) + 1) 0 (Nat.zero_le _) (Nat.lt_succ_self _) _ _ _ hM hV hS ls (lv_sub hl [1, 0] rfl)
set_option maxHeartbeats 4000000 in
set_option maxRecDepth 100000 in
theorem c_X5_urgencyOf {l : Launch} {D : va_G} {cs : mC} {df : Nat} {P : Nat → Prop} {h0 : mH} {B : Nat → Nat} {μ : KS} {hh : mH} (sz : Nat) (hM : DRep cs P h0 B μ hh) (x0 : Int32) : Met l yX5_urgencyOf wsX5_urgencyOf ({ frames := 2, cells := 0, slots := 0, locals := 46 }) (mPre [.ref (B 100), .int x0] D cs df hh sz) (va_Qi ((fun (r : Int32) (h1 : mH) => ∃ μ1 : KS, DRep cs P h0 B μ1 h1 ∧ om_urgencyOf μ x0 r μ1)) (mB D hh sz) (mA hh sz)) 0 0 (mA hh sz) := by
  refine Met.ofW (cc := cX5_urgencyOf) (maxL := 2) (ret := (some .int)) (by decide) rfl ?_
  intro p e s m args below meth c s₁ B0 hml hv
  obtain ⟨hargs, hsz, hV, hE⟩ := hv
  subst hsz
  have hx := B0.exec
  have hb := B0.bytes
  have hr := B0.returns
  have hlocks := B0.notSynchronized
  have hts := atoms_spec (ws := wsX5_urgencyOf) B0.pre
  have hown : s.vm.findClass RX5 = some m.cls := findClass_of_methodNamed B0.named
  have hK := hE.1.1
  have hA : ∀ q : Nat, s.heap.size ≤ q → mA hh s.heap.size q := mA.top
  have hS : va_S (mA hh s.heap.size) s.heap s.heap [] := va_S.rf
  have k91 : (Cond.fieldLink RX5 91 "TaskKernelModel" "thrown" "I").before args s = true := hts _ (by decide +kernel)
  have hi_X5 : ∀ w ∈ u_ws RX5 TX5 34, w ∈ wsX5_urgencyOf := by decide +kernel
  have k85 : (Cond.fieldLink RX5 85 "TaskKernelModel" "urgencies" "[I").before args s = true := hts _ (by decide +kernel)
  have kk169 : (Cond.constant RX5 169 (1000000)).before args s = true := hts _ (by decide +kernel)
  have hl := lv_entry ([.ref (B 100), .int x0]) (n := 2) (by first | exact Nat.le_of_ble_eq_true rfl | simp [lg_sl, rf_cat, ct_ref, ct_int, ct_null, ct_long])
  have hent := lg_entry_eq m ([.ref (B 100), .int x0]) 2
  rw [← hargs] at hent
  rw [hent]
  generalize (lg_sl ([.ref (B 100), .int x0]) ++ List.replicate (2 - (lg_sl ([.ref (B 100), .int x0])).length) Slot.unset).toArray = ls at hl ⊢
  replace hl : lv_has ls 2 [(0, .ref (B 100)), (1, .int x0)] := hl
  have hwf := hM.wf
  obtain ⟨⟨y0, y1, y2, y3⟩, y4, y5, y6, y7⟩ := hwf
  have eu : kN (fuM μ) 24 0 = kN μ 24 0 := by rw [(fuM_U μ).N]
  refine lv_aload_n hx hb dX5_urgencyOf_0 rfl (lv_at hl 0 rfl) ?_
  refine m_callv (va_runV (As := []) (rest := []) ⟨hx, hb, hml, hown, hts⟩ (c_X5_findsUrgencies (l := l) (s.heap.size) hM ) (cwV 0 hts gX5_urgencyOf_X5_findsUrgencies rfl rfl rfl (by decide +kernel) ⟨by decide, by decide⟩) (m_preV (r := (RX5, TX5, 34)) hE hV hS hA (hM.at 100 (by decide)) rfl) rfl rfl hl.1 rfl (lv_room (by first | exact Nat.le_of_ble_eq_true rfl | simp [rf_cat, ct_ref, ct_int, ct_null, ct_long])) dX5_urgencyOf_1 ⟨by decide, by decide⟩) hV hS hA (fun h H locs hV hS hp _ => ?_)
  replace hM := hp; clear hp
  refine lv_aload_n hx hb dX5_urgencyOf_4 rfl (lv_at hl 0 rfl) ?_
  refine lv_aload_n hx hb dX5_urgencyOf_5 rfl (lv_at hl 0 rfl) ?_
  refine lv_iload_n hx hb dX5_urgencyOf_6 rfl (lv_at hl 1 rfl) ?_
  refine m_calli (va_runV (As := [.int x0]) (rest := [.ref (B 100)]) ⟨hx, hb, hml, hown, hts⟩ (c_X5_isTask (l := l) (H.size) hM x0) (cwV 1 hts gX5_urgencyOf_X5_isTask rfl rfl rfl (by decide +kernel) ⟨by decide, by decide⟩) (m_preV (r := (RX5, TX5, 34)) hE hV hS hA (hM.at 100 (by decide)) rfl) rfl rfl hl.1 rfl (lv_room (by first | exact Nat.le_of_ble_eq_true rfl | simp [rf_cat, ct_ref, ct_int, ct_null, ct_long])) dX5_urgencyOf_7 ⟨by decide, by decide⟩) hV hS hA (fun r h1 H locs hV hS hp _ => ?_)
  obtain ⟨e1, e2⟩ := hp
  subst e2
  rw [e1] at hV; clear e1
  refine m_topi (y := bI ((inR x0 (kN μ 24 0)).isSome)) (by rw [eu]) ?_
  refine lv_if_eq (tgt := 24) hx hb dX5_urgencyOf_10 (by decide) (fun c10 => ?_) (fun c10 => ?_)
  · replace c10 : ((inR x0 (kN μ 24 0)).isSome) = false := bI_0.mp c10
    refine lv_iconst (v := 1) hx hb dX5_urgencyOf_24 (by decide) ?_
    refine lv_goto (tgt := 29) hx hb dX5_urgencyOf_25 (by decide) ?_
    refine m_put (C := RX5) (T := TX5) (N := 34) (v := .int 1) hx hb hts hi_X5 tyX5 tyX5_ok nmX5 hown hK hV hS 33 (p_m33 hM 1) rfl (by decide) k91 (fun _ h9 => h9) rfl (tyX5_ok 33 (by decide)) rfl rfl dX5_urgencyOf_29 (fun h H locs hV hS hM => ?_)
    refine lv_aload_n hx hb dX5_urgencyOf_32 rfl (lv_at hl 0 rfl) ?_
    refine m_get (C := RX5) (T := TX5) (N := 34) hx hb hts hi_X5 hown hK hV 33 (v := .int 1) (by have z9 := g_m33 hM; exact z9) rfl (by decide) k91 (fun _ h9 => h9) dX5_urgencyOf_33 ?_
    refine lv_if_ne (tgt := 48) hx hb dX5_urgencyOf_36 (by decide) (fun c36 => ?_) (fun c36 => (absurd c36 (by decide)))
    refine lv_iconst (v := (-1)) hx hb dX5_urgencyOf_48 (by decide) ?_
    exact m_iret (v := (-1)) hx hb hr hlocks hV hS (⟨_, hM, Or.inl ⟨Option.not_isSome_iff_eq_none.mp (by rw [c10]; decide), rfl⟩⟩) dX5_urgencyOf_49
  · replace c10 : ((inR x0 (kN μ 24 0)).isSome) = true := bI_1.mp c10
    obtain ⟨t, ht⟩ := Option.isSome_iff_exists.mp c10
    obtain ⟨rfl, bt⟩ := inR_some ht
    refine lv_aload_n hx hb dX5_urgencyOf_13 rfl (lv_at hl 0 rfl) ?_
    refine m_get (C := RX5) (T := TX5) (N := 34) hx hb hts hi_X5 hown hK hV 31 (v := .ref (B 31)) (g_m31 hM) rfl (by decide) k85 (fun _ h9 => h9) dX5_urgencyOf_14 ?_
    refine lv_iload_n hx hb dX5_urgencyOf_17 rfl (lv_at hl 1 rfl) ?_
    refine m_iald hx hb hK hV 0 (i := nI t) (x := (kI (fuM μ) 31 t)) (a_m31 hM) rfl (vp_in_nI (by omega) (by omega)) (by rw [nI_clamp (by omega)] <;> first | rfl | (show oI (va_up _ _ _ _) = _; rw [vu_s]) | (show va_up _ _ _ _ = _; rw [vu_s])) dX5_urgencyOf_18 ?_
    refine lv_ldc (v := 1000000) hx hb hown kk169 dX5_urgencyOf_19 ?_
    refine lv_icmp_ne (tgt := 28) hx hb dX5_urgencyOf_21 (by decide) (fun c21 => ?_) (fun c21 => ?_)
    · refine lv_iconst (v := 0) hx hb dX5_urgencyOf_28 (by decide) ?_
      refine m_put (C := RX5) (T := TX5) (N := 34) (v := .int 0) hx hb hts hi_X5 tyX5 tyX5_ok nmX5 hown hK hV hS 33 (p_m33 hM 0) rfl (by decide) k91 (fun _ h9 => h9) rfl (tyX5_ok 33 (by decide)) rfl rfl dX5_urgencyOf_29 (fun h H locs hV hS hM => ?_)
      refine lv_aload_n hx hb dX5_urgencyOf_32 rfl (lv_at hl 0 rfl) ?_
      refine m_get (C := RX5) (T := TX5) (N := 34) hx hb hts hi_X5 hown hK hV 33 (v := .int 0) (by have z9 := g_m33 hM; exact z9) rfl (by decide) k91 (fun _ h9 => h9) dX5_urgencyOf_33 ?_
      refine lv_if_ne (tgt := 48) hx hb dX5_urgencyOf_36 (by decide) (fun c36 => (absurd (by decide) c36)) (fun c36 => ?_)
      refine lv_aload_n hx hb dX5_urgencyOf_39 rfl (lv_at hl 0 rfl) ?_
      refine m_get (C := RX5) (T := TX5) (N := 34) hx hb hts hi_X5 hown hK hV 31 (v := .ref (B 31)) (g_m31 hM) rfl (by decide) k85 (fun _ h9 => h9) dX5_urgencyOf_40 ?_
      refine lv_iload_n hx hb dX5_urgencyOf_43 rfl (lv_at hl 1 rfl) ?_
      refine m_iald hx hb hK hV 0 (i := nI t) (x := (kI (fuM μ) 31 t)) (a_m31 hM) rfl (vp_in_nI (by omega) (by omega)) (by rw [nI_clamp (by omega)] <;> first | rfl | (show oI (va_up _ _ _ _) = _; rw [vu_s]) | (show va_up _ _ _ _ = _; rw [vu_s])) dX5_urgencyOf_44 ?_
      refine lv_goto (tgt := 49) hx hb dX5_urgencyOf_45 (by decide) ?_
      exact m_iret (v := (kI (fuM μ) 31 t)) hx hb hr hlocks hV hS (⟨_, hM, Or.inr (Or.inr ⟨t, ht, c21, rfl, rfl⟩)⟩) dX5_urgencyOf_49
    · refine lv_iconst (v := 1) hx hb dX5_urgencyOf_24 (by decide) ?_
      refine lv_goto (tgt := 29) hx hb dX5_urgencyOf_25 (by decide) ?_
      refine m_put (C := RX5) (T := TX5) (N := 34) (v := .int 1) hx hb hts hi_X5 tyX5 tyX5_ok nmX5 hown hK hV hS 33 (p_m33 hM 1) rfl (by decide) k91 (fun _ h9 => h9) rfl (tyX5_ok 33 (by decide)) rfl rfl dX5_urgencyOf_29 (fun h H locs hV hS hM => ?_)
      refine lv_aload_n hx hb dX5_urgencyOf_32 rfl (lv_at hl 0 rfl) ?_
      refine m_get (C := RX5) (T := TX5) (N := 34) hx hb hts hi_X5 hown hK hV 33 (v := .int 1) (by have z9 := g_m33 hM; exact z9) rfl (by decide) k91 (fun _ h9 => h9) dX5_urgencyOf_33 ?_
      refine lv_if_ne (tgt := 48) hx hb dX5_urgencyOf_36 (by decide) (fun c36 => ?_) (fun c36 => (absurd c36 (by decide)))
      refine lv_iconst (v := (-1)) hx hb dX5_urgencyOf_48 (by decide) ?_
      exact m_iret (v := (-1)) hx hb hr hlocks hV hS (⟨_, hM, Or.inr (Or.inl ⟨t, ht, c21, rfl⟩)⟩) dX5_urgencyOf_49
set_option maxHeartbeats 4000000 in
set_option maxRecDepth 100000 in
theorem c_X5_waiter {l : Launch} {D : va_G} {cs : mC} {df : Nat} {P : Nat → Prop} {h0 : mH} {B : Nat → Nat} {μ : KS} {hh : mH} (sz : Nat) (hM : DRep cs P h0 B μ hh) (l9 : Nat) (x0 : Int32) (hl9 : l9 < 4) : Met l yX5_waiter wsX5_waiter ({ frames := 0, cells := 0, slots := 0, locals := 0 }) (mPre [.ref (B 100), .int (nI l9), .int x0] D cs df hh sz) (va_Qi ((fun (r : Int32) (h1 : mH) => h1 = hh ∧ r = oI (wtT μ l9 x0))) (mB D hh sz) (mA hh sz)) 0 0 (mA hh sz) := by
  refine Met.ofW (cc := cX5_waiter) (maxL := 6) (ret := (some .int)) (by decide) rfl ?_
  intro p e s m args below meth c s₁ B0 hml hv
  obtain ⟨hargs, hsz, hV, hE⟩ := hv
  subst hsz
  have hx := B0.exec
  have hb := B0.bytes
  have hr := B0.returns
  have hlocks := B0.notSynchronized
  have hts := atoms_spec (ws := wsX5_waiter) B0.pre
  have hown : s.vm.findClass RX5 = some m.cls := findClass_of_methodNamed B0.named
  have hK := hE.1.1
  have hA : ∀ q : Nat, s.heap.size ≤ q → mA hh s.heap.size q := mA.top
  have hS : va_S (mA hh s.heap.size) s.heap s.heap [] := va_S.rf
  have hi_X5 : ∀ w ∈ u_ws RX5 TX5 34, w ∈ wsX5_waiter := by decide +kernel
  have k117 : (Cond.fieldLink RX5 117 "TaskKernelModel" "tasks" "I").before args s = true := hts _ (by decide +kernel)
  have k73 : (Cond.fieldLink RX5 73 "TaskKernelModel" "waitsFor" "[I").before args s = true := hts _ (by decide +kernel)
  have k76 : (Cond.fieldLink RX5 76 "TaskKernelModel" "waitsSince" "[I").before args s = true := hts _ (by decide +kernel)
  have hl := lv_entry ([.ref (B 100), .int (nI l9), .int x0]) (n := 6) (by first | exact Nat.le_of_ble_eq_true rfl | simp [lg_sl, rf_cat, ct_ref, ct_int, ct_null, ct_long])
  have hent := lg_entry_eq m ([.ref (B 100), .int (nI l9), .int x0]) 6
  rw [← hargs] at hent
  rw [hent]
  generalize (lg_sl ([.ref (B 100), .int (nI l9), .int x0]) ++ List.replicate (6 - (lg_sl ([.ref (B 100), .int (nI l9), .int x0])).length) Slot.unset).toArray = ls at hl ⊢
  replace hl : lv_has ls 6 [(0, .ref (B 100)), (1, .int (nI l9)), (2, .int x0)] := hl
  have hwf := hM.wf
  obtain ⟨⟨y0, y1, y2, y3⟩, y4, y5, y6, y7⟩ := hwf
  refine lv_iconst (v := 0) hx hb dX5_waiter_0 (by decide) ?_
  refine lv_istore_n (lv' := [(3, .int 0), (0, .ref (B 100)), (1, .int (nI l9)), (2, .int x0)]) hx hb dX5_waiter_1 rfl hl (by decide) rfl (fun ls hl => ?_)
  have lp2 : ∀ (fu : Nat) (i : Nat), (i ≤ kN μ 24 0) → (wtM μ l9 x0 (kN μ 24 0 - i) i = wtT μ l9 x0) → kN μ 24 0 - i < fu → ∀ (H : Heap) (locs : List Loc), mV D hh (mA hh s.heap.size) H → va_S (mA hh s.heap.size) s.heap H locs → ∀ (ls : Array Slot), lv_has ls 6 [(0, .ref (B 100)), (1, .int (nI l9)), (2, .int x0), (3, .int (nI i))] → W p l e ({ frames := 0, cells := 0, slots := 0, locals := 0 } : Room) s m args below meth c H locs 0 0 (MQ below (va_Qi ((fun (r : Int32) (h1 : mH) => h1 = hh ∧ r = oI (wtT μ l9 x0))) (mB D hh s.heap.size) (mA hh s.heap.size)) args s 0 0 (mA hh s.heap.size)) (F0 m 2 ls []) := by
    intro fu
    induction fu with
    | zero =>
      intro i hi hf hfu
      exact absurd hfu (Nat.not_lt_zero _)
    | succ fu ih2 =>
      intro i hi hf hfu H locs hV hS ls hl
      refine lv_iload_n hx hb dX5_waiter_2 rfl (lv_at hl 3 rfl) ?_
      refine lv_aload_n hx hb dX5_waiter_3 rfl (lv_at hl 0 rfl) ?_
      refine m_get (C := RX5) (T := TX5) (N := 34) hx hb hts hi_X5 hown hK hV 24 (v := .int (nI (kN μ 24 0))) (by have z9 := g_m24 hM; exact z9) rfl (by decide) k117 (fun _ h9 => h9) dX5_waiter_4 ?_
      refine lv_icmp_ge (tgt := 92) hx hb dX5_waiter_7 (by decide) (fun c7 => ?_) (fun c7 => ?_)
      · replace c7 : kN μ 24 0 ≤ i := (nI_leI (a := kN μ 24 0) (b := i) (by omega) (by omega)).mp c7
        refine lv_iconst (v := (-1)) hx hb dX5_waiter_92 (by decide) ?_
        exact m_iret (v := (-1)) hx hb hr hlocks hV hS (⟨rfl, by rw [← hf, show kN μ 24 0 - i = 0 by omega]; rfl⟩) dX5_waiter_93
      · replace c7 : ¬ kN μ 24 0 ≤ i := fun q9 => c7 ((nI_leI (a := kN μ 24 0) (b := i) (by omega) (by omega)).mpr q9)
        refine lv_iconst (v := 0) hx hb dX5_waiter_10 (by decide) ?_
        refine lv_istore (lv' := [(4, .int 0), (0, .ref (B 100)), (1, .int (nI l9)), (2, .int x0), (3, .int (nI i))]) hx hb dX5_waiter_11 hl (by decide) rfl (fun ls hl => ?_)
        refine lv_iconst (v := 0) hx hb dX5_waiter_13 (by decide) ?_
        refine lv_istore (lv' := [(5, .int 0), (4, .int 0), (0, .ref (B 100)), (1, .int (nI l9)), (2, .int x0), (3, .int (nI i))]) hx hb dX5_waiter_14 hl (by decide) rfl (fun ls hl => ?_)
        have lp16 : ∀ (fu : Nat) (k : Nat), (k ≤ kN μ 24 0) → kN μ 24 0 - k < fu → ∀ (H : Heap) (locs : List Loc), mV D hh (mA hh s.heap.size) H → va_S (mA hh s.heap.size) s.heap H locs → ∀ (ls : Array Slot), lv_has ls 6 [(0, .ref (B 100)), (1, .int (nI l9)), (2, .int x0), (3, .int (nI i)), (4, .int (nI (ahM μ l9 i k))), (5, .int (nI k))] → W p l e ({ frames := 0, cells := 0, slots := 0, locals := 0 } : Room) s m args below meth c H locs 0 0 (MQ below (va_Qi ((fun (r : Int32) (h1 : mH) => h1 = hh ∧ r = oI (wtT μ l9 x0))) (mB D hh s.heap.size) (mA hh s.heap.size)) args s 0 0 (mA hh s.heap.size)) (F0 m 16 ls []) := by
          intro fu
          induction fu with
          | zero =>
            intro k hk hfu
            exact absurd hfu (Nat.not_lt_zero _)
          | succ fu ih16 =>
            intro k hk hfu H locs hV hS ls hl
            have ak := ahM_le μ l9 i k
            refine lv_iload hx hb dX5_waiter_16 (lv_at hl 5 rfl) ?_
            refine lv_aload_n hx hb dX5_waiter_18 rfl (lv_at hl 0 rfl) ?_
            refine m_get (C := RX5) (T := TX5) (N := 34) hx hb hts hi_X5 hown hK hV 24 (v := .int (nI (kN μ 24 0))) (by have z9 := g_m24 hM; exact z9) rfl (by decide) k117 (fun _ h9 => h9) dX5_waiter_19 ?_
            refine lv_icmp_ge (tgt := 68) hx hb dX5_waiter_22 (by decide) (fun c22 => ?_) (fun c22 => ?_)
            · replace c22 : kN μ 24 0 ≤ k := (nI_leI (a := kN μ 24 0) (b := k) (by omega) (by omega)).mp c22
              refine lv_aload_n hx hb dX5_waiter_68 rfl (lv_at hl 0 rfl) ?_
              refine m_get (C := RX5) (T := TX5) (N := 34) hx hb hts hi_X5 hown hK hV 22 (v := .ref (B 22)) (g_m22 hM) rfl (by decide) k73 (fun _ h9 => h9) dX5_waiter_69 ?_
              refine lv_iload_n hx hb dX5_waiter_72 rfl (lv_at hl 3 rfl) ?_
              refine m_iald hx hb hK hV 0 (i := nI i) (x := oI (kO μ 22 i)) (a_m22 hM) rfl (vp_in_nI (by omega) (by omega)) (by rw [nI_clamp (by omega)] <;> first | rfl | (show oI (va_up _ _ _ _) = _; rw [vu_s]) | (show va_up _ _ _ _ = _; rw [vu_s])) dX5_waiter_73 ?_
              refine lv_iload_n hx hb dX5_waiter_74 rfl (lv_at hl 1 rfl) ?_
              refine lv_icmp_ne (tgt := 86) hx hb dX5_waiter_75 (by decide) (fun c75 => ?_) (fun c75 => ?_)
              · replace c75 : ¬ kO μ 22 i = some l9 := fun q9 => c75 ((oI_n (fun k9 e9 => by have : k9 < 4 := hM.wf.2.2.2.1 i (by first | assumption | (show i < kN μ 24 0; omega)) _ e9; omega) (by omega)).mpr q9)
                refine lv_iinc (v := nI (i + 1)) (lv' := [(3, .int (nI (i + 1))), (0, .ref (B 100)), (1, .int (nI l9)), (2, .int x0), (4, .int (nI (ahM μ l9 i k))), (5, .int (nI k))]) hx hb dX5_waiter_86 hl (k := 3) rfl (show nI i + Int32.ofInt 1 = _ from nI_add i 1) (by decide) rfl (fun ls hl => ?_)
                refine lv_goto (tgt := 2) hx hb dX5_waiter_89 (by decide) ?_
                have w9 : wtM μ l9 x0 (kN μ 24 0 - (i + 1)) (i + 1) = wtT μ l9 x0 := by rw [← hf, show kN μ 24 0 - i = (kN μ 24 0 - (i + 1)) + 1 by omega, wtM, if_neg (fun q => c75 q.1)]
                exact ih2 (i + 1) (by omega) w9 (by omega) _ _ hV hS ls (lv_sub hl [1, 2, 3, 0] rfl)
              · replace c75 : kO μ 22 i = some l9 := (oI_n (fun k9 e9 => by have : k9 < 4 := hM.wf.2.2.2.1 i (by first | assumption | (show i < kN μ 24 0; omega)) _ e9; omega) (by omega)).mp c75
                refine lv_iload hx hb dX5_waiter_78 (lv_at hl 4 rfl) ?_
                refine lv_iload_n hx hb dX5_waiter_80 rfl (lv_at hl 2 rfl) ?_
                refine lv_icmp_ne (tgt := 86) hx hb dX5_waiter_81 (by decide) (fun c81 => ?_) (fun c81 => ?_)
                · refine lv_iinc (v := nI (i + 1)) (lv' := [(3, .int (nI (i + 1))), (0, .ref (B 100)), (1, .int (nI l9)), (2, .int x0), (4, .int (nI (ahM μ l9 i k))), (5, .int (nI k))]) hx hb dX5_waiter_86 hl (k := 3) rfl (show nI i + Int32.ofInt 1 = _ from nI_add i 1) (by decide) rfl (fun ls hl => ?_)
                  refine lv_goto (tgt := 2) hx hb dX5_waiter_89 (by decide) ?_
                  have w9 : wtM μ l9 x0 (kN μ 24 0 - (i + 1)) (i + 1) = wtT μ l9 x0 := by rw [← hf, show kN μ 24 0 - i = (kN μ 24 0 - (i + 1)) + 1 by omega, wtM, if_neg (fun q => c81 (by rw [show k = kN μ 24 0 by omega]; exact q.2))]
                  exact ih2 (i + 1) (by omega) w9 (by omega) _ _ hV hS ls (lv_sub hl [1, 2, 3, 0] rfl)
                · refine lv_iload_n hx hb dX5_waiter_84 rfl (lv_at hl 3 rfl) ?_
                  exact m_iret (v := nI i) hx hb hr hlocks hV hS (⟨rfl, by rw [← hf, show kN μ 24 0 - i = (kN μ 24 0 - (i + 1)) + 1 by omega, wtM, if_pos ⟨c75, by rw [show kN μ 24 0 = k by omega]; exact c81⟩]; rfl⟩) dX5_waiter_85
            · replace c22 : ¬ kN μ 24 0 ≤ k := fun q9 => c22 ((nI_leI (a := kN μ 24 0) (b := k) (by omega) (by omega)).mpr q9)
              refine lv_iload hx hb dX5_waiter_25 (lv_at hl 4 rfl) ?_
              refine lv_aload_n hx hb dX5_waiter_27 rfl (lv_at hl 0 rfl) ?_
              refine m_get (C := RX5) (T := TX5) (N := 34) hx hb hts hi_X5 hown hK hV 22 (v := .ref (B 22)) (g_m22 hM) rfl (by decide) k73 (fun _ h9 => h9) dX5_waiter_28 ?_
              refine lv_iload hx hb dX5_waiter_31 (lv_at hl 5 rfl) ?_
              refine m_iald hx hb hK hV 0 (i := nI k) (x := oI (kO μ 22 k)) (a_m22 hM) rfl (vp_in_nI (by omega) (by omega)) (by rw [nI_clamp (by omega)] <;> first | rfl | (show oI (va_up _ _ _ _) = _; rw [vu_s]) | (show va_up _ _ _ _ = _; rw [vu_s])) dX5_waiter_33 ?_
              refine lv_iload_n hx hb dX5_waiter_34 rfl (lv_at hl 1 rfl) ?_
              refine lv_icmp_ne (tgt := 58) hx hb dX5_waiter_35 (by decide) (fun c35 => ?_) (fun c35 => ?_)
              · replace c35 : ¬ kO μ 22 k = some l9 := fun q9 => c35 ((oI_n (fun k9 e9 => by have : k9 < 4 := hM.wf.2.2.2.1 k (by first | assumption | (show k < kN μ 24 0; omega)) _ e9; omega) (by omega)).mpr q9)
                refine lv_iconst (v := 0) hx hb dX5_waiter_58 (by decide) ?_
                refine lv_iadd hx hb dX5_waiter_59 ?_
                refine m_topi (y := nI ((ahM μ l9 i k) + 0)) (nI_add (ahM μ l9 i k) 0) ?_
                refine lv_istore (lv' := [(4, .int (nI ((ahM μ l9 i k) + 0))), (0, .ref (B 100)), (1, .int (nI l9)), (2, .int x0), (3, .int (nI i)), (5, .int (nI k))]) hx hb dX5_waiter_60 hl (by decide) rfl (fun ls hl => ?_)
                refine lv_iinc (v := nI (k + 1)) (lv' := [(5, .int (nI (k + 1))), (4, .int (nI ((ahM μ l9 i k) + 0))), (0, .ref (B 100)), (1, .int (nI l9)), (2, .int x0), (3, .int (nI i))]) hx hb dX5_waiter_62 hl (k := 5) rfl (show nI k + Int32.ofInt 1 = _ from nI_add k 1) (by decide) rfl (fun ls hl => ?_)
                refine lv_goto (tgt := 16) hx hb dX5_waiter_65 (by decide) ?_
                have q1 : nI ((ahM μ l9 i k) + 0) = nI (ahM μ l9 i (k + 1)) := (by rw [ahM, if_neg (fun q => c35 q.1)])
                replace hl : lv_has ls 6 [(5, .int (nI (k + 1))), (4, .int (nI (ahM μ l9 i (k + 1)))), (0, .ref (B 100)), (1, .int (nI l9)), (2, .int x0), (3, .int (nI i))] := (congrArg (lv_has ls 6) (m_lc rfl (m_lc (congrArg Value.int q1) (m_lc rfl (m_lc rfl (m_lc rfl (m_lc rfl rfl))))))).mp hl
                exact ih16 (k + 1) (by omega) (by omega) _ _ hV hS ls (lv_sub hl [2, 3, 4, 5, 1, 0] rfl)
              · replace c35 : kO μ 22 k = some l9 := (oI_n (fun k9 e9 => by have : k9 < 4 := hM.wf.2.2.2.1 k (by first | assumption | (show k < kN μ 24 0; omega)) _ e9; omega) (by omega)).mp c35
                refine lv_aload_n hx hb dX5_waiter_38 rfl (lv_at hl 0 rfl) ?_
                refine m_get (C := RX5) (T := TX5) (N := 34) hx hb hts hi_X5 hown hK hV 23 (v := .ref (B 23)) (g_m23 hM) rfl (by decide) k76 (fun _ h9 => h9) dX5_waiter_39 ?_
                refine lv_iload hx hb dX5_waiter_42 (lv_at hl 5 rfl) ?_
                refine m_iald hx hb hK hV 0 (i := nI k) (x := (kI μ 23 k)) (a_m23 hM) rfl (vp_in_nI (by omega) (by omega)) (by rw [nI_clamp (by omega)] <;> first | rfl | (show oI (va_up _ _ _ _) = _; rw [vu_s]) | (show va_up _ _ _ _ = _; rw [vu_s])) dX5_waiter_44 ?_
                refine lv_aload_n hx hb dX5_waiter_45 rfl (lv_at hl 0 rfl) ?_
                refine m_get (C := RX5) (T := TX5) (N := 34) hx hb hts hi_X5 hown hK hV 23 (v := .ref (B 23)) (g_m23 hM) rfl (by decide) k76 (fun _ h9 => h9) dX5_waiter_46 ?_
                refine lv_iload_n hx hb dX5_waiter_49 rfl (lv_at hl 3 rfl) ?_
                refine m_iald hx hb hK hV 0 (i := nI i) (x := (kI μ 23 i)) (a_m23 hM) rfl (vp_in_nI (by omega) (by omega)) (by rw [nI_clamp (by omega)] <;> first | rfl | (show oI (va_up _ _ _ _) = _; rw [vu_s]) | (show va_up _ _ _ _ = _; rw [vu_s])) dX5_waiter_50 ?_
                refine lv_icmp_ge (tgt := 58) hx hb dX5_waiter_51 (by decide) (fun c51 => ?_) (fun c51 => ?_)
                · refine lv_iconst (v := 0) hx hb dX5_waiter_58 (by decide) ?_
                  refine lv_iadd hx hb dX5_waiter_59 ?_
                  refine m_topi (y := nI ((ahM μ l9 i k) + 0)) (nI_add (ahM μ l9 i k) 0) ?_
                  refine lv_istore (lv' := [(4, .int (nI ((ahM μ l9 i k) + 0))), (0, .ref (B 100)), (1, .int (nI l9)), (2, .int x0), (3, .int (nI i)), (5, .int (nI k))]) hx hb dX5_waiter_60 hl (by decide) rfl (fun ls hl => ?_)
                  refine lv_iinc (v := nI (k + 1)) (lv' := [(5, .int (nI (k + 1))), (4, .int (nI ((ahM μ l9 i k) + 0))), (0, .ref (B 100)), (1, .int (nI l9)), (2, .int x0), (3, .int (nI i))]) hx hb dX5_waiter_62 hl (k := 5) rfl (show nI k + Int32.ofInt 1 = _ from nI_add k 1) (by decide) rfl (fun ls hl => ?_)
                  refine lv_goto (tgt := 16) hx hb dX5_waiter_65 (by decide) ?_
                  have q2 : nI ((ahM μ l9 i k) + 0) = nI (ahM μ l9 i (k + 1)) := (by rw [ahM, if_neg (fun q => Int32.not_lt.mpr c51 q.2)])
                  replace hl : lv_has ls 6 [(5, .int (nI (k + 1))), (4, .int (nI (ahM μ l9 i (k + 1)))), (0, .ref (B 100)), (1, .int (nI l9)), (2, .int x0), (3, .int (nI i))] := (congrArg (lv_has ls 6) (m_lc rfl (m_lc (congrArg Value.int q2) (m_lc rfl (m_lc rfl (m_lc rfl (m_lc rfl rfl))))))).mp hl
                  exact ih16 (k + 1) (by omega) (by omega) _ _ hV hS ls (lv_sub hl [2, 3, 4, 5, 1, 0] rfl)
                · refine lv_iconst (v := 1) hx hb dX5_waiter_54 (by decide) ?_
                  refine lv_goto (tgt := 59) hx hb dX5_waiter_55 (by decide) ?_
                  refine lv_iadd hx hb dX5_waiter_59 ?_
                  refine m_topi (y := nI ((ahM μ l9 i k) + 1)) (nI_add (ahM μ l9 i k) 1) ?_
                  refine lv_istore (lv' := [(4, .int (nI ((ahM μ l9 i k) + 1))), (0, .ref (B 100)), (1, .int (nI l9)), (2, .int x0), (3, .int (nI i)), (5, .int (nI k))]) hx hb dX5_waiter_60 hl (by decide) rfl (fun ls hl => ?_)
                  refine lv_iinc (v := nI (k + 1)) (lv' := [(5, .int (nI (k + 1))), (4, .int (nI ((ahM μ l9 i k) + 1))), (0, .ref (B 100)), (1, .int (nI l9)), (2, .int x0), (3, .int (nI i))]) hx hb dX5_waiter_62 hl (k := 5) rfl (show nI k + Int32.ofInt 1 = _ from nI_add k 1) (by decide) rfl (fun ls hl => ?_)
                  refine lv_goto (tgt := 16) hx hb dX5_waiter_65 (by decide) ?_
                  have q3 : nI ((ahM μ l9 i k) + 1) = nI (ahM μ l9 i (k + 1)) := (by rw [ahM, if_pos ⟨c35, Int32.not_le.mp c51⟩])
                  replace hl : lv_has ls 6 [(5, .int (nI (k + 1))), (4, .int (nI (ahM μ l9 i (k + 1)))), (0, .ref (B 100)), (1, .int (nI l9)), (2, .int x0), (3, .int (nI i))] := (congrArg (lv_has ls 6) (m_lc rfl (m_lc (congrArg Value.int q3) (m_lc rfl (m_lc rfl (m_lc rfl (m_lc rfl rfl))))))).mp hl
                  exact ih16 (k + 1) (by omega) (by omega) _ _ hV hS ls (lv_sub hl [2, 3, 4, 5, 1, 0] rfl)
        have q4 : 0 = nI (ahM μ l9 i 0) := rfl
        have q5 : 0 = nI 0 := rfl
        replace hl : lv_has ls 6 [(5, .int (nI 0)), (4, .int (nI (ahM μ l9 i 0))), (0, .ref (B 100)), (1, .int (nI l9)), (2, .int x0), (3, .int (nI i))] := (congrArg (lv_has ls 6) (m_lc (congrArg Value.int q5) (m_lc (congrArg Value.int q4) (m_lc rfl (m_lc rfl (m_lc rfl (m_lc rfl rfl))))))).mp hl
        exact lp16 ((kN μ 24 0 - 0) + 1) 0 (Nat.zero_le _) (Nat.lt_succ_self _) _ _ hV hS ls (lv_sub hl [2, 3, 4, 5, 1, 0] rfl)
  have q6 : 0 = nI 0 := rfl
  replace hl : lv_has ls 6 [(3, .int (nI 0)), (0, .ref (B 100)), (1, .int (nI l9)), (2, .int x0)] := (congrArg (lv_has ls 6) (m_lc (congrArg Value.int q6) (m_lc rfl (m_lc rfl (m_lc rfl rfl))))).mp hl
  exact lp2 ((kN μ 24 0 - 0) + 1) 0 (Nat.zero_le _) rfl (Nat.lt_succ_self _) _ _ hV hS ls (lv_sub hl [1, 2, 3, 0] rfl)
set_option maxHeartbeats 4000000 in
set_option maxRecDepth 100000 in
theorem c_X5_passesOn {l : Launch} {D : va_G} {cs : mC} {df : Nat} {P : Nat → Prop} {h0 : mH} {B : Nat → Nat} {μ : KS} {hh : mH} (sz : Nat) (hM : DRep cs P h0 B μ hh) (l9 : Nat) (hl9 : l9 < 4) : Met l yX5_passesOn wsX5_passesOn ({ frames := 1, cells := 0, slots := 0, locals := 25 }) (mPre [.ref (B 100), .int (nI l9)] D cs df hh sz) (va_Qv ((fun (h1 : mH) => DRep cs P h0 B (pnM μ l9) h1)) (mB D hh sz) (mA hh sz)) 0 0 (mA hh sz) := by
  refine Met.ofW (cc := cX5_passesOn) (maxL := 3) (ret := none) (by decide) rfl ?_
  intro p e s m args below meth c s₁ B0 hml hv
  obtain ⟨hargs, hsz, hV, hE⟩ := hv
  subst hsz
  have hx := B0.exec
  have hb := B0.bytes
  have hr := B0.returns
  have hlocks := B0.notSynchronized
  have hts := atoms_spec (ws := wsX5_passesOn) B0.pre
  have hown : s.vm.findClass RX5 = some m.cls := findClass_of_methodNamed B0.named
  have hK := hE.1.1
  have hA : ∀ q : Nat, s.heap.size ≤ q → mA hh s.heap.size q := mA.top
  have hS : va_S (mA hh s.heap.size) s.heap s.heap [] := va_S.rf
  have hi_X5 : ∀ w ∈ u_ws RX5 TX5 34, w ∈ wsX5_passesOn := by decide +kernel
  have k79 : (Cond.fieldLink RX5 79 "TaskKernelModel" "holders" "[I").before args s = true := hts _ (by decide +kernel)
  have k73 : (Cond.fieldLink RX5 73 "TaskKernelModel" "waitsFor" "[I").before args s = true := hts _ (by decide +kernel)
  have hl := lv_entry ([.ref (B 100), .int (nI l9)]) (n := 3) (by first | exact Nat.le_of_ble_eq_true rfl | simp [lg_sl, rf_cat, ct_ref, ct_int, ct_null, ct_long])
  have hent := lg_entry_eq m ([.ref (B 100), .int (nI l9)]) 3
  rw [← hargs] at hent
  rw [hent]
  generalize (lg_sl ([.ref (B 100), .int (nI l9)]) ++ List.replicate (3 - (lg_sl ([.ref (B 100), .int (nI l9)])).length) Slot.unset).toArray = ls at hl ⊢
  replace hl : lv_has ls 3 [(0, .ref (B 100)), (1, .int (nI l9))] := hl
  have hwf := hM.wf
  obtain ⟨⟨y0, y1, y2, y3⟩, y4, y5, y6, y7⟩ := hwf
  refine lv_aload_n hx hb dX5_passesOn_0 rfl (lv_at hl 0 rfl) ?_
  refine lv_iload_n hx hb dX5_passesOn_1 rfl (lv_at hl 1 rfl) ?_
  refine lv_iconst (v := 0) hx hb dX5_passesOn_2 (by decide) ?_
  refine m_calli (va_runV (As := [.int (nI l9), .int 0]) (rest := []) ⟨hx, hb, hml, hown, hts⟩ (c_X5_waiter (l := l) (s.heap.size) hM l9 0 (by first | assumption | omega)) (cwV 2 hts gX5_passesOn_X5_waiter rfl rfl rfl (by decide +kernel) ⟨by decide, by decide⟩) (m_preV (r := (RX5, TX5, 34)) hE hV hS hA (hM.at 100 (by decide)) rfl) rfl rfl hl.1 rfl (lv_room (by first | exact Nat.le_of_ble_eq_true rfl | simp [rf_cat, ct_ref, ct_int, ct_null, ct_long])) dX5_passesOn_3 ⟨by decide, by decide⟩) hV hS hA (fun r h1 H locs hV hS hp _ => ?_)
  obtain ⟨e1, e2⟩ := hp
  subst e2
  rw [e1] at hV; clear e1
  refine lv_istore_n (lv' := [(2, .int (oI (wtT μ l9 0))), (0, .ref (B 100)), (1, .int (nI l9))]) hx hb dX5_passesOn_6 rfl hl (by decide) rfl (fun ls hl => ?_)
  refine lv_aload_n hx hb dX5_passesOn_7 rfl (lv_at hl 1 rfl) ?_
  refine m_get (C := RX5) (T := TX5) (N := 34) hx hb hts hi_X5 hown hK hV 26 (v := .ref (B 26)) (g_m26 hM) rfl (by decide) k79 (fun _ h9 => h9) dX5_passesOn_8 ?_
  refine lv_iload_n hx hb dX5_passesOn_11 rfl (lv_at hl 2 rfl) ?_
  refine lv_iload_n hx hb dX5_passesOn_12 rfl (lv_at hl 0 rfl) ?_
  refine m_iast hx hb hK hV hS 0 (i := nI l9) (x := oI (wtT μ l9 0)) (q_m26 hM (by omega) (wtT μ l9 0) (dWF_26 hM.wf _ _ (fun t h => wtT_lt h))) rfl (vp_in_nI (by omega) (by omega)) dX5_passesOn_13 (fun h H locs hV hS hM => ?_)
  refine lv_iload_n hx hb dX5_passesOn_14 rfl (lv_at hl 0 rfl) ?_
  refine lv_iconst (v := (-1)) hx hb dX5_passesOn_15 (by decide) ?_
  refine lv_icmp_eq (tgt := 26) hx hb dX5_passesOn_16 (by decide) (fun c16 => ?_) (fun c16 => ?_)
  · replace c16 : (wtT μ l9 0) = none := (oI_m1 (fun k9 e9 => by have := wtT_lt e9; omega)).mp c16
    replace hl : lv_has ls 3 [(2, .int (-1)), (0, .ref (B 100)), (1, .int (nI l9))] := by have h9 := hl; rw [c16] at h9; exact h9
    exact m_vret hx hb hr hlocks hV hS ((by unfold pnM; rw [c16] at hM ⊢; exact hM)) dX5_passesOn_26
  · obtain ⟨k16, c16⟩ : ∃ z, (wtT μ l9 0) = some z := Option.ne_none_iff_exists'.mp (fun q9 => c16 ((oI_m1 (fun k9 e9 => by have := wtT_lt e9; omega)).mpr q9))
    have bk16 := wtT_lt c16
    replace hl : lv_has ls 3 [(2, .int (nI k16)), (0, .ref (B 100)), (1, .int (nI l9))] := by have h9 := hl; rw [c16] at h9; exact h9
    refine lv_aload_n hx hb dX5_passesOn_19 rfl (lv_at hl 1 rfl) ?_
    refine m_get (C := RX5) (T := TX5) (N := 34) hx hb hts hi_X5 hown hK hV 22 (v := .ref (B 22)) (g_m22 hM) rfl (by decide) k73 (fun _ h9 => h9) dX5_passesOn_20 ?_
    refine lv_iload_n hx hb dX5_passesOn_23 rfl (lv_at hl 0 rfl) ?_
    refine lv_iconst (v := (-1)) hx hb dX5_passesOn_24 (by decide) ?_
    refine m_iast hx hb hK hV hS 0 (i := nI k16) (x := oI none) (q_m22 hM (by omega) none (dWF_22n hM.wf _)) rfl (vp_in_nI (by omega) (by omega)) dX5_passesOn_25 (fun h H locs hV hS hM => ?_)
    exact m_vret hx hb hr hlocks hV hS ((by unfold pnM; rw [c16] at hM ⊢; exact hM)) dX5_passesOn_26
set_option maxHeartbeats 4000000 in
set_option maxRecDepth 100000 in
theorem c_X5_end {l : Launch} {D : va_G} {cs : mC} {df : Nat} {P : Nat → Prop} {h0 : mH} {B : Nat → Nat} {μ : KS} {hh : mH} (sz : Nat) (hM : DRep cs P h0 B μ hh) (x0 : Int32) : Met l yX5_end wsX5_end ({ frames := 2, cells := 0, slots := 0, locals := 47 }) (mPre [.ref (B 100), .int x0] D cs df hh sz) (va_Qi ((fun (r : Int32) (h1 : mH) => ∃ μ1 : KS, DRep cs P h0 B μ1 h1 ∧ om_end μ x0 r μ1)) (mB D hh sz) (mA hh sz)) 0 0 (mA hh sz) := by
  refine Met.ofW (cc := cX5_end) (maxL := 4) (ret := (some .int)) (by decide) rfl ?_
  intro p e s m args below meth c s₁ B0 hml hv
  obtain ⟨hargs, hsz, hV, hE⟩ := hv
  subst hsz
  have hx := B0.exec
  have hb := B0.bytes
  have hr := B0.returns
  have hlocks := B0.notSynchronized
  have hts := atoms_spec (ws := wsX5_end) B0.pre
  have hown : s.vm.findClass RX5 = some m.cls := findClass_of_methodNamed B0.named
  have hK := hE.1.1
  have hA : ∀ q : Nat, s.heap.size ≤ q → mA hh s.heap.size q := mA.top
  have hS : va_S (mA hh s.heap.size) s.heap s.heap [] := va_S.rf
  have hi_X5 : ∀ w ∈ u_ws RX5 TX5 34, w ∈ wsX5_end := by decide +kernel
  have k69 : (Cond.fieldLink RX5 69 "TaskKernelModel" "isEnded" "[Z").before args s = true := hts _ (by decide +kernel)
  have k91 : (Cond.fieldLink RX5 91 "TaskKernelModel" "thrown" "I").before args s = true := hts _ (by decide +kernel)
  have k45 : (Cond.fieldLink RX5 45 "TaskKernelModel" "lefts" "[I").before args s = true := hts _ (by decide +kernel)
  have k73 : (Cond.fieldLink RX5 73 "TaskKernelModel" "waitsFor" "[I").before args s = true := hts _ (by decide +kernel)
  have k79 : (Cond.fieldLink RX5 79 "TaskKernelModel" "holders" "[I").before args s = true := hts _ (by decide +kernel)
  have hl := lv_entry ([.ref (B 100), .int x0]) (n := 4) (by first | exact Nat.le_of_ble_eq_true rfl | simp [lg_sl, rf_cat, ct_ref, ct_int, ct_null, ct_long])
  have hent := lg_entry_eq m ([.ref (B 100), .int x0]) 4
  rw [← hargs] at hent
  rw [hent]
  generalize (lg_sl ([.ref (B 100), .int x0]) ++ List.replicate (4 - (lg_sl ([.ref (B 100), .int x0])).length) Slot.unset).toArray = ls at hl ⊢
  replace hl : lv_has ls 4 [(0, .ref (B 100)), (1, .int x0)] := hl
  have hwf := hM.wf
  obtain ⟨⟨y0, y1, y2, y3⟩, y4, y5, y6, y7⟩ := hwf
  refine lv_aload_n hx hb dX5_end_0 rfl (lv_at hl 0 rfl) ?_
  refine lv_aload_n hx hb dX5_end_1 rfl (lv_at hl 0 rfl) ?_
  refine lv_iload_n hx hb dX5_end_2 rfl (lv_at hl 1 rfl) ?_
  refine m_calli (va_runV (As := [.int x0]) (rest := [.ref (B 100)]) ⟨hx, hb, hml, hown, hts⟩ (c_X5_isTask (l := l) (s.heap.size) hM x0) (cwV 1 hts gX5_end_X5_isTask rfl rfl rfl (by decide +kernel) ⟨by decide, by decide⟩) (m_preV (r := (RX5, TX5, 34)) hE hV hS hA (hM.at 100 (by decide)) rfl) rfl rfl hl.1 rfl (lv_room (by first | exact Nat.le_of_ble_eq_true rfl | simp [rf_cat, ct_ref, ct_int, ct_null, ct_long])) dX5_end_3 ⟨by decide, by decide⟩) hV hS hA (fun r h1 H locs hV hS hp _ => ?_)
  obtain ⟨e1, e2⟩ := hp
  subst e2
  rw [e1] at hV; clear e1
  refine lv_if_ne (tgt := 13) hx hb dX5_end_6 (by decide) (fun c6 => ?_) (fun c6 => ?_)
  · replace c6 : ((inR x0 (kN μ 24 0)).isSome) = true := bI_1.mp c6
    obtain ⟨t, ht⟩ := Option.isSome_iff_exists.mp c6
    obtain ⟨et, bt⟩ := inR_some ht
    rw [et] at hl
    refine lv_aload_n hx hb dX5_end_13 rfl (lv_at hl 0 rfl) ?_
    refine m_get (C := RX5) (T := TX5) (N := 34) hx hb hts hi_X5 hown hK hV 21 (v := .ref (B 21)) (g_m21 hM) rfl (by decide) k69 (fun _ h9 => h9) dX5_end_14 ?_
    refine lv_iload_n hx hb dX5_end_17 rfl (lv_at hl 1 rfl) ?_
    refine m_zald hx hb hK hV 2 (i := nI t) (x := bI (kB μ 21 t)) (a_m21 hM) rfl (vp_in_nI (by omega) (by omega)) (by rw [nI_clamp (by omega)] <;> first | rfl | (show oI (va_up _ _ _ _) = _; rw [vu_s]) | (show va_up _ _ _ _ = _; rw [vu_s])) dX5_end_18 ?_
    refine lv_if_eq (tgt := 26) hx hb dX5_end_19 (by decide) (fun c19 => ?_) (fun c19 => ?_)
    · replace c19 : kB μ 21 t = false := bI_0.mp c19
      refine lv_iconst (v := 0) hx hb dX5_end_26 (by decide) ?_
      refine m_put (C := RX5) (T := TX5) (N := 34) (v := .int 0) hx hb hts hi_X5 tyX5 tyX5_ok nmX5 hown hK hV hS 33 (p_m33 hM 0) rfl (by decide) k91 (fun _ h9 => h9) rfl (tyX5_ok 33 (by decide)) rfl rfl dX5_end_27 (fun h H locs hV hS hM => ?_)
      refine lv_aload_n hx hb dX5_end_30 rfl (lv_at hl 0 rfl) ?_
      refine m_get (C := RX5) (T := TX5) (N := 34) hx hb hts hi_X5 hown hK hV 33 (v := .int 0) (by have z9 := g_m33 hM; exact z9) rfl (by decide) k91 (fun _ h9 => h9) dX5_end_31 ?_
      refine lv_if_le (tgt := 39) hx hb dX5_end_34 (by decide) (fun c34 => ?_) (fun c34 => (absurd (by decide) c34))
      refine lv_aload_n hx hb dX5_end_39 rfl (lv_at hl 0 rfl) ?_
      refine m_get (C := RX5) (T := TX5) (N := 34) hx hb hts hi_X5 hown hK hV 13 (v := .ref (B 13)) (g_m13 hM) rfl (by decide) k45 (fun _ h9 => h9) dX5_end_40 ?_
      refine lv_iload_n hx hb dX5_end_43 rfl (lv_at hl 1 rfl) ?_
      refine m_iald hx hb hK hV 0 (i := nI t) (x := (kI μ 13 t)) (a_m13 hM) rfl (vp_in_nI (by omega) (by omega)) (by rw [nI_clamp (by omega)] <;> first | rfl | (show oI (va_up _ _ _ _) = _; rw [vu_s]) | (show va_up _ _ _ _ = _; rw [vu_s])) dX5_end_44 ?_
      refine lv_istore_n (lv' := [(2, .int (kI μ 13 t)), (0, .ref (B 100)), (1, .int (nI t))]) hx hb dX5_end_45 rfl hl (by decide) rfl (fun ls hl => ?_)
      refine lv_aload_n hx hb dX5_end_46 rfl (lv_at hl 1 rfl) ?_
      refine m_get (C := RX5) (T := TX5) (N := 34) hx hb hts hi_X5 hown hK hV 13 (v := .ref (B 13)) (g_m13 hM) rfl (by decide) k45 (fun _ h9 => h9) dX5_end_47 ?_
      refine lv_iload_n hx hb dX5_end_50 rfl (lv_at hl 2 rfl) ?_
      refine lv_iconst (v := 0) hx hb dX5_end_51 (by decide) ?_
      refine m_iast hx hb hK hV hS 0 (i := nI t) (x := 0) (q_m13 hM (by omega) 0) rfl (vp_in_nI (by omega) (by omega)) dX5_end_52 (fun h H locs hV hS hM => ?_)
      refine lv_aload_n hx hb dX5_end_53 rfl (lv_at hl 1 rfl) ?_
      refine m_get (C := RX5) (T := TX5) (N := 34) hx hb hts hi_X5 hown hK hV 21 (v := .ref (B 21)) (g_m21 hM) rfl (by decide) k69 (fun _ h9 => h9) dX5_end_54 ?_
      refine lv_iload_n hx hb dX5_end_57 rfl (lv_at hl 2 rfl) ?_
      refine lv_iconst (v := 1) hx hb dX5_end_58 (by decide) ?_
      refine m_zast hx hb hK hV hS 2 (i := nI t) (x := bI true) (q_m21 hM (by omega) true) rfl (vp_in_nI (by omega) (by omega)) (bI_nar _) dX5_end_59 (fun h H locs hV hS hM => ?_)
      refine lv_aload_n hx hb dX5_end_60 rfl (lv_at hl 1 rfl) ?_
      refine m_get (C := RX5) (T := TX5) (N := 34) hx hb hts hi_X5 hown hK hV 22 (v := .ref (B 22)) (g_m22 hM) rfl (by decide) k73 (fun _ h9 => h9) dX5_end_61 ?_
      refine lv_iload_n hx hb dX5_end_64 rfl (lv_at hl 2 rfl) ?_
      refine lv_iconst (v := (-1)) hx hb dX5_end_65 (by decide) ?_
      refine m_iast hx hb hK hV hS 0 (i := nI t) (x := oI none) (q_m22 hM (by omega) none (dWF_22n hM.wf _)) rfl (vp_in_nI (by omega) (by omega)) dX5_end_66 (fun h H locs hV hS hM => ?_)
      refine lv_iconst (v := 0) hx hb dX5_end_67 (by decide) ?_
      refine lv_istore_n (lv' := [(3, .int 0), (2, .int (kI μ 13 t)), (0, .ref (B 100)), (1, .int (nI t))]) hx hb dX5_end_68 rfl hl (by decide) rfl (fun ls hl => ?_)
      have lp69 : ∀ (fu : Nat) (i : Nat), (i ≤ 4) → 4 - i < fu → ∀ (h : mH) (H : Heap) (locs : List Loc), DRep cs P h0 B (emL t i (em0 μ t)) h → mV D h (mA hh s.heap.size) H → va_S (mA hh s.heap.size) s.heap H locs → ∀ (ls : Array Slot), lv_has ls 4 [(2, .int (kI μ 13 t)), (0, .ref (B 100)), (1, .int (nI t)), (3, .int (nI i))] → W p l e ({ frames := 2, cells := 0, slots := 0, locals := 47 } : Room) s m args below meth c H locs 0 0 (MQ below (va_Qi ((fun (r : Int32) (h1 : mH) => ∃ μ1 : KS, DRep cs P h0 B μ1 h1 ∧ om_end μ x0 r μ1)) (mB D hh s.heap.size) (mA hh s.heap.size)) args s 0 0 (mA hh s.heap.size)) (F0 m 69 ls []) := by
        intro fu
        induction fu with
        | zero =>
          intro i hi hfu
          exact absurd hfu (Nat.not_lt_zero _)
        | succ fu ih69 =>
          intro i hi hfu h H locs hM hV hS ls hl
          have en : kN (emL t i (em0 μ t)) 24 0 = kN μ 24 0 := by rw [emL_N]; rfl
          refine lv_iload_n hx hb dX5_end_69 rfl (lv_at hl 3 rfl) ?_
          refine lv_iconst (v := 4) hx hb dX5_end_70 (by decide) ?_
          refine lv_icmp_ge (tgt := 95) hx hb dX5_end_71 (by decide) (fun c71 => ?_) (fun c71 => ?_)
          · replace c71 : 4 ≤ i := (nI_leI (a := 4) (b := i) (by omega) (by omega)).mp c71
            refine lv_iload_n hx hb dX5_end_95 rfl (lv_at hl 0 rfl) ?_
            exact m_iret (v := (kI μ 13 t)) hx hb hr hlocks hV hS (⟨_, (by rw [show i = 4 by omega] at hM; exact hM), Or.inr (Or.inr ⟨t, ht, c19, rfl, rfl⟩)⟩) dX5_end_96
          · replace c71 : ¬ 4 ≤ i := fun q9 => c71 ((nI_leI (a := 4) (b := i) (by omega) (by omega)).mpr q9)
            refine lv_aload_n hx hb dX5_end_74 rfl (lv_at hl 1 rfl) ?_
            refine m_get (C := RX5) (T := TX5) (N := 34) hx hb hts hi_X5 hown hK hV 26 (v := .ref (B 26)) (g_m26 hM) rfl (by decide) k79 (fun _ h9 => h9) dX5_end_75 ?_
            refine lv_iload_n hx hb dX5_end_78 rfl (lv_at hl 3 rfl) ?_
            refine m_iald hx hb hK hV 0 (i := nI i) (x := oI (kO (emL t i (em0 μ t)) 26 i)) (a_m26 hM) rfl (vp_in_nI (by omega) (by omega)) (by rw [nI_clamp (by omega)] <;> first | rfl | (show oI (va_up _ _ _ _) = _; rw [vu_s]) | (show va_up _ _ _ _ = _; rw [vu_s])) dX5_end_79 ?_
            refine lv_iload_n hx hb dX5_end_80 rfl (lv_at hl 2 rfl) ?_
            refine lv_icmp_ne (tgt := 89) hx hb dX5_end_81 (by decide) (fun c81 => ?_) (fun c81 => ?_)
            · replace c81 : ¬ kO (emL t i (em0 μ t)) 26 i = some t := fun q9 => c81 ((oI_n (fun k9 e9 => by have : k9 < kN (emL t i (em0 μ t)) 24 0 := hM.wf.2.2.2.2 i (show i < 4 by omega) _ e9; omega) (by omega)).mpr q9)
              refine lv_iinc (v := nI (i + 1)) (lv' := [(3, .int (nI (i + 1))), (2, .int (kI μ 13 t)), (0, .ref (B 100)), (1, .int (nI t))]) hx hb dX5_end_89 hl (k := 3) rfl (show nI i + Int32.ofInt 1 = _ from nI_add i 1) (by decide) rfl (fun ls hl => ?_)
              refine lv_goto (tgt := 69) hx hb dX5_end_92 (by decide) ?_
              have q1 : (emL t i (em0 μ t)) = (emL t (i + 1) (em0 μ t)) := (by rw [emL, if_neg c81])
              rw [q1] at hM
              exact ih69 (i + 1) (by omega) (by omega) _ _ _ hM hV hS ls (lv_sub hl [1, 2, 3, 0] rfl)
            · replace c81 : kO (emL t i (em0 μ t)) 26 i = some t := (oI_n (fun k9 e9 => by have : k9 < kN (emL t i (em0 μ t)) 24 0 := hM.wf.2.2.2.2 i (show i < 4 by omega) _ e9; omega) (by omega)).mp c81
              refine lv_aload_n hx hb dX5_end_84 rfl (lv_at hl 1 rfl) ?_
              refine lv_iload_n hx hb dX5_end_85 rfl (lv_at hl 3 rfl) ?_
              refine m_callv (va_runV (As := [.int (nI i)]) (rest := []) ⟨hx, hb, hml, hown, hts⟩ (c_X5_passesOn (l := l) (H.size) hM i (by first | assumption | omega)) (cwV 1 hts gX5_end_X5_passesOn rfl rfl rfl (by decide +kernel) ⟨by decide, by decide⟩) (m_preV (r := (RX5, TX5, 34)) hE hV hS hA (hM.at 100 (by decide)) rfl) rfl rfl hl.1 rfl (lv_room (by first | exact Nat.le_of_ble_eq_true rfl | simp [rf_cat, ct_ref, ct_int, ct_null, ct_long])) dX5_end_86 ⟨by decide, by decide⟩) hV hS hA (fun h H locs hV hS hp _ => ?_)
              replace hM := hp; clear hp
              refine lv_iinc (v := nI (i + 1)) (lv' := [(3, .int (nI (i + 1))), (2, .int (kI μ 13 t)), (0, .ref (B 100)), (1, .int (nI t))]) hx hb dX5_end_89 hl (k := 3) rfl (show nI i + Int32.ofInt 1 = _ from nI_add i 1) (by decide) rfl (fun ls hl => ?_)
              refine lv_goto (tgt := 69) hx hb dX5_end_92 (by decide) ?_
              have q2 : (pnM (emL t i (em0 μ t)) i) = (emL t (i + 1) (em0 μ t)) := (by rw [emL, if_pos c81])
              rw [q2] at hM
              exact ih69 (i + 1) (by omega) (by omega) _ _ _ hM hV hS ls (lv_sub hl [1, 2, 3, 0] rfl)
      have q3 : (sO (sB (sI (sI μ 33 (va_up (kI μ 33) 0 0)) 13 (va_up (kI (sI μ 33 (va_up (kI μ 33) 0 0)) 13) t 0)) 21 (va_up (kB (sI (sI μ 33 (va_up (kI μ 33) 0 0)) 13 (va_up (kI (sI μ 33 (va_up (kI μ 33) 0 0)) 13) t 0)) 21) t true)) 22 (va_up (kO (sB (sI (sI μ 33 (va_up (kI μ 33) 0 0)) 13 (va_up (kI (sI μ 33 (va_up (kI μ 33) 0 0)) 13) t 0)) 21 (va_up (kB (sI (sI μ 33 (va_up (kI μ 33) 0 0)) 13 (va_up (kI (sI μ 33 (va_up (kI μ 33) 0 0)) 13) t 0)) 21) t true)) 22) t none)) = (emL t 0 (em0 μ t)) := rfl
      rw [q3] at hM
      have q4 : 0 = nI 0 := rfl
      replace hl : lv_has ls 4 [(3, .int (nI 0)), (2, .int (kI μ 13 t)), (0, .ref (B 100)), (1, .int (nI t))] := (congrArg (lv_has ls 4) (m_lc (congrArg Value.int q4) (m_lc rfl (m_lc rfl (m_lc rfl rfl))))).mp hl
      exact lp69 ((4 - 0) + 1) 0 (by omega) (Nat.lt_succ_self _) _ _ _ hM hV hS ls (lv_sub hl [1, 2, 3, 0] rfl)
    · replace c19 : kB μ 21 t = true := bI_1.mp c19
      refine lv_iconst (v := 2) hx hb dX5_end_22 (by decide) ?_
      refine lv_goto (tgt := 27) hx hb dX5_end_23 (by decide) ?_
      refine m_put (C := RX5) (T := TX5) (N := 34) (v := .int 2) hx hb hts hi_X5 tyX5 tyX5_ok nmX5 hown hK hV hS 33 (p_m33 hM 2) rfl (by decide) k91 (fun _ h9 => h9) rfl (tyX5_ok 33 (by decide)) rfl rfl dX5_end_27 (fun h H locs hV hS hM => ?_)
      refine lv_aload_n hx hb dX5_end_30 rfl (lv_at hl 0 rfl) ?_
      refine m_get (C := RX5) (T := TX5) (N := 34) hx hb hts hi_X5 hown hK hV 33 (v := .int 2) (by have z9 := g_m33 hM; exact z9) rfl (by decide) k91 (fun _ h9 => h9) dX5_end_31 ?_
      refine lv_if_le (tgt := 39) hx hb dX5_end_34 (by decide) (fun c34 => (absurd c34 (by decide))) (fun c34 => ?_)
      refine lv_iconst (v := (-1)) hx hb dX5_end_37 (by decide) ?_
      exact m_iret (v := (-1)) hx hb hr hlocks hV hS (⟨_, hM, Or.inr (Or.inl ⟨t, ht, c19, rfl⟩)⟩) dX5_end_38
  · replace c6 : ((inR x0 (kN μ 24 0)).isSome) = false := bI_0.mp c6
    refine lv_iconst (v := 1) hx hb dX5_end_9 (by decide) ?_
    refine lv_goto (tgt := 27) hx hb dX5_end_10 (by decide) ?_
    refine m_put (C := RX5) (T := TX5) (N := 34) (v := .int 1) hx hb hts hi_X5 tyX5 tyX5_ok nmX5 hown hK hV hS 33 (p_m33 hM 1) rfl (by decide) k91 (fun _ h9 => h9) rfl (tyX5_ok 33 (by decide)) rfl rfl dX5_end_27 (fun h H locs hV hS hM => ?_)
    refine lv_aload_n hx hb dX5_end_30 rfl (lv_at hl 0 rfl) ?_
    refine m_get (C := RX5) (T := TX5) (N := 34) hx hb hts hi_X5 hown hK hV 33 (v := .int 1) (by have z9 := g_m33 hM; exact z9) rfl (by decide) k91 (fun _ h9 => h9) dX5_end_31 ?_
    refine lv_if_le (tgt := 39) hx hb dX5_end_34 (by decide) (fun c34 => (absurd c34 (by decide))) (fun c34 => ?_)
    refine lv_iconst (v := (-1)) hx hb dX5_end_37 (by decide) ?_
    exact m_iret (v := (-1)) hx hb hr hlocks hV hS (⟨_, hM, Or.inl ⟨Option.not_isSome_iff_eq_none.mp (by rw [c6]; decide), rfl⟩⟩) dX5_end_38
set_option maxHeartbeats 4000000 in
set_option maxRecDepth 100000 in
theorem c_X5_closesRing {l : Launch} {D : va_G} {cs : mC} {df : Nat} {P : Nat → Prop} {h0 : mH} {B : Nat → Nat} {μ : KS} {hh : mH} (sz : Nat) (hM : DRep cs P h0 B μ hh) (t9 : Nat) (l9 : Nat) (ht9 : t9 < kN μ 24 0) (hl9 : l9 < 4) : Met l yX5_closesRing wsX5_closesRing ({ frames := 0, cells := 0, slots := 0, locals := 0 }) (mPre [.ref (B 100), .int (nI t9), .int (nI l9)] D cs df hh sz) (va_Qi ((fun (r : Int32) (h1 : mH) => h1 = hh ∧ r = bI (crT μ t9 l9))) (mB D hh sz) (mA hh sz)) 0 0 (mA hh sz) := by
  refine Met.ofW (cc := cX5_closesRing) (maxL := 6) (ret := (some .boolean)) (by decide) rfl ?_
  intro p e s m args below meth c s₁ B0 hml hv
  obtain ⟨hargs, hsz, hV, hE⟩ := hv
  subst hsz
  have hx := B0.exec
  have hb := B0.bytes
  have hr := B0.returns
  have hlocks := B0.notSynchronized
  have hts := atoms_spec (ws := wsX5_closesRing) B0.pre
  have hown : s.vm.findClass RX5 = some m.cls := findClass_of_methodNamed B0.named
  have hK := hE.1.1
  have hA : ∀ q : Nat, s.heap.size ≤ q → mA hh s.heap.size q := mA.top
  have hS : va_S (mA hh s.heap.size) s.heap s.heap [] := va_S.rf
  have hi_X5 : ∀ w ∈ u_ws RX5 TX5 34, w ∈ wsX5_closesRing := by decide +kernel
  have k79 : (Cond.fieldLink RX5 79 "TaskKernelModel" "holders" "[I").before args s = true := hts _ (by decide +kernel)
  have k73 : (Cond.fieldLink RX5 73 "TaskKernelModel" "waitsFor" "[I").before args s = true := hts _ (by decide +kernel)
  have hl := lv_entry ([.ref (B 100), .int (nI t9), .int (nI l9)]) (n := 6) (by first | exact Nat.le_of_ble_eq_true rfl | simp [lg_sl, rf_cat, ct_ref, ct_int, ct_null, ct_long])
  have hent := lg_entry_eq m ([.ref (B 100), .int (nI t9), .int (nI l9)]) 6
  rw [← hargs] at hent
  rw [hent]
  generalize (lg_sl ([.ref (B 100), .int (nI t9), .int (nI l9)]) ++ List.replicate (6 - (lg_sl ([.ref (B 100), .int (nI t9), .int (nI l9)])).length) Slot.unset).toArray = ls at hl ⊢
  replace hl : lv_has ls 6 [(0, .ref (B 100)), (1, .int (nI t9)), (2, .int (nI l9))] := hl
  have hwf := hM.wf
  obtain ⟨⟨y0, y1, y2, y3⟩, y4, y5, y6, y7⟩ := hwf
  refine lv_aload_n hx hb dX5_closesRing_0 rfl (lv_at hl 0 rfl) ?_
  refine m_get (C := RX5) (T := TX5) (N := 34) hx hb hts hi_X5 hown hK hV 26 (v := .ref (B 26)) (g_m26 hM) rfl (by decide) k79 (fun _ h9 => h9) dX5_closesRing_1 ?_
  refine lv_iload_n hx hb dX5_closesRing_4 rfl (lv_at hl 2 rfl) ?_
  refine m_iald hx hb hK hV 0 (i := nI l9) (x := oI (kO μ 26 l9)) (a_m26 hM) rfl (vp_in_nI (by omega) (by omega)) (by rw [nI_clamp (by omega)] <;> first | rfl | (show oI (va_up _ _ _ _) = _; rw [vu_s]) | (show va_up _ _ _ _ = _; rw [vu_s])) dX5_closesRing_5 ?_
  refine lv_istore_n (lv' := [(3, .int (oI (kO μ 26 l9))), (0, .ref (B 100)), (1, .int (nI t9)), (2, .int (nI l9))]) hx hb dX5_closesRing_6 rfl hl (by decide) rfl (fun ls hl => ?_)
  refine lv_iconst (v := 0) hx hb dX5_closesRing_7 (by decide) ?_
  refine lv_istore (lv' := [(4, .int 0), (3, .int (oI (kO μ 26 l9))), (0, .ref (B 100)), (1, .int (nI t9)), (2, .int (nI l9))]) hx hb dX5_closesRing_8 hl (by decide) rfl (fun ls hl => ?_)
  refine lv_iconst (v := 0) hx hb dX5_closesRing_10 (by decide) ?_
  refine lv_istore (lv' := [(5, .int 0), (4, .int 0), (3, .int (oI (kO μ 26 l9))), (0, .ref (B 100)), (1, .int (nI t9)), (2, .int (nI l9))]) hx hb dX5_closesRing_11 hl (by decide) rfl (fun ls hl => ?_)
  have lp13 : ∀ (fu : Nat) (i : Nat) (o : Option Nat) (b : Bool), (i ≤ 12) → (∀ k, o = some k → k < kN μ 24 0) → (crM μ t9 (12 - i) o b = crT μ t9 l9) → 12 - i < fu → ∀ (H : Heap) (locs : List Loc), mV D hh (mA hh s.heap.size) H → va_S (mA hh s.heap.size) s.heap H locs → ∀ (ls : Array Slot), lv_has ls 6 [(0, .ref (B 100)), (1, .int (nI t9)), (2, .int (nI l9)), (3, .int (oI o)), (4, .int (bI b)), (5, .int (nI i))] → W p l e ({ frames := 0, cells := 0, slots := 0, locals := 0 } : Room) s m args below meth c H locs 0 0 (MQ below (va_Qi ((fun (r : Int32) (h1 : mH) => h1 = hh ∧ r = bI (crT μ t9 l9))) (mB D hh s.heap.size) (mA hh s.heap.size)) args s 0 0 (mA hh s.heap.size)) (F0 m 13 ls []) := by
    intro fu
    induction fu with
    | zero =>
      intro i o b hi ho hf hfu
      exact absurd hfu (Nat.not_lt_zero _)
    | succ fu ih13 =>
      intro i o b hi ho hf hfu H locs hV hS ls hl
      refine lv_iload hx hb dX5_closesRing_13 (lv_at hl 5 rfl) ?_
      refine lv_bipush (v := 12) hx hb dX5_closesRing_15 (by decide) ?_
      refine lv_icmp_ge (tgt := 74) hx hb dX5_closesRing_17 (by decide) (fun c17 => ?_) (fun c17 => ?_)
      · replace c17 : 12 ≤ i := (nI_leI (a := 12) (b := i) (by omega) (by omega)).mp c17
        refine lv_iload hx hb dX5_closesRing_74 (lv_at hl 4 rfl) ?_
        exact m_zret (v := bI b) hx hb hr hlocks (bI_narrow _) hV hS (⟨rfl, by rw [← hf, show 12 - i = 0 by omega]; rfl⟩) dX5_closesRing_76
      · replace c17 : ¬ 12 ≤ i := fun q9 => c17 ((nI_leI (a := 12) (b := i) (by omega) (by omega)).mpr q9)
        refine lv_iload_n hx hb dX5_closesRing_20 rfl (lv_at hl 3 rfl) ?_
        refine lv_iconst (v := (-1)) hx hb dX5_closesRing_21 (by decide) ?_
        refine lv_icmp_eq (tgt := 74) hx hb dX5_closesRing_22 (by decide) (fun c22 => ?_) (fun c22 => ?_)
        · replace c22 : o = none := (oI_m1 (fun k9 e9 => by have := ho k9 e9; omega)).mp c22
          replace hl : lv_has ls 6 [(0, .ref (B 100)), (1, .int (nI t9)), (2, .int (nI l9)), (3, .int (-1)), (4, .int (bI b)), (5, .int (nI i))] := by have h9 := hl; rw [c22] at h9; exact h9
          refine lv_iload hx hb dX5_closesRing_74 (lv_at hl 4 rfl) ?_
          exact m_zret (v := bI b) hx hb hr hlocks (bI_narrow _) hV hS (⟨rfl, by rw [← hf, c22, crM_n]⟩) dX5_closesRing_76
        · obtain ⟨k22, c22⟩ : ∃ z, o = some z := Option.ne_none_iff_exists'.mp (fun q9 => c22 ((oI_m1 (fun k9 e9 => by have := ho k9 e9; omega)).mpr q9))
          have bk22 := ho k22 c22
          replace hl : lv_has ls 6 [(0, .ref (B 100)), (1, .int (nI t9)), (2, .int (nI l9)), (3, .int (nI k22)), (4, .int (bI b)), (5, .int (nI i))] := by have h9 := hl; rw [c22] at h9; exact h9
          refine lv_iload hx hb dX5_closesRing_25 (lv_at hl 4 rfl) ?_
          refine lv_if_ne (tgt := 35) hx hb dX5_closesRing_27 (by decide) (fun c27 => ?_) (fun c27 => ?_)
          · replace c27 : b = true := bI_1.mp c27
            refine lv_iconst (v := 1) hx hb dX5_closesRing_35 (by decide) ?_
            refine lv_goto (tgt := 40) hx hb dX5_closesRing_36 (by decide) ?_
            refine lv_istore (lv' := [(4, .int 1), (0, .ref (B 100)), (1, .int (nI t9)), (2, .int (nI l9)), (3, .int (nI k22)), (5, .int (nI i))]) hx hb dX5_closesRing_40 hl (by decide) rfl (fun ls hl => ?_)
            refine lv_aload_n hx hb dX5_closesRing_42 rfl (lv_at hl 1 rfl) ?_
            refine m_get (C := RX5) (T := TX5) (N := 34) hx hb hts hi_X5 hown hK hV 22 (v := .ref (B 22)) (g_m22 hM) rfl (by decide) k73 (fun _ h9 => h9) dX5_closesRing_43 ?_
            refine lv_iload_n hx hb dX5_closesRing_46 rfl (lv_at hl 4 rfl) ?_
            refine m_iald hx hb hK hV 0 (i := nI k22) (x := oI (kO μ 22 k22)) (a_m22 hM) rfl (vp_in_nI (by omega) (by omega)) (by rw [nI_clamp (by omega)] <;> first | rfl | (show oI (va_up _ _ _ _) = _; rw [vu_s]) | (show va_up _ _ _ _ = _; rw [vu_s])) dX5_closesRing_47 ?_
            refine lv_iconst (v := (-1)) hx hb dX5_closesRing_48 (by decide) ?_
            refine lv_icmp_ne (tgt := 56) hx hb dX5_closesRing_49 (by decide) (fun c49 => ?_) (fun c49 => ?_)
            · obtain ⟨k49, c49⟩ : ∃ z, kO μ 22 k22 = some z := Option.ne_none_iff_exists'.mp (fun q9 => c49 ((oI_m1 (fun k9 e9 => by have : k9 < 4 := hM.wf.2.2.2.1 k22 (by first | assumption | (show k22 < kN μ 24 0; omega)) _ e9; omega)).mpr q9))
              have bk49 : k49 < 4 := hM.wf.2.2.2.1 k22 (by first | assumption | (show k22 < kN μ 24 0; omega)) _ c49
              refine lv_aload_n hx hb dX5_closesRing_56 rfl (lv_at hl 1 rfl) ?_
              refine m_get (C := RX5) (T := TX5) (N := 34) hx hb hts hi_X5 hown hK hV 26 (v := .ref (B 26)) (g_m26 hM) rfl (by decide) k79 (fun _ h9 => h9) dX5_closesRing_57 ?_
              refine lv_aload_n hx hb dX5_closesRing_60 rfl (lv_at hl 1 rfl) ?_
              refine m_get (C := RX5) (T := TX5) (N := 34) hx hb hts hi_X5 hown hK hV 22 (v := .ref (B 22)) (g_m22 hM) rfl (by decide) k73 (fun _ h9 => h9) dX5_closesRing_61 ?_
              refine lv_iload_n hx hb dX5_closesRing_64 rfl (lv_at hl 4 rfl) ?_
              refine m_iald hx hb hK hV 0 (i := nI k22) (x := nI k49) (a_m22 hM) rfl (vp_in_nI (by omega) (by omega)) (by rw [nI_clamp (by omega)]; show oI (kO μ 22 k22) = _; rw [c49]; rfl) dX5_closesRing_65 ?_
              refine m_iald hx hb hK hV 0 (i := nI k49) (x := oI (kO μ 26 k49)) (a_m26 hM) rfl (vp_in_nI (by omega) (by omega)) (by rw [nI_clamp (by omega)] <;> first | rfl | (show oI (va_up _ _ _ _) = _; rw [vu_s]) | (show va_up _ _ _ _ = _; rw [vu_s])) dX5_closesRing_66 ?_
              refine lv_istore_n (lv' := [(3, .int (oI (kO μ 26 k49))), (4, .int 1), (0, .ref (B 100)), (1, .int (nI t9)), (2, .int (nI l9)), (5, .int (nI i))]) hx hb dX5_closesRing_67 rfl hl (by decide) rfl (fun ls hl => ?_)
              refine lv_iinc (v := nI (i + 1)) (lv' := [(5, .int (nI (i + 1))), (3, .int (oI (kO μ 26 k49))), (4, .int 1), (0, .ref (B 100)), (1, .int (nI t9)), (2, .int (nI l9))]) hx hb dX5_closesRing_68 hl (k := 5) rfl (show nI i + Int32.ofInt 1 = _ from nI_add i 1) (by decide) rfl (fun ls hl => ?_)
              refine lv_goto (tgt := 13) hx hb dX5_closesRing_71 (by decide) ?_
              have d9 : hdM μ k22 = kO μ 26 k49 := by unfold hdM; rw [c49]
              have b9 : (b || decide (k22 = t9)) = true := by rw [c27]; rfl
              have w9 : crM μ t9 (12 - (i + 1)) (kO μ 26 k49) true = crT μ t9 l9 := by rw [← hf, show 12 - i = (12 - (i + 1)) + 1 by omega, c22, crM, d9, b9]
              have q1 : 1 = bI true := by first | rfl | simp
              replace hl : lv_has ls 6 [(5, .int (nI (i + 1))), (3, .int (oI (kO μ 26 k49))), (4, .int (bI true)), (0, .ref (B 100)), (1, .int (nI t9)), (2, .int (nI l9))] := (congrArg (lv_has ls 6) (m_lc rfl (m_lc rfl (m_lc (congrArg Value.int q1) (m_lc rfl (m_lc rfl (m_lc rfl rfl))))))).mp hl
              exact ih13 (i + 1) (kO μ 26 k49) true (by omega) (fun k9 h9 => hM.wf.2.2.2.2 k49 (by omega) k9 h9) w9 (by omega) _ _ hV hS ls (lv_sub hl [3, 4, 5, 1, 2, 0] rfl)
            · replace c49 : kO μ 22 k22 = none := (oI_m1 (fun k9 e9 => by have : k9 < 4 := hM.wf.2.2.2.1 k22 (by first | assumption | (show k22 < kN μ 24 0; omega)) _ e9; omega)).mp c49
              refine lv_iconst (v := (-1)) hx hb dX5_closesRing_52 (by decide) ?_
              refine lv_goto (tgt := 67) hx hb dX5_closesRing_53 (by decide) ?_
              refine lv_istore_n (lv' := [(3, .int (-1)), (4, .int 1), (0, .ref (B 100)), (1, .int (nI t9)), (2, .int (nI l9)), (5, .int (nI i))]) hx hb dX5_closesRing_67 rfl hl (by decide) rfl (fun ls hl => ?_)
              refine lv_iinc (v := nI (i + 1)) (lv' := [(5, .int (nI (i + 1))), (3, .int (-1)), (4, .int 1), (0, .ref (B 100)), (1, .int (nI t9)), (2, .int (nI l9))]) hx hb dX5_closesRing_68 hl (k := 5) rfl (show nI i + Int32.ofInt 1 = _ from nI_add i 1) (by decide) rfl (fun ls hl => ?_)
              refine lv_goto (tgt := 13) hx hb dX5_closesRing_71 (by decide) ?_
              have d9 : hdM μ k22 = none := by unfold hdM; rw [c49]
              have b9 : (b || decide (k22 = t9)) = true := by rw [c27]; rfl
              have w9 : crM μ t9 (12 - (i + 1)) none true = crT μ t9 l9 := by rw [← hf, show 12 - i = (12 - (i + 1)) + 1 by omega, c22, crM, d9, b9]
              have q2 : (-1) = oI none := by first | rfl | simp
              have q3 : 1 = bI true := by first | rfl | simp
              replace hl : lv_has ls 6 [(5, .int (nI (i + 1))), (3, .int (oI none)), (4, .int (bI true)), (0, .ref (B 100)), (1, .int (nI t9)), (2, .int (nI l9))] := (congrArg (lv_has ls 6) (m_lc rfl (m_lc (congrArg Value.int q2) (m_lc (congrArg Value.int q3) (m_lc rfl (m_lc rfl (m_lc rfl rfl))))))).mp hl
              exact ih13 (i + 1) none true (by omega) (fun _ z => nomatch z) w9 (by omega) _ _ hV hS ls (lv_sub hl [3, 4, 5, 1, 2, 0] rfl)
          · replace c27 : b = false := bI_0.mp c27
            refine lv_iload_n hx hb dX5_closesRing_30 rfl (lv_at hl 3 rfl) ?_
            refine lv_iload_n hx hb dX5_closesRing_31 rfl (lv_at hl 1 rfl) ?_
            refine lv_icmp_ne (tgt := 39) hx hb dX5_closesRing_32 (by decide) (fun c32 => ?_) (fun c32 => ?_)
            · replace c32 : ¬ k22 = t9 := fun q9 => c32 ((nI_eq (a := k22) (b := t9) (by omega) (by omega)).mpr q9)
              refine lv_iconst (v := 0) hx hb dX5_closesRing_39 (by decide) ?_
              refine lv_istore (lv' := [(4, .int 0), (0, .ref (B 100)), (1, .int (nI t9)), (2, .int (nI l9)), (3, .int (nI k22)), (5, .int (nI i))]) hx hb dX5_closesRing_40 hl (by decide) rfl (fun ls hl => ?_)
              refine lv_aload_n hx hb dX5_closesRing_42 rfl (lv_at hl 1 rfl) ?_
              refine m_get (C := RX5) (T := TX5) (N := 34) hx hb hts hi_X5 hown hK hV 22 (v := .ref (B 22)) (g_m22 hM) rfl (by decide) k73 (fun _ h9 => h9) dX5_closesRing_43 ?_
              refine lv_iload_n hx hb dX5_closesRing_46 rfl (lv_at hl 4 rfl) ?_
              refine m_iald hx hb hK hV 0 (i := nI k22) (x := oI (kO μ 22 k22)) (a_m22 hM) rfl (vp_in_nI (by omega) (by omega)) (by rw [nI_clamp (by omega)] <;> first | rfl | (show oI (va_up _ _ _ _) = _; rw [vu_s]) | (show va_up _ _ _ _ = _; rw [vu_s])) dX5_closesRing_47 ?_
              refine lv_iconst (v := (-1)) hx hb dX5_closesRing_48 (by decide) ?_
              refine lv_icmp_ne (tgt := 56) hx hb dX5_closesRing_49 (by decide) (fun c49 => ?_) (fun c49 => ?_)
              · obtain ⟨k49, c49⟩ : ∃ z, kO μ 22 k22 = some z := Option.ne_none_iff_exists'.mp (fun q9 => c49 ((oI_m1 (fun k9 e9 => by have : k9 < 4 := hM.wf.2.2.2.1 k22 (by first | assumption | (show k22 < kN μ 24 0; omega)) _ e9; omega)).mpr q9))
                have bk49 : k49 < 4 := hM.wf.2.2.2.1 k22 (by first | assumption | (show k22 < kN μ 24 0; omega)) _ c49
                refine lv_aload_n hx hb dX5_closesRing_56 rfl (lv_at hl 1 rfl) ?_
                refine m_get (C := RX5) (T := TX5) (N := 34) hx hb hts hi_X5 hown hK hV 26 (v := .ref (B 26)) (g_m26 hM) rfl (by decide) k79 (fun _ h9 => h9) dX5_closesRing_57 ?_
                refine lv_aload_n hx hb dX5_closesRing_60 rfl (lv_at hl 1 rfl) ?_
                refine m_get (C := RX5) (T := TX5) (N := 34) hx hb hts hi_X5 hown hK hV 22 (v := .ref (B 22)) (g_m22 hM) rfl (by decide) k73 (fun _ h9 => h9) dX5_closesRing_61 ?_
                refine lv_iload_n hx hb dX5_closesRing_64 rfl (lv_at hl 4 rfl) ?_
                refine m_iald hx hb hK hV 0 (i := nI k22) (x := nI k49) (a_m22 hM) rfl (vp_in_nI (by omega) (by omega)) (by rw [nI_clamp (by omega)]; show oI (kO μ 22 k22) = _; rw [c49]; rfl) dX5_closesRing_65 ?_
                refine m_iald hx hb hK hV 0 (i := nI k49) (x := oI (kO μ 26 k49)) (a_m26 hM) rfl (vp_in_nI (by omega) (by omega)) (by rw [nI_clamp (by omega)] <;> first | rfl | (show oI (va_up _ _ _ _) = _; rw [vu_s]) | (show va_up _ _ _ _ = _; rw [vu_s])) dX5_closesRing_66 ?_
                refine lv_istore_n (lv' := [(3, .int (oI (kO μ 26 k49))), (4, .int 0), (0, .ref (B 100)), (1, .int (nI t9)), (2, .int (nI l9)), (5, .int (nI i))]) hx hb dX5_closesRing_67 rfl hl (by decide) rfl (fun ls hl => ?_)
                refine lv_iinc (v := nI (i + 1)) (lv' := [(5, .int (nI (i + 1))), (3, .int (oI (kO μ 26 k49))), (4, .int 0), (0, .ref (B 100)), (1, .int (nI t9)), (2, .int (nI l9))]) hx hb dX5_closesRing_68 hl (k := 5) rfl (show nI i + Int32.ofInt 1 = _ from nI_add i 1) (by decide) rfl (fun ls hl => ?_)
                refine lv_goto (tgt := 13) hx hb dX5_closesRing_71 (by decide) ?_
                have d9 : hdM μ k22 = kO μ 26 k49 := by unfold hdM; rw [c49]
                have b9 : (b || decide (k22 = t9)) = false := by rw [c27, decide_eq_false c32]; rfl
                have w9 : crM μ t9 (12 - (i + 1)) (kO μ 26 k49) false = crT μ t9 l9 := by rw [← hf, show 12 - i = (12 - (i + 1)) + 1 by omega, c22, crM, d9, b9]
                have q4 : 0 = bI false := by first | rfl | simp
                replace hl : lv_has ls 6 [(5, .int (nI (i + 1))), (3, .int (oI (kO μ 26 k49))), (4, .int (bI false)), (0, .ref (B 100)), (1, .int (nI t9)), (2, .int (nI l9))] := (congrArg (lv_has ls 6) (m_lc rfl (m_lc rfl (m_lc (congrArg Value.int q4) (m_lc rfl (m_lc rfl (m_lc rfl rfl))))))).mp hl
                exact ih13 (i + 1) (kO μ 26 k49) false (by omega) (fun k9 h9 => hM.wf.2.2.2.2 k49 (by omega) k9 h9) w9 (by omega) _ _ hV hS ls (lv_sub hl [3, 4, 5, 1, 2, 0] rfl)
              · replace c49 : kO μ 22 k22 = none := (oI_m1 (fun k9 e9 => by have : k9 < 4 := hM.wf.2.2.2.1 k22 (by first | assumption | (show k22 < kN μ 24 0; omega)) _ e9; omega)).mp c49
                refine lv_iconst (v := (-1)) hx hb dX5_closesRing_52 (by decide) ?_
                refine lv_goto (tgt := 67) hx hb dX5_closesRing_53 (by decide) ?_
                refine lv_istore_n (lv' := [(3, .int (-1)), (4, .int 0), (0, .ref (B 100)), (1, .int (nI t9)), (2, .int (nI l9)), (5, .int (nI i))]) hx hb dX5_closesRing_67 rfl hl (by decide) rfl (fun ls hl => ?_)
                refine lv_iinc (v := nI (i + 1)) (lv' := [(5, .int (nI (i + 1))), (3, .int (-1)), (4, .int 0), (0, .ref (B 100)), (1, .int (nI t9)), (2, .int (nI l9))]) hx hb dX5_closesRing_68 hl (k := 5) rfl (show nI i + Int32.ofInt 1 = _ from nI_add i 1) (by decide) rfl (fun ls hl => ?_)
                refine lv_goto (tgt := 13) hx hb dX5_closesRing_71 (by decide) ?_
                have d9 : hdM μ k22 = none := by unfold hdM; rw [c49]
                have b9 : (b || decide (k22 = t9)) = false := by rw [c27, decide_eq_false c32]; rfl
                have w9 : crM μ t9 (12 - (i + 1)) none false = crT μ t9 l9 := by rw [← hf, show 12 - i = (12 - (i + 1)) + 1 by omega, c22, crM, d9, b9]
                have q5 : (-1) = oI none := by first | rfl | simp
                have q6 : 0 = bI false := by first | rfl | simp
                replace hl : lv_has ls 6 [(5, .int (nI (i + 1))), (3, .int (oI none)), (4, .int (bI false)), (0, .ref (B 100)), (1, .int (nI t9)), (2, .int (nI l9))] := (congrArg (lv_has ls 6) (m_lc rfl (m_lc (congrArg Value.int q5) (m_lc (congrArg Value.int q6) (m_lc rfl (m_lc rfl (m_lc rfl rfl))))))).mp hl
                exact ih13 (i + 1) none false (by omega) (fun _ z => nomatch z) w9 (by omega) _ _ hV hS ls (lv_sub hl [3, 4, 5, 1, 2, 0] rfl)
            · replace c32 : k22 = t9 := (nI_eq (a := k22) (b := t9) (by omega) (by omega)).mp c32
              refine lv_iconst (v := 1) hx hb dX5_closesRing_35 (by decide) ?_
              refine lv_goto (tgt := 40) hx hb dX5_closesRing_36 (by decide) ?_
              refine lv_istore (lv' := [(4, .int 1), (0, .ref (B 100)), (1, .int (nI t9)), (2, .int (nI l9)), (3, .int (nI k22)), (5, .int (nI i))]) hx hb dX5_closesRing_40 hl (by decide) rfl (fun ls hl => ?_)
              refine lv_aload_n hx hb dX5_closesRing_42 rfl (lv_at hl 1 rfl) ?_
              refine m_get (C := RX5) (T := TX5) (N := 34) hx hb hts hi_X5 hown hK hV 22 (v := .ref (B 22)) (g_m22 hM) rfl (by decide) k73 (fun _ h9 => h9) dX5_closesRing_43 ?_
              refine lv_iload_n hx hb dX5_closesRing_46 rfl (lv_at hl 4 rfl) ?_
              refine m_iald hx hb hK hV 0 (i := nI k22) (x := oI (kO μ 22 k22)) (a_m22 hM) rfl (vp_in_nI (by omega) (by omega)) (by rw [nI_clamp (by omega)] <;> first | rfl | (show oI (va_up _ _ _ _) = _; rw [vu_s]) | (show va_up _ _ _ _ = _; rw [vu_s])) dX5_closesRing_47 ?_
              refine lv_iconst (v := (-1)) hx hb dX5_closesRing_48 (by decide) ?_
              refine lv_icmp_ne (tgt := 56) hx hb dX5_closesRing_49 (by decide) (fun c49 => ?_) (fun c49 => ?_)
              · obtain ⟨k49, c49⟩ : ∃ z, kO μ 22 k22 = some z := Option.ne_none_iff_exists'.mp (fun q9 => c49 ((oI_m1 (fun k9 e9 => by have : k9 < 4 := hM.wf.2.2.2.1 k22 (by first | assumption | (show k22 < kN μ 24 0; omega)) _ e9; omega)).mpr q9))
                have bk49 : k49 < 4 := hM.wf.2.2.2.1 k22 (by first | assumption | (show k22 < kN μ 24 0; omega)) _ c49
                refine lv_aload_n hx hb dX5_closesRing_56 rfl (lv_at hl 1 rfl) ?_
                refine m_get (C := RX5) (T := TX5) (N := 34) hx hb hts hi_X5 hown hK hV 26 (v := .ref (B 26)) (g_m26 hM) rfl (by decide) k79 (fun _ h9 => h9) dX5_closesRing_57 ?_
                refine lv_aload_n hx hb dX5_closesRing_60 rfl (lv_at hl 1 rfl) ?_
                refine m_get (C := RX5) (T := TX5) (N := 34) hx hb hts hi_X5 hown hK hV 22 (v := .ref (B 22)) (g_m22 hM) rfl (by decide) k73 (fun _ h9 => h9) dX5_closesRing_61 ?_
                refine lv_iload_n hx hb dX5_closesRing_64 rfl (lv_at hl 4 rfl) ?_
                refine m_iald hx hb hK hV 0 (i := nI k22) (x := nI k49) (a_m22 hM) rfl (vp_in_nI (by omega) (by omega)) (by rw [nI_clamp (by omega)]; show oI (kO μ 22 k22) = _; rw [c49]; rfl) dX5_closesRing_65 ?_
                refine m_iald hx hb hK hV 0 (i := nI k49) (x := oI (kO μ 26 k49)) (a_m26 hM) rfl (vp_in_nI (by omega) (by omega)) (by rw [nI_clamp (by omega)] <;> first | rfl | (show oI (va_up _ _ _ _) = _; rw [vu_s]) | (show va_up _ _ _ _ = _; rw [vu_s])) dX5_closesRing_66 ?_
                refine lv_istore_n (lv' := [(3, .int (oI (kO μ 26 k49))), (4, .int 1), (0, .ref (B 100)), (1, .int (nI t9)), (2, .int (nI l9)), (5, .int (nI i))]) hx hb dX5_closesRing_67 rfl hl (by decide) rfl (fun ls hl => ?_)
                refine lv_iinc (v := nI (i + 1)) (lv' := [(5, .int (nI (i + 1))), (3, .int (oI (kO μ 26 k49))), (4, .int 1), (0, .ref (B 100)), (1, .int (nI t9)), (2, .int (nI l9))]) hx hb dX5_closesRing_68 hl (k := 5) rfl (show nI i + Int32.ofInt 1 = _ from nI_add i 1) (by decide) rfl (fun ls hl => ?_)
                refine lv_goto (tgt := 13) hx hb dX5_closesRing_71 (by decide) ?_
                have d9 : hdM μ k22 = kO μ 26 k49 := by unfold hdM; rw [c49]
                have b9 : (b || decide (k22 = t9)) = true := by rw [c27, decide_eq_true c32]; rfl
                have w9 : crM μ t9 (12 - (i + 1)) (kO μ 26 k49) true = crT μ t9 l9 := by rw [← hf, show 12 - i = (12 - (i + 1)) + 1 by omega, c22, crM, d9, b9]
                have q7 : 1 = bI true := by first | rfl | simp
                replace hl : lv_has ls 6 [(5, .int (nI (i + 1))), (3, .int (oI (kO μ 26 k49))), (4, .int (bI true)), (0, .ref (B 100)), (1, .int (nI t9)), (2, .int (nI l9))] := (congrArg (lv_has ls 6) (m_lc rfl (m_lc rfl (m_lc (congrArg Value.int q7) (m_lc rfl (m_lc rfl (m_lc rfl rfl))))))).mp hl
                exact ih13 (i + 1) (kO μ 26 k49) true (by omega) (fun k9 h9 => hM.wf.2.2.2.2 k49 (by omega) k9 h9) w9 (by omega) _ _ hV hS ls (lv_sub hl [3, 4, 5, 1, 2, 0] rfl)
              · replace c49 : kO μ 22 k22 = none := (oI_m1 (fun k9 e9 => by have : k9 < 4 := hM.wf.2.2.2.1 k22 (by first | assumption | (show k22 < kN μ 24 0; omega)) _ e9; omega)).mp c49
                refine lv_iconst (v := (-1)) hx hb dX5_closesRing_52 (by decide) ?_
                refine lv_goto (tgt := 67) hx hb dX5_closesRing_53 (by decide) ?_
                refine lv_istore_n (lv' := [(3, .int (-1)), (4, .int 1), (0, .ref (B 100)), (1, .int (nI t9)), (2, .int (nI l9)), (5, .int (nI i))]) hx hb dX5_closesRing_67 rfl hl (by decide) rfl (fun ls hl => ?_)
                refine lv_iinc (v := nI (i + 1)) (lv' := [(5, .int (nI (i + 1))), (3, .int (-1)), (4, .int 1), (0, .ref (B 100)), (1, .int (nI t9)), (2, .int (nI l9))]) hx hb dX5_closesRing_68 hl (k := 5) rfl (show nI i + Int32.ofInt 1 = _ from nI_add i 1) (by decide) rfl (fun ls hl => ?_)
                refine lv_goto (tgt := 13) hx hb dX5_closesRing_71 (by decide) ?_
                have d9 : hdM μ k22 = none := by unfold hdM; rw [c49]
                have b9 : (b || decide (k22 = t9)) = true := by rw [c27, decide_eq_true c32]; rfl
                have w9 : crM μ t9 (12 - (i + 1)) none true = crT μ t9 l9 := by rw [← hf, show 12 - i = (12 - (i + 1)) + 1 by omega, c22, crM, d9, b9]
                have q8 : (-1) = oI none := by first | rfl | simp
                have q9 : 1 = bI true := by first | rfl | simp
                replace hl : lv_has ls 6 [(5, .int (nI (i + 1))), (3, .int (oI none)), (4, .int (bI true)), (0, .ref (B 100)), (1, .int (nI t9)), (2, .int (nI l9))] := (congrArg (lv_has ls 6) (m_lc rfl (m_lc (congrArg Value.int q8) (m_lc (congrArg Value.int q9) (m_lc rfl (m_lc rfl (m_lc rfl rfl))))))).mp hl
                exact ih13 (i + 1) none true (by omega) (fun _ z => nomatch z) w9 (by omega) _ _ hV hS ls (lv_sub hl [3, 4, 5, 1, 2, 0] rfl)
  have q10 : 0 = bI false := rfl
  have q11 : 0 = nI 0 := rfl
  replace hl : lv_has ls 6 [(5, .int (nI 0)), (4, .int (bI false)), (3, .int (oI (kO μ 26 l9))), (0, .ref (B 100)), (1, .int (nI t9)), (2, .int (nI l9))] := (congrArg (lv_has ls 6) (m_lc (congrArg Value.int q11) (m_lc (congrArg Value.int q10) (m_lc rfl (m_lc rfl (m_lc rfl (m_lc rfl rfl))))))).mp hl
  exact lp13 ((12 - 0) + 1) 0 (kO μ 26 l9) false (by omega) (fun k9 h9 => hM.wf.2.2.2.2 l9 hl9 k9 h9) rfl (Nat.lt_succ_self _) _ _ hV hS ls (lv_sub hl [3, 4, 5, 2, 1, 0] rfl)
set_option maxHeartbeats 4000000 in
set_option maxRecDepth 100000 in
theorem c_X5_take {l : Launch} {D : va_G} {cs : mC} {df : Nat} {P : Nat → Prop} {h0 : mH} {B : Nat → Nat} {μ : KS} {hh : mH} (sz : Nat) (hM : DRep cs P h0 B μ hh) (x0 : Int32) (x1 : Int32) : Met l yX5_take wsX5_take ({ frames := 2, cells := 0, slots := 0, locals := 46 }) (mPre [.ref (B 100), .int x0, .int x1] D cs df hh sz) (va_Qi ((fun (r : Int32) (h1 : mH) => ∃ μ1 : KS, DRep cs P h0 B μ1 h1 ∧ om_take μ x0 x1 r μ1)) (mB D hh sz) (mA hh sz)) 0 0 (mA hh sz) := by
  refine Met.ofW (cc := cX5_take) (maxL := 4) (ret := (some .boolean)) (by decide) rfl ?_
  intro p e s m args below meth c s₁ B0 hml hv
  obtain ⟨hargs, hsz, hV, hE⟩ := hv
  subst hsz
  have hx := B0.exec
  have hb := B0.bytes
  have hr := B0.returns
  have hlocks := B0.notSynchronized
  have hts := atoms_spec (ws := wsX5_take) B0.pre
  have hown : s.vm.findClass RX5 = some m.cls := findClass_of_methodNamed B0.named
  have hK := hE.1.1
  have hA : ∀ q : Nat, s.heap.size ≤ q → mA hh s.heap.size q := mA.top
  have hS : va_S (mA hh s.heap.size) s.heap s.heap [] := va_S.rf
  have k91 : (Cond.fieldLink RX5 91 "TaskKernelModel" "thrown" "I").before args s = true := hts _ (by decide +kernel)
  have hi_X5 : ∀ w ∈ u_ws RX5 TX5 34, w ∈ wsX5_take := by decide +kernel
  have k69 : (Cond.fieldLink RX5 69 "TaskKernelModel" "isEnded" "[Z").before args s = true := hts _ (by decide +kernel)
  have k73 : (Cond.fieldLink RX5 73 "TaskKernelModel" "waitsFor" "[I").before args s = true := hts _ (by decide +kernel)
  have k79 : (Cond.fieldLink RX5 79 "TaskKernelModel" "holders" "[I").before args s = true := hts _ (by decide +kernel)
  have k76 : (Cond.fieldLink RX5 76 "TaskKernelModel" "waitsSince" "[I").before args s = true := hts _ (by decide +kernel)
  have k184 : (Cond.fieldLink RX5 184 "TaskKernelModel" "waits" "I").before args s = true := hts _ (by decide +kernel)
  have hl := lv_entry ([.ref (B 100), .int x0, .int x1]) (n := 4) (by first | exact Nat.le_of_ble_eq_true rfl | simp [lg_sl, rf_cat, ct_ref, ct_int, ct_null, ct_long])
  have hent := lg_entry_eq m ([.ref (B 100), .int x0, .int x1]) 4
  rw [← hargs] at hent
  rw [hent]
  generalize (lg_sl ([.ref (B 100), .int x0, .int x1]) ++ List.replicate (4 - (lg_sl ([.ref (B 100), .int x0, .int x1])).length) Slot.unset).toArray = ls at hl ⊢
  replace hl : lv_has ls 4 [(0, .ref (B 100)), (1, .int x0), (2, .int x1)] := hl
  have hwf := hM.wf
  obtain ⟨⟨y0, y1, y2, y3⟩, y4, y5, y6, y7⟩ := hwf
  refine lv_aload_n hx hb dX5_take_0 rfl (lv_at hl 0 rfl) ?_
  refine lv_iload_n hx hb dX5_take_1 rfl (lv_at hl 1 rfl) ?_
  refine m_calli (va_runV (As := [.int x0]) (rest := []) ⟨hx, hb, hml, hown, hts⟩ (c_X5_isTask (l := l) (s.heap.size) hM x0) (cwV 1 hts gX5_take_X5_isTask rfl rfl rfl (by decide +kernel) ⟨by decide, by decide⟩) (m_preV (r := (RX5, TX5, 34)) hE hV hS hA (hM.at 100 (by decide)) rfl) rfl rfl hl.1 rfl (lv_room (by first | exact Nat.le_of_ble_eq_true rfl | simp [rf_cat, ct_ref, ct_int, ct_null, ct_long])) dX5_take_2 ⟨by decide, by decide⟩) hV hS hA (fun r h1 H locs hV hS hp _ => ?_)
  obtain ⟨e1, e2⟩ := hp
  subst e2
  rw [e1] at hV; clear e1
  refine lv_if_eq (tgt := 15) hx hb dX5_take_5 (by decide) (fun c5 => ?_) (fun c5 => ?_)
  · replace c5 : ((inR x0 (kN μ 24 0)).isSome) = false := bI_0.mp c5
    refine lv_aload_n hx hb dX5_take_15 rfl (lv_at hl 0 rfl) ?_
    refine lv_aload_n hx hb dX5_take_16 rfl (lv_at hl 0 rfl) ?_
    refine lv_iload_n hx hb dX5_take_17 rfl (lv_at hl 1 rfl) ?_
    refine m_calli (va_runV (As := [.int x0]) (rest := [.ref (B 100)]) ⟨hx, hb, hml, hown, hts⟩ (c_X5_isTask (l := l) (H.size) hM x0) (cwV 1 hts gX5_take_X5_isTask rfl rfl rfl (by decide +kernel) ⟨by decide, by decide⟩) (m_preV (r := (RX5, TX5, 34)) hE hV hS hA (hM.at 100 (by decide)) rfl) rfl rfl hl.1 rfl (lv_room (by first | exact Nat.le_of_ble_eq_true rfl | simp [rf_cat, ct_ref, ct_int, ct_null, ct_long])) dX5_take_18 ⟨by decide, by decide⟩) hV hS hA (fun r h1 H locs hV hS hp _ => ?_)
    obtain ⟨e1, e2⟩ := hp
    subst e2
    rw [e1] at hV; clear e1
    refine lv_if_ne (tgt := 28) hx hb dX5_take_21 (by decide) (fun c21 => absurd (by rw [c5]; rfl) c21) (fun _ => ?_)
    refine lv_iconst (v := 1) hx hb dX5_take_24 (by decide) ?_
    refine lv_goto (tgt := 29) hx hb dX5_take_25 (by decide) ?_
    refine m_put (C := RX5) (T := TX5) (N := 34) (v := .int 1) hx hb hts hi_X5 tyX5 tyX5_ok nmX5 hown hK hV hS 33 (p_m33 hM 1) rfl (by decide) k91 (fun _ h9 => h9) rfl (tyX5_ok 33 (by decide)) rfl rfl dX5_take_29 (fun h H locs hV hS hM => ?_)
    refine lv_iconst (v := 0) hx hb dX5_take_32 (by decide) ?_
    exact m_zret (v := 0) hx hb hr hlocks (by decide) hV hS (⟨_, hM, Or.inl ⟨Option.not_isSome_iff_eq_none.mp (by rw [c5]; decide), rfl⟩⟩) dX5_take_33
  · replace c5 : ((inR x0 (kN μ 24 0)).isSome) = true := bI_1.mp c5
    refine lv_iload_n hx hb dX5_take_8 rfl (lv_at hl 2 rfl) ?_
    refine m_calli (va_runS (As := [.int x1]) (rest := []) ⟨hx, hb, hml, hown, hts⟩ (c_X5_isLock (l := l) (D := D) (cs := cs) (df := df) (hh := hh) (H.size) x1) (va_cwS 1 hts gX5_take_X5_isLock rfl rfl rfl (by decide +kernel) ⟨by decide, by decide⟩) (m_preS hE hV hS hA) rfl rfl hl.1 rfl (lv_room (by first | exact Nat.le_of_ble_eq_true rfl | simp [rf_cat, ct_ref, ct_int, ct_null, ct_long])) dX5_take_9 ⟨by decide, by decide⟩) hV hS hA (fun r h1 H locs hV hS hp _ => ?_)
    obtain ⟨e1, e2⟩ := hp
    subst e2
    rw [e1] at hV; clear e1
    refine lv_if_ne (tgt := 34) hx hb dX5_take_12 (by decide) (fun c12 => ?_) (fun c12 => ?_)
    · replace c12 : ((inR x1 4).isSome) = true := bI_1.mp c12
      obtain ⟨t, ht⟩ := Option.isSome_iff_exists.mp c5
      obtain ⟨rfl, bt⟩ := inR_some ht
      obtain ⟨w, hw⟩ := Option.isSome_iff_exists.mp c12
      obtain ⟨rfl, bw⟩ := inR_some hw
      refine lv_aload_n hx hb dX5_take_34 rfl (lv_at hl 0 rfl) ?_
      refine m_get (C := RX5) (T := TX5) (N := 34) hx hb hts hi_X5 hown hK hV 21 (v := .ref (B 21)) (g_m21 hM) rfl (by decide) k69 (fun _ h9 => h9) dX5_take_35 ?_
      refine lv_iload_n hx hb dX5_take_38 rfl (lv_at hl 1 rfl) ?_
      refine m_zald hx hb hK hV 2 (i := nI t) (x := bI (kB μ 21 t)) (a_m21 hM) rfl (vp_in_nI (by omega) (by omega)) (by rw [nI_clamp (by omega)] <;> first | rfl | (show oI (va_up _ _ _ _) = _; rw [vu_s]) | (show va_up _ _ _ _ = _; rw [vu_s])) dX5_take_39 ?_
      refine lv_if_ne (tgt := 63) hx hb dX5_take_40 (by decide) (fun c40 => ?_) (fun c40 => ?_)
      · replace c40 : kB μ 21 t = true := bI_1.mp c40
        refine lv_iconst (v := 1) hx hb dX5_take_63 (by decide) ?_
        refine lv_goto (tgt := 68) hx hb dX5_take_64 (by decide) ?_
        refine lv_istore_n (lv' := [(3, .int 1), (0, .ref (B 100)), (1, .int (nI t)), (2, .int (nI w))]) hx hb dX5_take_68 rfl hl (by decide) rfl (fun ls hl => ?_)
        refine lv_aload_n hx hb dX5_take_69 rfl (lv_at hl 1 rfl) ?_
        refine lv_iload_n hx hb dX5_take_70 rfl (lv_at hl 0 rfl) ?_
        refine lv_if_eq (tgt := 78) hx hb dX5_take_71 (by decide) (fun c71 => (absurd c71 (by decide))) (fun c71 => ?_)
        refine lv_iconst (v := 3) hx hb dX5_take_74 (by decide) ?_
        refine lv_goto (tgt := 92) hx hb dX5_take_75 (by decide) ?_
        refine m_put (C := RX5) (T := TX5) (N := 34) (v := .int 3) hx hb hts hi_X5 tyX5 tyX5_ok nmX5 hown hK hV hS 33 (p_m33 hM 3) rfl (by decide) k91 (fun _ h9 => h9) rfl (tyX5_ok 33 (by decide)) rfl rfl dX5_take_92 (fun h H locs hV hS hM => ?_)
        refine lv_aload_n hx hb dX5_take_95 rfl (lv_at hl 1 rfl) ?_
        refine m_get (C := RX5) (T := TX5) (N := 34) hx hb hts hi_X5 hown hK hV 33 (v := .int 3) (by have z9 := g_m33 hM; exact z9) rfl (by decide) k91 (fun _ h9 => h9) dX5_take_96 ?_
        refine lv_if_le (tgt := 104) hx hb dX5_take_99 (by decide) (fun c99 => (absurd c99 (by decide))) (fun c99 => ?_)
        refine lv_iconst (v := 0) hx hb dX5_take_102 (by decide) ?_
        exact m_zret (v := 0) hx hb hr hlocks (by decide) hV hS (⟨_, hM, Or.inr (Or.inr ⟨t, w, ht, hw, Or.inl ⟨Or.inl c40, rfl⟩⟩)⟩) dX5_take_103
      · replace c40 : kB μ 21 t = false := bI_0.mp c40
        refine lv_aload_n hx hb dX5_take_43 rfl (lv_at hl 0 rfl) ?_
        refine m_get (C := RX5) (T := TX5) (N := 34) hx hb hts hi_X5 hown hK hV 22 (v := .ref (B 22)) (g_m22 hM) rfl (by decide) k73 (fun _ h9 => h9) dX5_take_44 ?_
        refine lv_iload_n hx hb dX5_take_47 rfl (lv_at hl 1 rfl) ?_
        refine m_iald hx hb hK hV 0 (i := nI t) (x := oI (kO μ 22 t)) (a_m22 hM) rfl (vp_in_nI (by omega) (by omega)) (by rw [nI_clamp (by omega)] <;> first | rfl | (show oI (va_up _ _ _ _) = _; rw [vu_s]) | (show va_up _ _ _ _ = _; rw [vu_s])) dX5_take_48 ?_
        refine lv_iconst (v := (-1)) hx hb dX5_take_49 (by decide) ?_
        refine lv_icmp_ne (tgt := 63) hx hb dX5_take_50 (by decide) (fun c50 => ?_) (fun c50 => ?_)
        · obtain ⟨k50, c50⟩ : ∃ z, kO μ 22 t = some z := Option.ne_none_iff_exists'.mp (fun q9 => c50 ((oI_m1 (fun k9 e9 => by have : k9 < 4 := hM.wf.2.2.2.1 t (by first | assumption | (show t < kN μ 24 0; omega)) _ e9; omega)).mpr q9))
          have bk50 : k50 < 4 := hM.wf.2.2.2.1 t (by first | assumption | (show t < kN μ 24 0; omega)) _ c50
          refine lv_iconst (v := 1) hx hb dX5_take_63 (by decide) ?_
          refine lv_goto (tgt := 68) hx hb dX5_take_64 (by decide) ?_
          refine lv_istore_n (lv' := [(3, .int 1), (0, .ref (B 100)), (1, .int (nI t)), (2, .int (nI w))]) hx hb dX5_take_68 rfl hl (by decide) rfl (fun ls hl => ?_)
          refine lv_aload_n hx hb dX5_take_69 rfl (lv_at hl 1 rfl) ?_
          refine lv_iload_n hx hb dX5_take_70 rfl (lv_at hl 0 rfl) ?_
          refine lv_if_eq (tgt := 78) hx hb dX5_take_71 (by decide) (fun c71 => (absurd c71 (by decide))) (fun c71 => ?_)
          refine lv_iconst (v := 3) hx hb dX5_take_74 (by decide) ?_
          refine lv_goto (tgt := 92) hx hb dX5_take_75 (by decide) ?_
          refine m_put (C := RX5) (T := TX5) (N := 34) (v := .int 3) hx hb hts hi_X5 tyX5 tyX5_ok nmX5 hown hK hV hS 33 (p_m33 hM 3) rfl (by decide) k91 (fun _ h9 => h9) rfl (tyX5_ok 33 (by decide)) rfl rfl dX5_take_92 (fun h H locs hV hS hM => ?_)
          refine lv_aload_n hx hb dX5_take_95 rfl (lv_at hl 1 rfl) ?_
          refine m_get (C := RX5) (T := TX5) (N := 34) hx hb hts hi_X5 hown hK hV 33 (v := .int 3) (by have z9 := g_m33 hM; exact z9) rfl (by decide) k91 (fun _ h9 => h9) dX5_take_96 ?_
          refine lv_if_le (tgt := 104) hx hb dX5_take_99 (by decide) (fun c99 => (absurd c99 (by decide))) (fun c99 => ?_)
          refine lv_iconst (v := 0) hx hb dX5_take_102 (by decide) ?_
          exact m_zret (v := 0) hx hb hr hlocks (by decide) hV hS (⟨_, hM, Or.inr (Or.inr ⟨t, w, ht, hw, Or.inl ⟨Or.inr (Or.inl (fun z => nomatch (c50.symm.trans z))), rfl⟩⟩)⟩) dX5_take_103
        · replace c50 : kO μ 22 t = none := (oI_m1 (fun k9 e9 => by have : k9 < 4 := hM.wf.2.2.2.1 t (by first | assumption | (show t < kN μ 24 0; omega)) _ e9; omega)).mp c50
          refine lv_aload_n hx hb dX5_take_53 rfl (lv_at hl 0 rfl) ?_
          refine m_get (C := RX5) (T := TX5) (N := 34) hx hb hts hi_X5 hown hK hV 26 (v := .ref (B 26)) (g_m26 hM) rfl (by decide) k79 (fun _ h9 => h9) dX5_take_54 ?_
          refine lv_iload_n hx hb dX5_take_57 rfl (lv_at hl 2 rfl) ?_
          refine m_iald hx hb hK hV 0 (i := nI w) (x := oI (kO μ 26 w)) (a_m26 hM) rfl (vp_in_nI (by omega) (by omega)) (by rw [nI_clamp (by omega)] <;> first | rfl | (show oI (va_up _ _ _ _) = _; rw [vu_s]) | (show va_up _ _ _ _ = _; rw [vu_s])) dX5_take_58 ?_
          refine lv_iload_n hx hb dX5_take_59 rfl (lv_at hl 1 rfl) ?_
          refine lv_icmp_ne (tgt := 67) hx hb dX5_take_60 (by decide) (fun c60 => ?_) (fun c60 => ?_)
          · replace c60 : ¬ kO μ 26 w = some t := fun q9 => c60 ((oI_n (fun k9 e9 => by have : k9 < kN μ 24 0 := hM.wf.2.2.2.2 w (show w < 4 by omega) _ e9; omega) (by omega)).mpr q9)
            refine lv_iconst (v := 0) hx hb dX5_take_67 (by decide) ?_
            refine lv_istore_n (lv' := [(3, .int 0), (0, .ref (B 100)), (1, .int (nI t)), (2, .int (nI w))]) hx hb dX5_take_68 rfl hl (by decide) rfl (fun ls hl => ?_)
            refine lv_aload_n hx hb dX5_take_69 rfl (lv_at hl 1 rfl) ?_
            refine lv_iload_n hx hb dX5_take_70 rfl (lv_at hl 0 rfl) ?_
            refine lv_if_eq (tgt := 78) hx hb dX5_take_71 (by decide) (fun c71 => ?_) (fun c71 => (absurd (by decide) c71))
            refine lv_aload_n hx hb dX5_take_78 rfl (lv_at hl 1 rfl) ?_
            refine lv_iload_n hx hb dX5_take_79 rfl (lv_at hl 2 rfl) ?_
            refine lv_iload_n hx hb dX5_take_80 rfl (lv_at hl 3 rfl) ?_
            refine m_calli (va_runV (As := [.int (nI t), .int (nI w)]) (rest := [.ref (B 100)]) ⟨hx, hb, hml, hown, hts⟩ (c_X5_closesRing (l := l) (H.size) hM t w bt bw) (cwV 2 hts gX5_take_X5_closesRing rfl rfl rfl (by decide +kernel) ⟨by decide, by decide⟩) (m_preV (r := (RX5, TX5, 34)) hE hV hS hA (hM.at 100 (by decide)) rfl) rfl rfl hl.1 rfl (lv_room (by first | exact Nat.le_of_ble_eq_true rfl | simp [rf_cat, ct_ref, ct_int, ct_null, ct_long])) dX5_take_81 ⟨by decide, by decide⟩) hV hS hA (fun r h1 H locs hV hS hp _ => ?_)
            obtain ⟨e1, e2⟩ := hp
            subst e2
            rw [e1] at hV; clear e1
            refine lv_if_eq (tgt := 91) hx hb dX5_take_84 (by decide) (fun c84 => ?_) (fun c84 => ?_)
            · replace c84 : (crT μ t w) = false := bI_0.mp c84
              refine lv_iconst (v := 0) hx hb dX5_take_91 (by decide) ?_
              refine m_put (C := RX5) (T := TX5) (N := 34) (v := .int 0) hx hb hts hi_X5 tyX5 tyX5_ok nmX5 hown hK hV hS 33 (p_m33 hM 0) rfl (by decide) k91 (fun _ h9 => h9) rfl (tyX5_ok 33 (by decide)) rfl rfl dX5_take_92 (fun h H locs hV hS hM => ?_)
              refine lv_aload_n hx hb dX5_take_95 rfl (lv_at hl 1 rfl) ?_
              refine m_get (C := RX5) (T := TX5) (N := 34) hx hb hts hi_X5 hown hK hV 33 (v := .int 0) (by have z9 := g_m33 hM; exact z9) rfl (by decide) k91 (fun _ h9 => h9) dX5_take_96 ?_
              refine lv_if_le (tgt := 104) hx hb dX5_take_99 (by decide) (fun c99 => ?_) (fun c99 => (absurd (by decide) c99))
              refine lv_aload_n hx hb dX5_take_104 rfl (lv_at hl 1 rfl) ?_
              refine m_get (C := RX5) (T := TX5) (N := 34) hx hb hts hi_X5 hown hK hV 26 (v := .ref (B 26)) (g_m26 hM) rfl (by decide) k79 (fun _ h9 => h9) dX5_take_105 ?_
              refine lv_iload_n hx hb dX5_take_108 rfl (lv_at hl 3 rfl) ?_
              refine m_iald hx hb hK hV 0 (i := nI w) (x := oI (kO μ 26 w)) (a_m26 hM) rfl (vp_in_nI (by omega) (by omega)) (by rw [nI_clamp (by omega)] <;> first | rfl | (show oI (va_up _ _ _ _) = _; rw [vu_s]) | (show va_up _ _ _ _ = _; rw [vu_s])) dX5_take_109 ?_
              refine lv_iconst (v := (-1)) hx hb dX5_take_110 (by decide) ?_
              refine lv_icmp_ne (tgt := 123) hx hb dX5_take_111 (by decide) (fun c111 => ?_) (fun c111 => ?_)
              · obtain ⟨k111, c111⟩ : ∃ z, kO μ 26 w = some z := Option.ne_none_iff_exists'.mp (fun q9 => c111 ((oI_m1 (fun k9 e9 => by have : k9 < kN μ 24 0 := hM.wf.2.2.2.2 w (show w < 4 by omega) _ e9; omega)).mpr q9))
                have bk111 : k111 < kN μ 24 0 := hM.wf.2.2.2.2 w (show w < 4 by omega) _ c111
                refine lv_aload_n hx hb dX5_take_123 rfl (lv_at hl 1 rfl) ?_
                refine m_get (C := RX5) (T := TX5) (N := 34) hx hb hts hi_X5 hown hK hV 22 (v := .ref (B 22)) (g_m22 hM) rfl (by decide) k73 (fun _ h9 => h9) dX5_take_124 ?_
                refine lv_iload_n hx hb dX5_take_127 rfl (lv_at hl 2 rfl) ?_
                refine lv_iload_n hx hb dX5_take_128 rfl (lv_at hl 3 rfl) ?_
                refine m_iast hx hb hK hV hS 0 (i := nI t) (x := oI (some w)) (q_m22 hM (by omega) (some w) (dWF_22s hM.wf _ bw)) rfl (vp_in_nI (by omega) (by omega)) dX5_take_129 (fun h H locs hV hS hM => ?_)
                refine lv_aload_n hx hb dX5_take_130 rfl (lv_at hl 1 rfl) ?_
                refine m_get (C := RX5) (T := TX5) (N := 34) hx hb hts hi_X5 hown hK hV 23 (v := .ref (B 23)) (g_m23 hM) rfl (by decide) k76 (fun _ h9 => h9) dX5_take_131 ?_
                refine lv_iload_n hx hb dX5_take_134 rfl (lv_at hl 2 rfl) ?_
                refine lv_aload_n hx hb dX5_take_135 rfl (lv_at hl 1 rfl) ?_
                refine m_get (C := RX5) (T := TX5) (N := 34) hx hb hts hi_X5 hown hK hV 25 (v := .int (kI μ 25 0)) (by have z9 := g_m25 hM; exact z9) rfl (by decide) k184 (fun _ h9 => h9) dX5_take_136 ?_
                refine m_iast hx hb hK hV hS 0 (i := nI t) (x := (kI μ 25 0)) (q_m23 hM (by omega) (kI μ 25 0)) rfl (vp_in_nI (by omega) (by omega)) dX5_take_139 (fun h H locs hV hS hM => ?_)
                refine lv_aload_n hx hb dX5_take_140 rfl (lv_at hl 1 rfl) ?_
                refine lv_dup hx hb dX5_take_141 rfl ?_
                refine m_get (C := RX5) (T := TX5) (N := 34) hx hb hts hi_X5 hown hK hV 25 (v := .int (kI μ 25 0)) (by have z9 := g_m25 hM; exact z9) rfl (by decide) k184 (fun _ h9 => h9) dX5_take_142 ?_
                refine lv_iconst (v := 1) hx hb dX5_take_145 (by decide) ?_
                refine lv_iadd hx hb dX5_take_146 ?_
                refine m_put (C := RX5) (T := TX5) (N := 34) (v := .int ((kI μ 25 0) + 1)) hx hb hts hi_X5 tyX5 tyX5_ok nmX5 hown hK hV hS 25 (p_m25 hM ((kI μ 25 0) + 1)) rfl (by decide) k184 (fun _ h9 => h9) rfl (tyX5_ok 25 (by decide)) rfl rfl dX5_take_147 (fun h H locs hV hS hM => ?_)
                refine lv_iconst (v := 0) hx hb dX5_take_150 (by decide) ?_
                exact m_zret (v := 0) hx hb hr hlocks (by decide) hV hS (⟨_, hM, Or.inr (Or.inr ⟨t, w, ht, hw, Or.inr (Or.inr (Or.inr ⟨(fun z => z.elim (fun z => absurd z (by rw [c40]; decide)) (fun z => z.elim (fun z => z c50) c60)), c84, (fun z => nomatch (c111.symm.trans z)), rfl, rfl⟩))⟩)⟩) dX5_take_151
              · replace c111 : kO μ 26 w = none := (oI_m1 (fun k9 e9 => by have : k9 < kN μ 24 0 := hM.wf.2.2.2.2 w (show w < 4 by omega) _ e9; omega)).mp c111
                refine lv_aload_n hx hb dX5_take_114 rfl (lv_at hl 1 rfl) ?_
                refine m_get (C := RX5) (T := TX5) (N := 34) hx hb hts hi_X5 hown hK hV 26 (v := .ref (B 26)) (g_m26 hM) rfl (by decide) k79 (fun _ h9 => h9) dX5_take_115 ?_
                refine lv_iload_n hx hb dX5_take_118 rfl (lv_at hl 3 rfl) ?_
                refine lv_iload_n hx hb dX5_take_119 rfl (lv_at hl 2 rfl) ?_
                refine m_iast hx hb hK hV hS 0 (i := nI w) (x := oI (some t)) (q_m26 hM (by omega) (some t) (dWF_26 hM.wf _ _ (fun k h => by cases h; exact bt))) rfl (vp_in_nI (by omega) (by omega)) dX5_take_120 (fun h H locs hV hS hM => ?_)
                refine lv_iconst (v := 1) hx hb dX5_take_121 (by decide) ?_
                exact m_zret (v := 1) hx hb hr hlocks (by decide) hV hS (⟨_, hM, Or.inr (Or.inr ⟨t, w, ht, hw, Or.inr (Or.inr (Or.inl ⟨(fun z => z.elim (fun z => absurd z (by rw [c40]; decide)) (fun z => z.elim (fun z => z c50) c60)), c84, c111, rfl, rfl⟩))⟩)⟩) dX5_take_122
            · replace c84 : (crT μ t w) = true := bI_1.mp c84
              refine lv_iconst (v := 4) hx hb dX5_take_87 (by decide) ?_
              refine lv_goto (tgt := 92) hx hb dX5_take_88 (by decide) ?_
              refine m_put (C := RX5) (T := TX5) (N := 34) (v := .int 4) hx hb hts hi_X5 tyX5 tyX5_ok nmX5 hown hK hV hS 33 (p_m33 hM 4) rfl (by decide) k91 (fun _ h9 => h9) rfl (tyX5_ok 33 (by decide)) rfl rfl dX5_take_92 (fun h H locs hV hS hM => ?_)
              refine lv_aload_n hx hb dX5_take_95 rfl (lv_at hl 1 rfl) ?_
              refine m_get (C := RX5) (T := TX5) (N := 34) hx hb hts hi_X5 hown hK hV 33 (v := .int 4) (by have z9 := g_m33 hM; exact z9) rfl (by decide) k91 (fun _ h9 => h9) dX5_take_96 ?_
              refine lv_if_le (tgt := 104) hx hb dX5_take_99 (by decide) (fun c99 => (absurd c99 (by decide))) (fun c99 => ?_)
              refine lv_iconst (v := 0) hx hb dX5_take_102 (by decide) ?_
              exact m_zret (v := 0) hx hb hr hlocks (by decide) hV hS (⟨_, hM, Or.inr (Or.inr ⟨t, w, ht, hw, Or.inr (Or.inl ⟨(fun z => z.elim (fun z => absurd z (by rw [c40]; decide)) (fun z => z.elim (fun z => z c50) c60)), c84, rfl⟩)⟩)⟩) dX5_take_103
          · replace c60 : kO μ 26 w = some t := (oI_n (fun k9 e9 => by have : k9 < kN μ 24 0 := hM.wf.2.2.2.2 w (show w < 4 by omega) _ e9; omega) (by omega)).mp c60
            refine lv_iconst (v := 1) hx hb dX5_take_63 (by decide) ?_
            refine lv_goto (tgt := 68) hx hb dX5_take_64 (by decide) ?_
            refine lv_istore_n (lv' := [(3, .int 1), (0, .ref (B 100)), (1, .int (nI t)), (2, .int (nI w))]) hx hb dX5_take_68 rfl hl (by decide) rfl (fun ls hl => ?_)
            refine lv_aload_n hx hb dX5_take_69 rfl (lv_at hl 1 rfl) ?_
            refine lv_iload_n hx hb dX5_take_70 rfl (lv_at hl 0 rfl) ?_
            refine lv_if_eq (tgt := 78) hx hb dX5_take_71 (by decide) (fun c71 => (absurd c71 (by decide))) (fun c71 => ?_)
            refine lv_iconst (v := 3) hx hb dX5_take_74 (by decide) ?_
            refine lv_goto (tgt := 92) hx hb dX5_take_75 (by decide) ?_
            refine m_put (C := RX5) (T := TX5) (N := 34) (v := .int 3) hx hb hts hi_X5 tyX5 tyX5_ok nmX5 hown hK hV hS 33 (p_m33 hM 3) rfl (by decide) k91 (fun _ h9 => h9) rfl (tyX5_ok 33 (by decide)) rfl rfl dX5_take_92 (fun h H locs hV hS hM => ?_)
            refine lv_aload_n hx hb dX5_take_95 rfl (lv_at hl 1 rfl) ?_
            refine m_get (C := RX5) (T := TX5) (N := 34) hx hb hts hi_X5 hown hK hV 33 (v := .int 3) (by have z9 := g_m33 hM; exact z9) rfl (by decide) k91 (fun _ h9 => h9) dX5_take_96 ?_
            refine lv_if_le (tgt := 104) hx hb dX5_take_99 (by decide) (fun c99 => (absurd c99 (by decide))) (fun c99 => ?_)
            refine lv_iconst (v := 0) hx hb dX5_take_102 (by decide) ?_
            exact m_zret (v := 0) hx hb hr hlocks (by decide) hV hS (⟨_, hM, Or.inr (Or.inr ⟨t, w, ht, hw, Or.inl ⟨Or.inr (Or.inr c60), rfl⟩⟩)⟩) dX5_take_103
    · replace c12 : ((inR x1 4).isSome) = false := bI_0.mp c12
      refine lv_aload_n hx hb dX5_take_15 rfl (lv_at hl 0 rfl) ?_
      refine lv_aload_n hx hb dX5_take_16 rfl (lv_at hl 0 rfl) ?_
      refine lv_iload_n hx hb dX5_take_17 rfl (lv_at hl 1 rfl) ?_
      refine m_calli (va_runV (As := [.int x0]) (rest := [.ref (B 100)]) ⟨hx, hb, hml, hown, hts⟩ (c_X5_isTask (l := l) (H.size) hM x0) (cwV 1 hts gX5_take_X5_isTask rfl rfl rfl (by decide +kernel) ⟨by decide, by decide⟩) (m_preV (r := (RX5, TX5, 34)) hE hV hS hA (hM.at 100 (by decide)) rfl) rfl rfl hl.1 rfl (lv_room (by first | exact Nat.le_of_ble_eq_true rfl | simp [rf_cat, ct_ref, ct_int, ct_null, ct_long])) dX5_take_18 ⟨by decide, by decide⟩) hV hS hA (fun r h1 H locs hV hS hp _ => ?_)
      obtain ⟨e1, e2⟩ := hp
      subst e2
      rw [e1] at hV; clear e1
      refine lv_if_ne (tgt := 28) hx hb dX5_take_21 (by decide) (fun _ => ?_) (fun c21 => absurd c21 (by rw [c5]; decide))
      refine lv_iconst (v := 2) hx hb dX5_take_28 (by decide) ?_
      refine m_put (C := RX5) (T := TX5) (N := 34) (v := .int 2) hx hb hts hi_X5 tyX5 tyX5_ok nmX5 hown hK hV hS 33 (p_m33 hM 2) rfl (by decide) k91 (fun _ h9 => h9) rfl (tyX5_ok 33 (by decide)) rfl rfl dX5_take_29 (fun h H locs hV hS hM => ?_)
      refine lv_iconst (v := 0) hx hb dX5_take_32 (by decide) ?_
      exact m_zret (v := 0) hx hb hr hlocks (by decide) hV hS (⟨_, hM, Or.inr (Or.inl ⟨by intro z; rw [z] at c5; exact absurd c5 (by decide), Option.not_isSome_iff_eq_none.mp (by rw [c12]; decide), rfl⟩)⟩) dX5_take_33
set_option maxHeartbeats 4000000 in
set_option maxRecDepth 100000 in
theorem c_X5_release {l : Launch} {D : va_G} {cs : mC} {df : Nat} {P : Nat → Prop} {h0 : mH} {B : Nat → Nat} {μ : KS} {hh : mH} (sz : Nat) (hM : DRep cs P h0 B μ hh) (x0 : Int32) : Met l yX5_release wsX5_release ({ frames := 2, cells := 0, slots := 0, locals := 47 }) (mPre [.ref (B 100), .int x0] D cs df hh sz) (va_Qi ((fun (r : Int32) (h1 : mH) => ∃ μ1 : KS, DRep cs P h0 B μ1 h1 ∧ om_release μ x0 r μ1)) (mB D hh sz) (mA hh sz)) 0 0 (mA hh sz) := by
  refine Met.ofW (cc := cX5_release) (maxL := 2) (ret := (some .int)) (by decide) rfl ?_
  intro p e s m args below meth c s₁ B0 hml hv
  obtain ⟨hargs, hsz, hV, hE⟩ := hv
  subst hsz
  have hx := B0.exec
  have hb := B0.bytes
  have hr := B0.returns
  have hlocks := B0.notSynchronized
  have hts := atoms_spec (ws := wsX5_release) B0.pre
  have hown : s.vm.findClass RX5 = some m.cls := findClass_of_methodNamed B0.named
  have hK := hE.1.1
  have hA : ∀ q : Nat, s.heap.size ≤ q → mA hh s.heap.size q := mA.top
  have hS : va_S (mA hh s.heap.size) s.heap s.heap [] := va_S.rf
  have hi_X5 : ∀ w ∈ u_ws RX5 TX5 34, w ∈ wsX5_release := by decide +kernel
  have k79 : (Cond.fieldLink RX5 79 "TaskKernelModel" "holders" "[I").before args s = true := hts _ (by decide +kernel)
  have k91 : (Cond.fieldLink RX5 91 "TaskKernelModel" "thrown" "I").before args s = true := hts _ (by decide +kernel)
  have hl := lv_entry ([.ref (B 100), .int x0]) (n := 2) (by first | exact Nat.le_of_ble_eq_true rfl | simp [lg_sl, rf_cat, ct_ref, ct_int, ct_null, ct_long])
  have hent := lg_entry_eq m ([.ref (B 100), .int x0]) 2
  rw [← hargs] at hent
  rw [hent]
  generalize (lg_sl ([.ref (B 100), .int x0]) ++ List.replicate (2 - (lg_sl ([.ref (B 100), .int x0])).length) Slot.unset).toArray = ls at hl ⊢
  replace hl : lv_has ls 2 [(0, .ref (B 100)), (1, .int x0)] := hl
  have hwf := hM.wf
  obtain ⟨⟨y0, y1, y2, y3⟩, y4, y5, y6, y7⟩ := hwf
  refine lv_aload_n hx hb dX5_release_0 rfl (lv_at hl 0 rfl) ?_
  refine lv_iload_n hx hb dX5_release_1 rfl (lv_at hl 1 rfl) ?_
  refine m_calli (va_runS (As := [.int x0]) (rest := [.ref (B 100)]) ⟨hx, hb, hml, hown, hts⟩ (c_X5_isLock (l := l) (D := D) (cs := cs) (df := df) (hh := hh) (s.heap.size) x0) (va_cwS 1 hts gX5_release_X5_isLock rfl rfl rfl (by decide +kernel) ⟨by decide, by decide⟩) (m_preS hE hV hS hA) rfl rfl hl.1 rfl (lv_room (by first | exact Nat.le_of_ble_eq_true rfl | simp [rf_cat, ct_ref, ct_int, ct_null, ct_long])) dX5_release_2 ⟨by decide, by decide⟩) hV hS hA (fun r h1 H locs hV hS hp _ => ?_)
  obtain ⟨e1, e2⟩ := hp
  subst e2
  rw [e1] at hV; clear e1
  refine lv_if_ne (tgt := 12) hx hb dX5_release_5 (by decide) (fun c5 => ?_) (fun c5 => ?_)
  · replace c5 : ((inR x0 4).isSome) = true := bI_1.mp c5
    obtain ⟨w, hw⟩ := Option.isSome_iff_exists.mp c5
    obtain ⟨rfl, bw⟩ := inR_some hw
    refine lv_aload_n hx hb dX5_release_12 rfl (lv_at hl 0 rfl) ?_
    refine m_get (C := RX5) (T := TX5) (N := 34) hx hb hts hi_X5 hown hK hV 26 (v := .ref (B 26)) (g_m26 hM) rfl (by decide) k79 (fun _ h9 => h9) dX5_release_13 ?_
    refine lv_iload_n hx hb dX5_release_16 rfl (lv_at hl 1 rfl) ?_
    refine m_iald hx hb hK hV 0 (i := nI w) (x := oI (kO μ 26 w)) (a_m26 hM) rfl (vp_in_nI (by omega) (by omega)) (by rw [nI_clamp (by omega)] <;> first | rfl | (show oI (va_up _ _ _ _) = _; rw [vu_s]) | (show va_up _ _ _ _ = _; rw [vu_s])) dX5_release_17 ?_
    refine lv_iconst (v := (-1)) hx hb dX5_release_18 (by decide) ?_
    refine lv_icmp_ne (tgt := 26) hx hb dX5_release_19 (by decide) (fun c19 => ?_) (fun c19 => ?_)
    · obtain ⟨k19, c19⟩ : ∃ z, kO μ 26 w = some z := Option.ne_none_iff_exists'.mp (fun q9 => c19 ((oI_m1 (fun k9 e9 => by have : k9 < kN μ 24 0 := hM.wf.2.2.2.2 w (show w < 4 by omega) _ e9; omega)).mpr q9))
      have bk19 : k19 < kN μ 24 0 := hM.wf.2.2.2.2 w (show w < 4 by omega) _ c19
      refine lv_iconst (v := 0) hx hb dX5_release_26 (by decide) ?_
      refine m_put (C := RX5) (T := TX5) (N := 34) (v := .int 0) hx hb hts hi_X5 tyX5 tyX5_ok nmX5 hown hK hV hS 33 (p_m33 hM 0) rfl (by decide) k91 (fun _ h9 => h9) rfl (tyX5_ok 33 (by decide)) rfl rfl dX5_release_27 (fun h H locs hV hS hM => ?_)
      refine lv_aload_n hx hb dX5_release_30 rfl (lv_at hl 0 rfl) ?_
      refine m_get (C := RX5) (T := TX5) (N := 34) hx hb hts hi_X5 hown hK hV 33 (v := .int 0) (by have z9 := g_m33 hM; exact z9) rfl (by decide) k91 (fun _ h9 => h9) dX5_release_31 ?_
      refine lv_if_le (tgt := 39) hx hb dX5_release_34 (by decide) (fun c34 => ?_) (fun c34 => (absurd (by decide) c34))
      refine lv_aload_n hx hb dX5_release_39 rfl (lv_at hl 0 rfl) ?_
      refine lv_iload_n hx hb dX5_release_40 rfl (lv_at hl 1 rfl) ?_
      refine m_callv (va_runV (As := [.int (nI w)]) (rest := []) ⟨hx, hb, hml, hown, hts⟩ (c_X5_passesOn (l := l) (H.size) hM w bw) (cwV 1 hts gX5_release_X5_passesOn rfl rfl rfl (by decide +kernel) ⟨by decide, by decide⟩) (m_preV (r := (RX5, TX5, 34)) hE hV hS hA (hM.at 100 (by decide)) rfl) rfl rfl hl.1 rfl (lv_room (by first | exact Nat.le_of_ble_eq_true rfl | simp [rf_cat, ct_ref, ct_int, ct_null, ct_long])) dX5_release_41 ⟨by decide, by decide⟩) hV hS hA (fun h H locs hV hS hp _ => ?_)
      replace hM := hp; clear hp
      refine lv_aload_n hx hb dX5_release_44 rfl (lv_at hl 0 rfl) ?_
      refine m_get (C := RX5) (T := TX5) (N := 34) hx hb hts hi_X5 hown hK hV 26 (v := .ref (B 26)) (g_m26 hM) rfl (by decide) k79 (fun _ h9 => h9) dX5_release_45 ?_
      refine lv_iload_n hx hb dX5_release_48 rfl (lv_at hl 1 rfl) ?_
      refine m_iald hx hb hK hV 0 (i := nI w) (x := oI (kO (pnM (sI μ 33 (va_up (kI μ 33) 0 0)) w) 26 w)) (a_m26 hM) rfl (vp_in_nI (by omega) (by omega)) (by rw [nI_clamp (by omega)] <;> first | rfl | (show oI (va_up _ _ _ _) = _; rw [vu_s]) | (show va_up _ _ _ _ = _; rw [vu_s])) dX5_release_49 ?_
      exact m_iret (v := oI (kO (pnM (sI μ 33 (va_up (kI μ 33) 0 0)) w) 26 w)) hx hb hr hlocks hV hS (⟨_, hM, Or.inr (Or.inr ⟨w, hw, (fun z => nomatch (c19.symm.trans z)), rfl, rfl⟩)⟩) dX5_release_50
    · replace c19 : kO μ 26 w = none := (oI_m1 (fun k9 e9 => by have : k9 < kN μ 24 0 := hM.wf.2.2.2.2 w (show w < 4 by omega) _ e9; omega)).mp c19
      refine lv_iconst (v := 2) hx hb dX5_release_22 (by decide) ?_
      refine lv_goto (tgt := 27) hx hb dX5_release_23 (by decide) ?_
      refine m_put (C := RX5) (T := TX5) (N := 34) (v := .int 2) hx hb hts hi_X5 tyX5 tyX5_ok nmX5 hown hK hV hS 33 (p_m33 hM 2) rfl (by decide) k91 (fun _ h9 => h9) rfl (tyX5_ok 33 (by decide)) rfl rfl dX5_release_27 (fun h H locs hV hS hM => ?_)
      refine lv_aload_n hx hb dX5_release_30 rfl (lv_at hl 0 rfl) ?_
      refine m_get (C := RX5) (T := TX5) (N := 34) hx hb hts hi_X5 hown hK hV 33 (v := .int 2) (by have z9 := g_m33 hM; exact z9) rfl (by decide) k91 (fun _ h9 => h9) dX5_release_31 ?_
      refine lv_if_le (tgt := 39) hx hb dX5_release_34 (by decide) (fun c34 => (absurd c34 (by decide))) (fun c34 => ?_)
      refine lv_iconst (v := (-1)) hx hb dX5_release_37 (by decide) ?_
      exact m_iret (v := (-1)) hx hb hr hlocks hV hS (⟨_, hM, Or.inr (Or.inl ⟨w, hw, c19, rfl⟩)⟩) dX5_release_38
  · replace c5 : ((inR x0 4).isSome) = false := bI_0.mp c5
    refine lv_iconst (v := 1) hx hb dX5_release_8 (by decide) ?_
    refine lv_goto (tgt := 27) hx hb dX5_release_9 (by decide) ?_
    refine m_put (C := RX5) (T := TX5) (N := 34) (v := .int 1) hx hb hts hi_X5 tyX5 tyX5_ok nmX5 hown hK hV hS 33 (p_m33 hM 1) rfl (by decide) k91 (fun _ h9 => h9) rfl (tyX5_ok 33 (by decide)) rfl rfl dX5_release_27 (fun h H locs hV hS hM => ?_)
    refine lv_aload_n hx hb dX5_release_30 rfl (lv_at hl 0 rfl) ?_
    refine m_get (C := RX5) (T := TX5) (N := 34) hx hb hts hi_X5 hown hK hV 33 (v := .int 1) (by have z9 := g_m33 hM; exact z9) rfl (by decide) k91 (fun _ h9 => h9) dX5_release_31 ?_
    refine lv_if_le (tgt := 39) hx hb dX5_release_34 (by decide) (fun c34 => (absurd c34 (by decide))) (fun c34 => ?_)
    refine lv_iconst (v := (-1)) hx hb dX5_release_37 (by decide) ?_
    exact m_iret (v := (-1)) hx hb hr hlocks hV hS (⟨_, hM, Or.inl ⟨Option.not_isSome_iff_eq_none.mp (by rw [c5]; decide), rfl⟩⟩) dX5_release_38
set_option maxHeartbeats 4000000 in
set_option maxRecDepth 100000 in
theorem c_X5_holderOf {l : Launch} {D : va_G} {cs : mC} {df : Nat} {P : Nat → Prop} {h0 : mH} {B : Nat → Nat} {μ : KS} {hh : mH} (sz : Nat) (hM : DRep cs P h0 B μ hh) (x0 : Int32) : Met l yX5_holderOf wsX5_holderOf ({ frames := 2, cells := 0, slots := 0, locals := 45 }) (mPre [.ref (B 100), .int x0] D cs df hh sz) (va_Qi ((fun (r : Int32) (h1 : mH) => ∃ μ1 : KS, DRep cs P h0 B μ1 h1 ∧ om_holderOf μ x0 r μ1)) (mB D hh sz) (mA hh sz)) 0 0 (mA hh sz) := by
  refine Met.ofW (cc := cX5_holderOf) (maxL := 2) (ret := (some .int)) (by decide) rfl ?_
  intro p e s m args below meth c s₁ B0 hml hv
  obtain ⟨hargs, hsz, hV, hE⟩ := hv
  subst hsz
  have hx := B0.exec
  have hb := B0.bytes
  have hr := B0.returns
  have hlocks := B0.notSynchronized
  have hts := atoms_spec (ws := wsX5_holderOf) B0.pre
  have hown : s.vm.findClass RX5 = some m.cls := findClass_of_methodNamed B0.named
  have hK := hE.1.1
  have hA : ∀ q : Nat, s.heap.size ≤ q → mA hh s.heap.size q := mA.top
  have hS : va_S (mA hh s.heap.size) s.heap s.heap [] := va_S.rf
  have k91 : (Cond.fieldLink RX5 91 "TaskKernelModel" "thrown" "I").before args s = true := hts _ (by decide +kernel)
  have hi_X5 : ∀ w ∈ u_ws RX5 TX5 34, w ∈ wsX5_holderOf := by decide +kernel
  have k79 : (Cond.fieldLink RX5 79 "TaskKernelModel" "holders" "[I").before args s = true := hts _ (by decide +kernel)
  have hl := lv_entry ([.ref (B 100), .int x0]) (n := 2) (by first | exact Nat.le_of_ble_eq_true rfl | simp [lg_sl, rf_cat, ct_ref, ct_int, ct_null, ct_long])
  have hent := lg_entry_eq m ([.ref (B 100), .int x0]) 2
  rw [← hargs] at hent
  rw [hent]
  generalize (lg_sl ([.ref (B 100), .int x0]) ++ List.replicate (2 - (lg_sl ([.ref (B 100), .int x0])).length) Slot.unset).toArray = ls at hl ⊢
  replace hl : lv_has ls 2 [(0, .ref (B 100)), (1, .int x0)] := hl
  have hwf := hM.wf
  obtain ⟨⟨y0, y1, y2, y3⟩, y4, y5, y6, y7⟩ := hwf
  refine lv_aload_n hx hb dX5_holderOf_0 rfl (lv_at hl 0 rfl) ?_
  refine lv_iload_n hx hb dX5_holderOf_1 rfl (lv_at hl 1 rfl) ?_
  refine m_calli (va_runS (As := [.int x0]) (rest := [.ref (B 100)]) ⟨hx, hb, hml, hown, hts⟩ (c_X5_isLock (l := l) (D := D) (cs := cs) (df := df) (hh := hh) (s.heap.size) x0) (va_cwS 1 hts gX5_holderOf_X5_isLock rfl rfl rfl (by decide +kernel) ⟨by decide, by decide⟩) (m_preS hE hV hS hA) rfl rfl hl.1 rfl (lv_room (by first | exact Nat.le_of_ble_eq_true rfl | simp [rf_cat, ct_ref, ct_int, ct_null, ct_long])) dX5_holderOf_2 ⟨by decide, by decide⟩) hV hS hA (fun r h1 H locs hV hS hp _ => ?_)
  obtain ⟨e1, e2⟩ := hp
  subst e2
  rw [e1] at hV; clear e1
  refine lv_if_eq (tgt := 12) hx hb dX5_holderOf_5 (by decide) (fun c5 => ?_) (fun c5 => ?_)
  · replace c5 : ((inR x0 4).isSome) = false := bI_0.mp c5
    refine lv_iconst (v := 1) hx hb dX5_holderOf_12 (by decide) ?_
    refine m_put (C := RX5) (T := TX5) (N := 34) (v := .int 1) hx hb hts hi_X5 tyX5 tyX5_ok nmX5 hown hK hV hS 33 (p_m33 hM 1) rfl (by decide) k91 (fun _ h9 => h9) rfl (tyX5_ok 33 (by decide)) rfl rfl dX5_holderOf_13 (fun h H locs hV hS hM => ?_)
    refine lv_aload_n hx hb dX5_holderOf_16 rfl (lv_at hl 0 rfl) ?_
    refine m_get (C := RX5) (T := TX5) (N := 34) hx hb hts hi_X5 hown hK hV 33 (v := .int 1) (by have z9 := g_m33 hM; exact z9) rfl (by decide) k91 (fun _ h9 => h9) dX5_holderOf_17 ?_
    refine lv_if_ne (tgt := 32) hx hb dX5_holderOf_20 (by decide) (fun c20 => ?_) (fun c20 => (absurd c20 (by decide)))
    refine lv_iconst (v := (-1)) hx hb dX5_holderOf_32 (by decide) ?_
    exact m_iret (v := (-1)) hx hb hr hlocks hV hS (⟨_, hM, Or.inl ⟨Option.not_isSome_iff_eq_none.mp (by rw [c5]; decide), rfl⟩⟩) dX5_holderOf_33
  · replace c5 : ((inR x0 4).isSome) = true := bI_1.mp c5
    obtain ⟨w, hw⟩ := Option.isSome_iff_exists.mp c5
    obtain ⟨rfl, bw⟩ := inR_some hw
    refine lv_iconst (v := 0) hx hb dX5_holderOf_8 (by decide) ?_
    refine lv_goto (tgt := 13) hx hb dX5_holderOf_9 (by decide) ?_
    refine m_put (C := RX5) (T := TX5) (N := 34) (v := .int 0) hx hb hts hi_X5 tyX5 tyX5_ok nmX5 hown hK hV hS 33 (p_m33 hM 0) rfl (by decide) k91 (fun _ h9 => h9) rfl (tyX5_ok 33 (by decide)) rfl rfl dX5_holderOf_13 (fun h H locs hV hS hM => ?_)
    refine lv_aload_n hx hb dX5_holderOf_16 rfl (lv_at hl 0 rfl) ?_
    refine m_get (C := RX5) (T := TX5) (N := 34) hx hb hts hi_X5 hown hK hV 33 (v := .int 0) (by have z9 := g_m33 hM; exact z9) rfl (by decide) k91 (fun _ h9 => h9) dX5_holderOf_17 ?_
    refine lv_if_ne (tgt := 32) hx hb dX5_holderOf_20 (by decide) (fun c20 => (absurd (by decide) c20)) (fun c20 => ?_)
    refine lv_aload_n hx hb dX5_holderOf_23 rfl (lv_at hl 0 rfl) ?_
    refine m_get (C := RX5) (T := TX5) (N := 34) hx hb hts hi_X5 hown hK hV 26 (v := .ref (B 26)) (g_m26 hM) rfl (by decide) k79 (fun _ h9 => h9) dX5_holderOf_24 ?_
    refine lv_iload_n hx hb dX5_holderOf_27 rfl (lv_at hl 1 rfl) ?_
    refine m_iald hx hb hK hV 0 (i := nI w) (x := oI (kO μ 26 w)) (a_m26 hM) rfl (vp_in_nI (by omega) (by omega)) (by rw [nI_clamp (by omega)] <;> first | rfl | (show oI (va_up _ _ _ _) = _; rw [vu_s]) | (show va_up _ _ _ _ = _; rw [vu_s])) dX5_holderOf_28 ?_
    refine lv_goto (tgt := 33) hx hb dX5_holderOf_29 (by decide) ?_
    exact m_iret (v := oI (kO μ 26 w)) hx hb hr hlocks hV hS (⟨_, hM, Or.inr ⟨w, hw, rfl, rfl⟩⟩) dX5_holderOf_33
set_option maxHeartbeats 4000000 in
set_option maxRecDepth 100000 in
theorem c_X5_waiterAt {l : Launch} {D : va_G} {cs : mC} {df : Nat} {P : Nat → Prop} {h0 : mH} {B : Nat → Nat} {μ : KS} {hh : mH} (sz : Nat) (hM : DRep cs P h0 B μ hh) (x0 : Int32) (x1 : Int32) : Met l yX5_waiterAt wsX5_waiterAt ({ frames := 2, cells := 0, slots := 0, locals := 45 }) (mPre [.ref (B 100), .int x0, .int x1] D cs df hh sz) (va_Qi ((fun (r : Int32) (h1 : mH) => ∃ μ1 : KS, DRep cs P h0 B μ1 h1 ∧ om_waiterAt μ x0 x1 r μ1)) (mB D hh sz) (mA hh sz)) 0 0 (mA hh sz) := by
  refine Met.ofW (cc := cX5_waiterAt) (maxL := 3) (ret := (some .int)) (by decide) rfl ?_
  intro p e s m args below meth c s₁ B0 hml hv
  obtain ⟨hargs, hsz, hV, hE⟩ := hv
  subst hsz
  have hx := B0.exec
  have hb := B0.bytes
  have hr := B0.returns
  have hlocks := B0.notSynchronized
  have hts := atoms_spec (ws := wsX5_waiterAt) B0.pre
  have hown : s.vm.findClass RX5 = some m.cls := findClass_of_methodNamed B0.named
  have hK := hE.1.1
  have hA : ∀ q : Nat, s.heap.size ≤ q → mA hh s.heap.size q := mA.top
  have hS : va_S (mA hh s.heap.size) s.heap s.heap [] := va_S.rf
  have k91 : (Cond.fieldLink RX5 91 "TaskKernelModel" "thrown" "I").before args s = true := hts _ (by decide +kernel)
  have hi_X5 : ∀ w ∈ u_ws RX5 TX5 34, w ∈ wsX5_waiterAt := by decide +kernel
  have hl := lv_entry ([.ref (B 100), .int x0, .int x1]) (n := 3) (by first | exact Nat.le_of_ble_eq_true rfl | simp [lg_sl, rf_cat, ct_ref, ct_int, ct_null, ct_long])
  have hent := lg_entry_eq m ([.ref (B 100), .int x0, .int x1]) 3
  rw [← hargs] at hent
  rw [hent]
  generalize (lg_sl ([.ref (B 100), .int x0, .int x1]) ++ List.replicate (3 - (lg_sl ([.ref (B 100), .int x0, .int x1])).length) Slot.unset).toArray = ls at hl ⊢
  replace hl : lv_has ls 3 [(0, .ref (B 100)), (1, .int x0), (2, .int x1)] := hl
  have hwf := hM.wf
  obtain ⟨⟨y0, y1, y2, y3⟩, y4, y5, y6, y7⟩ := hwf
  refine lv_aload_n hx hb dX5_waiterAt_0 rfl (lv_at hl 0 rfl) ?_
  refine lv_iload_n hx hb dX5_waiterAt_1 rfl (lv_at hl 1 rfl) ?_
  refine m_calli (va_runS (As := [.int x0]) (rest := [.ref (B 100)]) ⟨hx, hb, hml, hown, hts⟩ (c_X5_isLock (l := l) (D := D) (cs := cs) (df := df) (hh := hh) (s.heap.size) x0) (va_cwS 1 hts gX5_waiterAt_X5_isLock rfl rfl rfl (by decide +kernel) ⟨by decide, by decide⟩) (m_preS hE hV hS hA) rfl rfl hl.1 rfl (lv_room (by first | exact Nat.le_of_ble_eq_true rfl | simp [rf_cat, ct_ref, ct_int, ct_null, ct_long])) dX5_waiterAt_2 ⟨by decide, by decide⟩) hV hS hA (fun r h1 H locs hV hS hp _ => ?_)
  obtain ⟨e1, e2⟩ := hp
  subst e2
  rw [e1] at hV; clear e1
  refine lv_if_ne (tgt := 12) hx hb dX5_waiterAt_5 (by decide) (fun c5 => ?_) (fun c5 => ?_)
  · replace c5 : ((inR x0 4).isSome) = true := bI_1.mp c5
    obtain ⟨w, hw⟩ := Option.isSome_iff_exists.mp c5
    obtain ⟨rfl, bw⟩ := inR_some hw
    refine lv_iload_n hx hb dX5_waiterAt_12 rfl (lv_at hl 2 rfl) ?_
    refine lv_if_lt (tgt := 26) hx hb dX5_waiterAt_13 (by decide) (fun c13 => ?_) (fun c13 => ?_)
    · refine lv_iconst (v := 2) hx hb dX5_waiterAt_26 (by decide) ?_
      refine lv_goto (tgt := 31) hx hb dX5_waiterAt_27 (by decide) ?_
      refine m_put (C := RX5) (T := TX5) (N := 34) (v := .int 2) hx hb hts hi_X5 tyX5 tyX5_ok nmX5 hown hK hV hS 33 (p_m33 hM 2) rfl (by decide) k91 (fun _ h9 => h9) rfl (tyX5_ok 33 (by decide)) rfl rfl dX5_waiterAt_31 (fun h H locs hV hS hM => ?_)
      refine lv_aload_n hx hb dX5_waiterAt_34 rfl (lv_at hl 0 rfl) ?_
      refine m_get (C := RX5) (T := TX5) (N := 34) hx hb hts hi_X5 hown hK hV 33 (v := .int 2) (by have z9 := g_m33 hM; exact z9) rfl (by decide) k91 (fun _ h9 => h9) dX5_waiterAt_35 ?_
      refine lv_if_ne (tgt := 50) hx hb dX5_waiterAt_38 (by decide) (fun c38 => ?_) (fun c38 => (absurd c38 (by decide)))
      refine lv_iconst (v := (-1)) hx hb dX5_waiterAt_50 (by decide) ?_
      exact m_iret (v := (-1)) hx hb hr hlocks hV hS (⟨_, hM, Or.inr ⟨w, hw, Or.inl ⟨Or.inl c13, rfl⟩⟩⟩) dX5_waiterAt_51
    · refine lv_aload_n hx hb dX5_waiterAt_16 rfl (lv_at hl 0 rfl) ?_
      refine lv_iload_n hx hb dX5_waiterAt_17 rfl (lv_at hl 1 rfl) ?_
      refine lv_iload_n hx hb dX5_waiterAt_18 rfl (lv_at hl 2 rfl) ?_
      refine m_calli (va_runV (As := [.int (nI w), .int x1]) (rest := [.ref (B 100)]) ⟨hx, hb, hml, hown, hts⟩ (c_X5_waiter (l := l) (H.size) hM w x1 bw) (cwV 2 hts gX5_waiterAt_X5_waiter rfl rfl rfl (by decide +kernel) ⟨by decide, by decide⟩) (m_preV (r := (RX5, TX5, 34)) hE hV hS hA (hM.at 100 (by decide)) rfl) rfl rfl hl.1 rfl (lv_room (by first | exact Nat.le_of_ble_eq_true rfl | simp [rf_cat, ct_ref, ct_int, ct_null, ct_long])) dX5_waiterAt_19 ⟨by decide, by decide⟩) hV hS hA (fun r h1 H locs hV hS hp _ => ?_)
      obtain ⟨e1, e2⟩ := hp
      subst e2
      rw [e1] at hV; clear e1
      refine lv_iconst (v := (-1)) hx hb dX5_waiterAt_22 (by decide) ?_
      refine lv_icmp_ne (tgt := 30) hx hb dX5_waiterAt_23 (by decide) (fun c23 => ?_) (fun c23 => ?_)
      · obtain ⟨k23, c23⟩ : ∃ z, (wtT μ w x1) = some z := Option.ne_none_iff_exists'.mp (fun q9 => c23 ((oI_m1 (fun k9 e9 => by have := wtT_lt e9; omega)).mpr q9))
        have bk23 := wtT_lt c23
        refine lv_iconst (v := 0) hx hb dX5_waiterAt_30 (by decide) ?_
        refine m_put (C := RX5) (T := TX5) (N := 34) (v := .int 0) hx hb hts hi_X5 tyX5 tyX5_ok nmX5 hown hK hV hS 33 (p_m33 hM 0) rfl (by decide) k91 (fun _ h9 => h9) rfl (tyX5_ok 33 (by decide)) rfl rfl dX5_waiterAt_31 (fun h H locs hV hS hM => ?_)
        refine lv_aload_n hx hb dX5_waiterAt_34 rfl (lv_at hl 0 rfl) ?_
        refine m_get (C := RX5) (T := TX5) (N := 34) hx hb hts hi_X5 hown hK hV 33 (v := .int 0) (by have z9 := g_m33 hM; exact z9) rfl (by decide) k91 (fun _ h9 => h9) dX5_waiterAt_35 ?_
        refine lv_if_ne (tgt := 50) hx hb dX5_waiterAt_38 (by decide) (fun c38 => (absurd (by decide) c38)) (fun c38 => ?_)
        refine lv_aload_n hx hb dX5_waiterAt_41 rfl (lv_at hl 0 rfl) ?_
        refine lv_iload_n hx hb dX5_waiterAt_42 rfl (lv_at hl 1 rfl) ?_
        refine lv_iload_n hx hb dX5_waiterAt_43 rfl (lv_at hl 2 rfl) ?_
        refine m_calli (va_runV (As := [.int (nI w), .int x1]) (rest := []) ⟨hx, hb, hml, hown, hts⟩ (c_X5_waiter (l := l) (H.size) hM w x1 bw) (cwV 2 hts gX5_waiterAt_X5_waiter rfl rfl rfl (by decide +kernel) ⟨by decide, by decide⟩) (m_preV (r := (RX5, TX5, 34)) hE hV hS hA (hM.at 100 (by decide)) rfl) rfl rfl hl.1 rfl (lv_room (by first | exact Nat.le_of_ble_eq_true rfl | simp [rf_cat, ct_ref, ct_int, ct_null, ct_long])) dX5_waiterAt_44 ⟨by decide, by decide⟩) hV hS hA (fun r h1 H locs hV hS hp _ => ?_)
        obtain ⟨e1, e2⟩ := hp
        subst e2
        rw [e1] at hV; clear e1
        refine m_topi (y := nI k23) ((congrArg oI ((wtT_th μ 0 w x1).trans c23) : oI _ = oI (some k23))) ?_
        refine lv_goto (tgt := 51) hx hb dX5_waiterAt_47 (by decide) ?_
        exact m_iret (v := nI k23) hx hb hr hlocks hV hS (⟨_, hM, Or.inr ⟨w, hw, Or.inr ⟨c13, k23, c23, rfl, rfl⟩⟩⟩) dX5_waiterAt_51
      · replace c23 : (wtT μ w x1) = none := (oI_m1 (fun k9 e9 => by have := wtT_lt e9; omega)).mp c23
        refine lv_iconst (v := 2) hx hb dX5_waiterAt_26 (by decide) ?_
        refine lv_goto (tgt := 31) hx hb dX5_waiterAt_27 (by decide) ?_
        refine m_put (C := RX5) (T := TX5) (N := 34) (v := .int 2) hx hb hts hi_X5 tyX5 tyX5_ok nmX5 hown hK hV hS 33 (p_m33 hM 2) rfl (by decide) k91 (fun _ h9 => h9) rfl (tyX5_ok 33 (by decide)) rfl rfl dX5_waiterAt_31 (fun h H locs hV hS hM => ?_)
        refine lv_aload_n hx hb dX5_waiterAt_34 rfl (lv_at hl 0 rfl) ?_
        refine m_get (C := RX5) (T := TX5) (N := 34) hx hb hts hi_X5 hown hK hV 33 (v := .int 2) (by have z9 := g_m33 hM; exact z9) rfl (by decide) k91 (fun _ h9 => h9) dX5_waiterAt_35 ?_
        refine lv_if_ne (tgt := 50) hx hb dX5_waiterAt_38 (by decide) (fun c38 => ?_) (fun c38 => (absurd c38 (by decide)))
        refine lv_iconst (v := (-1)) hx hb dX5_waiterAt_50 (by decide) ?_
        exact m_iret (v := (-1)) hx hb hr hlocks hV hS (⟨_, hM, Or.inr ⟨w, hw, Or.inl ⟨Or.inr c23, rfl⟩⟩⟩) dX5_waiterAt_51
  · replace c5 : ((inR x0 4).isSome) = false := bI_0.mp c5
    refine lv_iconst (v := 1) hx hb dX5_waiterAt_8 (by decide) ?_
    refine lv_goto (tgt := 31) hx hb dX5_waiterAt_9 (by decide) ?_
    refine m_put (C := RX5) (T := TX5) (N := 34) (v := .int 1) hx hb hts hi_X5 tyX5 tyX5_ok nmX5 hown hK hV hS 33 (p_m33 hM 1) rfl (by decide) k91 (fun _ h9 => h9) rfl (tyX5_ok 33 (by decide)) rfl rfl dX5_waiterAt_31 (fun h H locs hV hS hM => ?_)
    refine lv_aload_n hx hb dX5_waiterAt_34 rfl (lv_at hl 0 rfl) ?_
    refine m_get (C := RX5) (T := TX5) (N := 34) hx hb hts hi_X5 hown hK hV 33 (v := .int 1) (by have z9 := g_m33 hM; exact z9) rfl (by decide) k91 (fun _ h9 => h9) dX5_waiterAt_35 ?_
    refine lv_if_ne (tgt := 50) hx hb dX5_waiterAt_38 (by decide) (fun c38 => ?_) (fun c38 => (absurd c38 (by decide)))
    refine lv_iconst (v := (-1)) hx hb dX5_waiterAt_50 (by decide) ?_
    exact m_iret (v := (-1)) hx hb hr hlocks hV hS (⟨_, hM, Or.inl ⟨Option.not_isSome_iff_eq_none.mp (by rw [c5]; decide), rfl⟩⟩) dX5_waiterAt_51
