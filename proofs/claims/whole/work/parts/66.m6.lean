set_option maxHeartbeats 4000000 in
set_option maxRecDepth 100000 in
theorem c_X5_ticks {l : Launch} {D : va_G} {cs : mC} {df : Nat} {P : Nat → Prop} {h0 : mH} {B : Nat → Nat} {μ : KS} {hh : mH} (sz : Nat) (hM : DRep cs P h0 B μ hh) (hdI : dI μ) : Met l yX5_ticks wsX5_ticks ({ frames := 10, cells := 0, slots := 0, locals := 242 }) (mPre [.ref (B 100)] D cs df hh sz) (va_Qi ((fun (r : Int32) (h1 : mH) => DRep cs P h0 B ((tkM μ).2) h1 ∧ r = ((tkM μ).1))) (mB D hh sz) (mA hh sz)) 0 0 (mA hh sz) := by
  refine Met.ofW (cc := cX5_ticks) (maxL := 4) (ret := (some .int)) (by decide) rfl ?_
  intro p e s m args below meth c s₁ B0 hml hv
  obtain ⟨hargs, hsz, hV, hE⟩ := hv
  subst hsz
  have hx := B0.exec
  have hb := B0.bytes
  have hr := B0.returns
  have hlocks := B0.notSynchronized
  have hts := atoms_spec (ws := wsX5_ticks) B0.pre
  have hown : s.vm.findClass RX5 = some m.cls := findClass_of_methodNamed B0.named
  have hK := hE.1.1
  have hA : ∀ q : Nat, s.heap.size ≤ q → mA hh s.heap.size q := mA.top
  have hS : va_S (mA hh s.heap.size) s.heap s.heap [] := va_S.rf
  have hi_X5 : ∀ w ∈ u_ws RX5 TX5 34, w ∈ wsX5_ticks := by decide +kernel
  have k117 : (Cond.fieldLink RX5 117 "TaskKernelModel" "tasks" "I").before args s = true := hts _ (by decide +kernel)
  have k100 : (Cond.fieldLink RX5 100 "TaskKernelModel" "cores" "I").before args s = true := hts _ (by decide +kernel)
  have k129 : (Cond.fieldLink RX5 129 "TaskKernelModel" "now" "I").before args s = true := hts _ (by decide +kernel)
  have k13 : (Cond.fieldLink RX5 13 "TaskKernelModel" "heats" "[I").before args s = true := hts _ (by decide +kernel)
  have k82 : (Cond.fieldLink RX5 82 "TaskKernelModel" "chosen" "[I").before args s = true := hts _ (by decide +kernel)
  have k211 : (Cond.fieldLink RX5 211 "TaskKernelModel" "used" "I").before args s = true := hts _ (by decide +kernel)
  have k214 : (Cond.fieldLink RX5 214 "TaskKernelModel" "offered" "I").before args s = true := hts _ (by decide +kernel)
  have k48 : (Cond.fieldLink RX5 48 "TaskKernelModel" "periods" "[I").before args s = true := hts _ (by decide +kernel)
  have k69 : (Cond.fieldLink RX5 69 "TaskKernelModel" "isEnded" "[Z").before args s = true := hts _ (by decide +kernel)
  have k54 : (Cond.fieldLink RX5 54 "TaskKernelModel" "deadlines" "[I").before args s = true := hts _ (by decide +kernel)
  have k57 : (Cond.fieldLink RX5 57 "TaskKernelModel" "addedIn" "[I").before args s = true := hts _ (by decide +kernel)
  have k60 : (Cond.fieldLink RX5 60 "TaskKernelModel" "missed" "[I").before args s = true := hts _ (by decide +kernel)
  have k45 : (Cond.fieldLink RX5 45 "TaskKernelModel" "lefts" "[I").before args s = true := hts _ (by decide +kernel)
  have k51 : (Cond.fieldLink RX5 51 "TaskKernelModel" "budgets" "[I").before args s = true := hts _ (by decide +kernel)
  have hl := lv_entry ([.ref (B 100)]) (n := 4) (by first | exact Nat.le_of_ble_eq_true rfl | simp [lg_sl, rf_cat, ct_ref, ct_int, ct_null, ct_long])
  have hent := lg_entry_eq m ([.ref (B 100)]) 4
  rw [← hargs] at hent
  rw [hent]
  generalize (lg_sl ([.ref (B 100)]) ++ List.replicate (4 - (lg_sl ([.ref (B 100)])).length) Slot.unset).toArray = ls at hl ⊢
  replace hl : lv_has ls 4 [(0, .ref (B 100))] := hl
  have hw0 := hM.wf
  have hwf := hM.wf
  obtain ⟨⟨y0, y1, y2, y3⟩, y4, y5, y6, y7⟩ := hwf
  refine lv_iconst (v := 0) hx hb dX5_ticks_0 (by decide) ?_
  refine lv_istore_n (lv' := [(1, .int 0), (0, .ref (B 100))]) hx hb dX5_ticks_1 rfl hl (by decide) rfl (fun ls hl => ?_)
  have lp2 : ∀ (fu : Nat) (i : Nat), (i ≤ kN μ 24 0) → kN μ 24 0 - i < fu → ∀ (h : mH) (H : Heap) (locs : List Loc), DRep cs P h0 B (rlM i μ) h → mV D h (mA hh s.heap.size) H → va_S (mA hh s.heap.size) s.heap H locs → ∀ (ls : Array Slot), lv_has ls 4 [(0, .ref (B 100)), (1, .int (nI i))] → W p l e ({ frames := 10, cells := 0, slots := 0, locals := 242 } : Room) s m args below meth c H locs 0 0 (MQ below (va_Qi ((fun (r : Int32) (h1 : mH) => DRep cs P h0 B ((tkM μ).2) h1 ∧ r = ((tkM μ).1))) (mB D hh s.heap.size) (mA hh s.heap.size)) args s 0 0 (mA hh s.heap.size)) (F0 m 2 ls []) := by
    intro fu
    induction fu with
    | zero =>
      intro i hi hfu
      exact absurd hfu (Nat.not_lt_zero _)
    | succ fu ih2 =>
      intro i hi hfu h H locs hM hV hS ls hl
      have en : kN (rlM i μ) 24 0 = kN μ 24 0 := by rw [(rlM_fr i μ).1]
      refine lv_iload_n hx hb dX5_ticks_2 rfl (lv_at hl 1 rfl) ?_
      refine lv_aload_n hx hb dX5_ticks_3 rfl (lv_at hl 0 rfl) ?_
      refine m_get (C := RX5) (T := TX5) (N := 34) hx hb hts hi_X5 hown hK hV 24 (v := .int (nI (kN (rlM i μ) 24 0))) (by have z9 := g_m24 hM; exact z9) rfl (by decide) k117 (fun _ h9 => h9) dX5_ticks_4 ?_
      refine lv_icmp_ge (tgt := 110) hx hb dX5_ticks_7 (by decide) (fun c7 => ?_) (fun c7 => ?_)
      · replace c7 : kN (rlM i μ) 24 0 ≤ i := (nI_leI (a := kN (rlM i μ) 24 0) (b := i) (by omega) (by omega)).mp c7
        refine lv_aload_n hx hb dX5_ticks_110 rfl (lv_at hl 0 rfl) ?_
        refine m_callv (va_runV (As := []) (rest := []) ⟨hx, hb, hml, hown, hts⟩ (c_X5_chooses (l := l) (H.size) hM ) (cwV 0 hts gX5_ticks_X5_chooses rfl rfl rfl (by decide +kernel) ⟨by decide, by decide⟩) (m_preV (r := (RX5, TX5, 34)) hE hV hS hA (hM.at 100 (by decide)) rfl) rfl rfl hl.1 rfl (lv_room (by first | exact Nat.le_of_ble_eq_true rfl | simp [rf_cat, ct_ref, ct_int, ct_null, ct_long])) dX5_ticks_111 ⟨by decide, by decide⟩) hV hS hA (fun h H locs hV hS hp _ => ?_)
        replace hM := hp; clear hp
        refine lv_iconst (v := 0) hx hb dX5_ticks_114 (by decide) ?_
        refine lv_istore_n (lv' := [(1, .int 0), (0, .ref (B 100))]) hx hb dX5_ticks_115 rfl hl (by decide) rfl (fun ls hl => ?_)
        refine lv_iconst (v := 0) hx hb dX5_ticks_116 (by decide) ?_
        refine lv_istore_n (lv' := [(2, .int 0), (1, .int 0), (0, .ref (B 100))]) hx hb dX5_ticks_117 rfl hl (by decide) rfl (fun ls hl => ?_)
        have lp118 : ∀ (fu : Nat) (k : Nat), (k ≤ kN μ 3 0) → kN μ 3 0 - k < fu → ∀ (h : mH) (H : Heap) (locs : List Loc), DRep cs P h0 B ((wlM (t1M μ) k).2) h → mV D h (mA hh s.heap.size) H → va_S (mA hh s.heap.size) s.heap H locs → ∀ (ls : Array Slot), lv_has ls 4 [(0, .ref (B 100)), (1, .int ((wlM (t1M μ) k).1)), (2, .int (nI k))] → W p l e ({ frames := 10, cells := 0, slots := 0, locals := 242 } : Room) s m args below meth c H locs 0 0 (MQ below (va_Qi ((fun (r : Int32) (h1 : mH) => DRep cs P h0 B ((tkM μ).2) h1 ∧ r = ((tkM μ).1))) (mB D hh s.heap.size) (mA hh s.heap.size)) args s 0 0 (mA hh s.heap.size)) (F0 m 118 ls []) := by
          intro fu
          induction fu with
          | zero =>
            intro k hk hfu
            exact absurd hfu (Nat.not_lt_zero _)
          | succ fu ih118 =>
            intro k hk hfu h H locs hM hV hS ls hl
            have fw : fr μ (wlM (t1M μ) k).2 := (t1M_fr μ).tr (wlM_fr _ (by omega))
            have en0 : kN ((wlM (t1M μ) k).2) 3 0 = kN μ 3 0 := by rw [fw.1]
            have en2 : kN ((wlM (t1M μ) k).2) 24 0 = kN μ 24 0 := by rw [fw.1]
            have h30 : ∀ c t, c < kN μ 3 0 → kO ((wlM (t1M μ) k).2) 30 c = some t → t < kN μ 24 0 := fun c t hc h => t1M_30 hw0 c hc t (by rw [wlM_30] at h; exact h)
            refine lv_iload_n hx hb dX5_ticks_118 rfl (lv_at hl 2 rfl) ?_
            refine lv_aload_n hx hb dX5_ticks_119 rfl (lv_at hl 0 rfl) ?_
            refine m_get (C := RX5) (T := TX5) (N := 34) hx hb hts hi_X5 hown hK hV 3 (v := .int (nI (kN (wlM (t1M μ) k).2 3 0))) (by have z9 := g_m3 hM; exact z9) rfl (by decide) k100 (fun _ h9 => h9) dX5_ticks_120 ?_
            refine lv_icmp_ge (tgt := 194) hx hb dX5_ticks_123 (by decide) (fun c123 => ?_) (fun c123 => ?_)
            · replace c123 : kN (wlM (t1M μ) k).2 3 0 ≤ k := (nI_leI (a := kN (wlM (t1M μ) k).2 3 0) (b := k) (by omega) (by omega)).mp c123
              refine lv_iconst (v := 0) hx hb dX5_ticks_194 (by decide) ?_
              refine lv_istore_n (lv' := [(2, .int 0), (0, .ref (B 100)), (1, .int ((wlM (t1M μ) k).1))]) hx hb dX5_ticks_195 rfl hl (by decide) rfl (fun ls hl => ?_)
              have lp196 : ∀ (fu : Nat) (w9 : Nat), (w9 ≤ kN μ 3 0) → kN μ 3 0 - w9 < fu → ∀ (h : mH) (H : Heap) (locs : List Loc), DRep cs P h0 B (htM w9 (wlM (t1M μ) k).2) h → mV D h (mA hh s.heap.size) H → va_S (mA hh s.heap.size) s.heap H locs → ∀ (ls : Array Slot), lv_has ls 4 [(0, .ref (B 100)), (1, .int ((wlM (t1M μ) k).1)), (2, .int (nI w9))] → W p l e ({ frames := 10, cells := 0, slots := 0, locals := 242 } : Room) s m args below meth c H locs 0 0 (MQ below (va_Qi ((fun (r : Int32) (h1 : mH) => DRep cs P h0 B ((tkM μ).2) h1 ∧ r = ((tkM μ).1))) (mB D hh s.heap.size) (mA hh s.heap.size)) args s 0 0 (mA hh s.heap.size)) (F0 m 196 ls []) := by
                intro fu
                induction fu with
                | zero =>
                  intro w9 hm hfu
                  exact absurd hfu (Nat.not_lt_zero _)
                | succ fu ih196 =>
                  intro w9 hm hfu h H locs hM hV hS ls hl
                  have fw : fr μ (wlM (t1M μ) k).2 := (t1M_fr μ).tr (wlM_fr _ (by omega))
                  have fh : kN (htM w9 (wlM (t1M μ) k).2) = kN μ := (htM_fr _ _).1.trans fw.1
                  have en0 : kN (htM w9 (wlM (t1M μ) k).2) 3 0 = kN μ 3 0 := by rw [fh]
                  have en2 : kN (htM w9 (wlM (t1M μ) k).2) 24 0 = kN μ 24 0 := by rw [fh]
                  have h30 : ∀ c t, c < kN μ 3 0 → kO (htM w9 (wlM (t1M μ) k).2) 30 c = some t → t < kN μ 24 0 := fun c t hc h => t1M_30 hw0 c hc t (by rw [htM_30, wlM_30] at h; exact h)
                  refine lv_iload_n hx hb dX5_ticks_196 rfl (lv_at hl 2 rfl) ?_
                  refine lv_aload_n hx hb dX5_ticks_197 rfl (lv_at hl 0 rfl) ?_
                  refine m_get (C := RX5) (T := TX5) (N := 34) hx hb hts hi_X5 hown hK hV 3 (v := .int (nI (kN (htM w9 (wlM (t1M μ) k).2) 3 0))) (by have z9 := g_m3 hM; exact z9) rfl (by decide) k100 (fun _ h9 => h9) dX5_ticks_198 ?_
                  refine lv_icmp_ge (tgt := 265) hx hb dX5_ticks_201 (by decide) (fun c201 => ?_) (fun c201 => ?_)
                  · replace c201 : kN (htM w9 (wlM (t1M μ) k).2) 3 0 ≤ w9 := (nI_leI (a := kN (htM w9 (wlM (t1M μ) k).2) 3 0) (b := w9) (by omega) (by omega)).mp c201
                    refine lv_aload_n hx hb dX5_ticks_265 rfl (lv_at hl 0 rfl) ?_
                    refine lv_dup hx hb dX5_ticks_266 rfl ?_
                    refine m_get (C := RX5) (T := TX5) (N := 34) hx hb hts hi_X5 hown hK hV 0 (v := .int (kI (htM w9 (wlM (t1M μ) k).2) 0 0)) (by have z9 := g_m0 hM; exact z9) rfl (by decide) k129 (fun _ h9 => h9) dX5_ticks_267 ?_
                    refine lv_iconst (v := 1) hx hb dX5_ticks_270 (by decide) ?_
                    refine lv_iadd hx hb dX5_ticks_271 ?_
                    refine m_put (C := RX5) (T := TX5) (N := 34) (v := .int ((kI (htM w9 (wlM (t1M μ) k).2) 0 0) + 1)) hx hb hts hi_X5 tyX5 tyX5_ok nmX5 hown hK hV hS 0 (p_m0 hM ((kI (htM w9 (wlM (t1M μ) k).2) 0 0) + 1)) rfl (by decide) k129 (fun _ h9 => h9) rfl (tyX5_ok 0 (by decide)) rfl rfl dX5_ticks_272 (fun h H locs hV hS hM => ?_)
                    refine lv_iload_n hx hb dX5_ticks_275 rfl (lv_at hl 1 rfl) ?_
                    exact m_iret (v := ((wlM (t1M μ) k).1)) hx hb hr hlocks hV hS (⟨(by rw [show w9 = kN μ 3 0 by omega, show k = kN μ 3 0 by omega] at hM; exact hM), by rw [show k = kN μ 3 0 by omega]; rfl⟩) dX5_ticks_276
                  · replace c201 : ¬ kN (htM w9 (wlM (t1M μ) k).2) 3 0 ≤ w9 := fun q9 => c201 ((nI_leI (a := kN (htM w9 (wlM (t1M μ) k).2) 3 0) (b := w9) (by omega) (by omega)).mpr q9)
                    refine lv_aload_n hx hb dX5_ticks_204 rfl (lv_at hl 0 rfl) ?_
                    refine m_get (C := RX5) (T := TX5) (N := 34) hx hb hts hi_X5 hown hK hV 2 (v := .ref (B 2)) (g_m2 hM) rfl (by decide) k13 (fun _ h9 => h9) dX5_ticks_205 ?_
                    refine lv_iload_n hx hb dX5_ticks_208 rfl (lv_at hl 2 rfl) ?_
                    refine m_iald hx hb hK hV 0 (i := nI w9) (x := (kI (htM w9 (wlM (t1M μ) k).2) 2 w9)) (a_m2 hM) rfl (vp_in_nI (by omega) (by omega)) (by rw [nI_clamp (by omega)] <;> first | rfl | (show oI (va_up _ _ _ _) = _; rw [vu_s] <;> rfl) | (show va_up _ _ _ _ = _; rw [vu_s] <;> rfl)) dX5_ticks_209 ?_
                    refine lv_iconst (v := 3) hx hb dX5_ticks_210 (by decide) ?_
                    refine lv_icmp_le (tgt := 225) hx hb dX5_ticks_211 (by decide) (fun c211 => ?_) (fun c211 => ?_)
                    · refine lv_iconst (v := 0) hx hb dX5_ticks_225 (by decide) ?_
                      refine lv_istore_n (lv' := [(3, .int 0), (0, .ref (B 100)), (1, .int ((wlM (t1M μ) k).1)), (2, .int (nI w9))]) hx hb dX5_ticks_226 rfl hl (by decide) rfl (fun ls hl => ?_)
                      refine lv_aload_n hx hb dX5_ticks_227 rfl (lv_at hl 1 rfl) ?_
                      refine m_get (C := RX5) (T := TX5) (N := 34) hx hb hts hi_X5 hown hK hV 2 (v := .ref (B 2)) (g_m2 hM) rfl (by decide) k13 (fun _ h9 => h9) dX5_ticks_228 ?_
                      refine lv_iload_n hx hb dX5_ticks_231 rfl (lv_at hl 3 rfl) ?_
                      refine lv_aload_n hx hb dX5_ticks_232 rfl (lv_at hl 1 rfl) ?_
                      refine m_get (C := RX5) (T := TX5) (N := 34) hx hb hts hi_X5 hown hK hV 30 (v := .ref (B 30)) (g_m30 hM) rfl (by decide) k82 (fun _ h9 => h9) dX5_ticks_233 ?_
                      refine lv_iload_n hx hb dX5_ticks_236 rfl (lv_at hl 3 rfl) ?_
                      refine m_iald hx hb hK hV 0 (i := nI w9) (x := oI (kO (htM w9 (wlM (t1M μ) k).2) 30 w9)) (a_m30 hM) rfl (vp_in_nI (by omega) (by omega)) (by rw [nI_clamp (by omega)] <;> first | rfl | (show oI (va_up _ _ _ _) = _; rw [vu_s] <;> rfl) | (show va_up _ _ _ _ = _; rw [vu_s] <;> rfl)) dX5_ticks_237 ?_
                      refine lv_iconst (v := (-1)) hx hb dX5_ticks_238 (by decide) ?_
                      refine lv_icmp_ne (tgt := 246) hx hb dX5_ticks_239 (by decide) (fun c239 => ?_) (fun c239 => ?_)
                      · obtain ⟨k239, c239⟩ : ∃ z, kO (htM w9 (wlM (t1M μ) k).2) 30 w9 = some z := Option.ne_none_iff_exists'.mp (fun q9 => c239 ((oI_m1 (fun k9 e9 => by have := h30 w9 k9 (by omega) e9; omega)).mpr q9))
                        have bk239 := h30 w9 k239 (by omega) c239
                        refine lv_aload_n hx hb dX5_ticks_246 rfl (lv_at hl 1 rfl) ?_
                        refine m_get (C := RX5) (T := TX5) (N := 34) hx hb hts hi_X5 hown hK hV 2 (v := .ref (B 2)) (g_m2 hM) rfl (by decide) k13 (fun _ h9 => h9) dX5_ticks_247 ?_
                        refine lv_iload_n hx hb dX5_ticks_250 rfl (lv_at hl 3 rfl) ?_
                        refine m_iald hx hb hK hV 0 (i := nI w9) (x := (kI (htM w9 (wlM (t1M μ) k).2) 2 w9)) (a_m2 hM) rfl (vp_in_nI (by omega) (by omega)) (by rw [nI_clamp (by omega)] <;> first | rfl | (show oI (va_up _ _ _ _) = _; rw [vu_s] <;> rfl) | (show va_up _ _ _ _ = _; rw [vu_s] <;> rfl)) dX5_ticks_251 ?_
                        refine lv_aload_n hx hb dX5_ticks_252 rfl (lv_at hl 1 rfl) ?_
                        refine lv_iload_n hx hb dX5_ticks_253 rfl (lv_at hl 3 rfl) ?_
                        refine m_calli (va_runV (As := [.int (nI w9)]) (rest := [.int (kI (htM w9 (wlM (t1M μ) k).2) 2 w9), .int (nI w9), .ref (B 2)]) ⟨hx, hb, hml, hown, hts⟩ (c_X5_paceOf (l := l) (H.size) hM w9 (by omega)) (cwV 1 hts gX5_ticks_X5_paceOf rfl rfl rfl (by decide +kernel) ⟨by decide, by decide⟩) (m_preV (r := (RX5, TX5, 34)) hE hV hS hA (hM.at 100 (by decide)) rfl) rfl rfl hl.1 rfl (lv_room (by first | exact Nat.le_of_ble_eq_true rfl | simp [rf_cat, ct_ref, ct_int, ct_null, ct_long])) dX5_ticks_254 ⟨by decide, by decide⟩) hV hS hA (fun r h1 H locs hV hS hp _ => ?_)
                        obtain ⟨e1, e2⟩ := hp
                        subst e2
                        rw [e1] at hV; clear e1
                        refine lv_iadd hx hb dX5_ticks_257 ?_
                        refine m_iast hx hb hK hV hS 0 (i := nI w9) (x := ((kI (htM w9 (wlM (t1M μ) k).2) 2 w9) + (paM (htM w9 (wlM (t1M μ) k).2) w9))) (q_m2 hM (by omega) ((kI (htM w9 (wlM (t1M μ) k).2) 2 w9) + (paM (htM w9 (wlM (t1M μ) k).2) w9))) rfl (vp_in_nI (by omega) (by omega)) dX5_ticks_258 (fun h H locs hV hS hM => ?_)
                        refine lv_iinc (v := nI (w9 + 1)) (lv' := [(2, .int (nI (w9 + 1))), (3, .int 0), (0, .ref (B 100)), (1, .int ((wlM (t1M μ) k).1))]) hx hb dX5_ticks_259 hl (k := 3) rfl (show nI w9 + Int32.ofInt 1 = _ from nI_add w9 1) (by decide) rfl (fun ls hl => ?_)
                        refine lv_goto (tgt := 196) hx hb dX5_ticks_262 (by decide) ?_
                        have q1 : (sI (htM w9 (wlM (t1M μ) k).2) 2 (va_up (kI (htM w9 (wlM (t1M μ) k).2) 2) w9 ((kI (htM w9 (wlM (t1M μ) k).2) 2 w9) + (paM (htM w9 (wlM (t1M μ) k).2) w9)))) = (htM (w9 + 1) (wlM (t1M μ) k).2) := (by show _ = h1M (htM w9 (wlM (t1M μ) k).2) w9; unfold h1M; rw [c239] <;> rfl)
                        rw [q1] at hM
                        exact ih196 (w9 + 1) (by omega) (by omega) _ _ _ hM hV hS ls (lv_sub hl [2, 3, 0] rfl)
                      · replace c239 : kO (htM w9 (wlM (t1M μ) k).2) 30 w9 = none := (oI_m1 (fun k9 e9 => by have := h30 w9 k9 (by omega) e9; omega)).mp c239
                        refine lv_iload_n hx hb dX5_ticks_242 rfl (lv_at hl 0 rfl) ?_
                        refine lv_goto (tgt := 258) hx hb dX5_ticks_243 (by decide) ?_
                        refine m_iast hx hb hK hV hS 0 (i := nI w9) (x := 0) (q_m2 hM (by omega) 0) rfl (vp_in_nI (by omega) (by omega)) dX5_ticks_258 (fun h H locs hV hS hM => ?_)
                        refine lv_iinc (v := nI (w9 + 1)) (lv' := [(2, .int (nI (w9 + 1))), (3, .int 0), (0, .ref (B 100)), (1, .int ((wlM (t1M μ) k).1))]) hx hb dX5_ticks_259 hl (k := 3) rfl (show nI w9 + Int32.ofInt 1 = _ from nI_add w9 1) (by decide) rfl (fun ls hl => ?_)
                        refine lv_goto (tgt := 196) hx hb dX5_ticks_262 (by decide) ?_
                        have q2 : (sI (htM w9 (wlM (t1M μ) k).2) 2 (va_up (kI (htM w9 (wlM (t1M μ) k).2) 2) w9 0)) = (htM (w9 + 1) (wlM (t1M μ) k).2) := (by show _ = h1M (htM w9 (wlM (t1M μ) k).2) w9; unfold h1M; rw [c239]; dsimp only; rw [if_pos c211] <;> rfl)
                        rw [q2] at hM
                        exact ih196 (w9 + 1) (by omega) (by omega) _ _ _ hM hV hS ls (lv_sub hl [2, 3, 0] rfl)
                    · refine lv_aload_n hx hb dX5_ticks_214 rfl (lv_at hl 0 rfl) ?_
                      refine m_get (C := RX5) (T := TX5) (N := 34) hx hb hts hi_X5 hown hK hV 2 (v := .ref (B 2)) (g_m2 hM) rfl (by decide) k13 (fun _ h9 => h9) dX5_ticks_215 ?_
                      refine lv_iload_n hx hb dX5_ticks_218 rfl (lv_at hl 2 rfl) ?_
                      refine m_iald hx hb hK hV 0 (i := nI w9) (x := (kI (htM w9 (wlM (t1M μ) k).2) 2 w9)) (a_m2 hM) rfl (vp_in_nI (by omega) (by omega)) (by rw [nI_clamp (by omega)] <;> first | rfl | (show oI (va_up _ _ _ _) = _; rw [vu_s] <;> rfl) | (show va_up _ _ _ _ = _; rw [vu_s] <;> rfl)) dX5_ticks_219 ?_
                      refine lv_iconst (v := 3) hx hb dX5_ticks_220 (by decide) ?_
                      refine lv_isub hx hb dX5_ticks_221 ?_
                      refine lv_goto (tgt := 226) hx hb dX5_ticks_222 (by decide) ?_
                      refine lv_istore_n (lv' := [(3, .int ((kI (htM w9 (wlM (t1M μ) k).2) 2 w9) - 3)), (0, .ref (B 100)), (1, .int ((wlM (t1M μ) k).1)), (2, .int (nI w9))]) hx hb dX5_ticks_226 rfl hl (by decide) rfl (fun ls hl => ?_)
                      refine lv_aload_n hx hb dX5_ticks_227 rfl (lv_at hl 1 rfl) ?_
                      refine m_get (C := RX5) (T := TX5) (N := 34) hx hb hts hi_X5 hown hK hV 2 (v := .ref (B 2)) (g_m2 hM) rfl (by decide) k13 (fun _ h9 => h9) dX5_ticks_228 ?_
                      refine lv_iload_n hx hb dX5_ticks_231 rfl (lv_at hl 3 rfl) ?_
                      refine lv_aload_n hx hb dX5_ticks_232 rfl (lv_at hl 1 rfl) ?_
                      refine m_get (C := RX5) (T := TX5) (N := 34) hx hb hts hi_X5 hown hK hV 30 (v := .ref (B 30)) (g_m30 hM) rfl (by decide) k82 (fun _ h9 => h9) dX5_ticks_233 ?_
                      refine lv_iload_n hx hb dX5_ticks_236 rfl (lv_at hl 3 rfl) ?_
                      refine m_iald hx hb hK hV 0 (i := nI w9) (x := oI (kO (htM w9 (wlM (t1M μ) k).2) 30 w9)) (a_m30 hM) rfl (vp_in_nI (by omega) (by omega)) (by rw [nI_clamp (by omega)] <;> first | rfl | (show oI (va_up _ _ _ _) = _; rw [vu_s] <;> rfl) | (show va_up _ _ _ _ = _; rw [vu_s] <;> rfl)) dX5_ticks_237 ?_
                      refine lv_iconst (v := (-1)) hx hb dX5_ticks_238 (by decide) ?_
                      refine lv_icmp_ne (tgt := 246) hx hb dX5_ticks_239 (by decide) (fun c239 => ?_) (fun c239 => ?_)
                      · obtain ⟨k239, c239⟩ : ∃ z, kO (htM w9 (wlM (t1M μ) k).2) 30 w9 = some z := Option.ne_none_iff_exists'.mp (fun q9 => c239 ((oI_m1 (fun k9 e9 => by have := h30 w9 k9 (by omega) e9; omega)).mpr q9))
                        have bk239 := h30 w9 k239 (by omega) c239
                        refine lv_aload_n hx hb dX5_ticks_246 rfl (lv_at hl 1 rfl) ?_
                        refine m_get (C := RX5) (T := TX5) (N := 34) hx hb hts hi_X5 hown hK hV 2 (v := .ref (B 2)) (g_m2 hM) rfl (by decide) k13 (fun _ h9 => h9) dX5_ticks_247 ?_
                        refine lv_iload_n hx hb dX5_ticks_250 rfl (lv_at hl 3 rfl) ?_
                        refine m_iald hx hb hK hV 0 (i := nI w9) (x := (kI (htM w9 (wlM (t1M μ) k).2) 2 w9)) (a_m2 hM) rfl (vp_in_nI (by omega) (by omega)) (by rw [nI_clamp (by omega)] <;> first | rfl | (show oI (va_up _ _ _ _) = _; rw [vu_s] <;> rfl) | (show va_up _ _ _ _ = _; rw [vu_s] <;> rfl)) dX5_ticks_251 ?_
                        refine lv_aload_n hx hb dX5_ticks_252 rfl (lv_at hl 1 rfl) ?_
                        refine lv_iload_n hx hb dX5_ticks_253 rfl (lv_at hl 3 rfl) ?_
                        refine m_calli (va_runV (As := [.int (nI w9)]) (rest := [.int (kI (htM w9 (wlM (t1M μ) k).2) 2 w9), .int (nI w9), .ref (B 2)]) ⟨hx, hb, hml, hown, hts⟩ (c_X5_paceOf (l := l) (H.size) hM w9 (by omega)) (cwV 1 hts gX5_ticks_X5_paceOf rfl rfl rfl (by decide +kernel) ⟨by decide, by decide⟩) (m_preV (r := (RX5, TX5, 34)) hE hV hS hA (hM.at 100 (by decide)) rfl) rfl rfl hl.1 rfl (lv_room (by first | exact Nat.le_of_ble_eq_true rfl | simp [rf_cat, ct_ref, ct_int, ct_null, ct_long])) dX5_ticks_254 ⟨by decide, by decide⟩) hV hS hA (fun r h1 H locs hV hS hp _ => ?_)
                        obtain ⟨e1, e2⟩ := hp
                        subst e2
                        rw [e1] at hV; clear e1
                        refine lv_iadd hx hb dX5_ticks_257 ?_
                        refine m_iast hx hb hK hV hS 0 (i := nI w9) (x := ((kI (htM w9 (wlM (t1M μ) k).2) 2 w9) + (paM (htM w9 (wlM (t1M μ) k).2) w9))) (q_m2 hM (by omega) ((kI (htM w9 (wlM (t1M μ) k).2) 2 w9) + (paM (htM w9 (wlM (t1M μ) k).2) w9))) rfl (vp_in_nI (by omega) (by omega)) dX5_ticks_258 (fun h H locs hV hS hM => ?_)
                        refine lv_iinc (v := nI (w9 + 1)) (lv' := [(2, .int (nI (w9 + 1))), (3, .int ((kI (htM w9 (wlM (t1M μ) k).2) 2 w9) - 3)), (0, .ref (B 100)), (1, .int ((wlM (t1M μ) k).1))]) hx hb dX5_ticks_259 hl (k := 3) rfl (show nI w9 + Int32.ofInt 1 = _ from nI_add w9 1) (by decide) rfl (fun ls hl => ?_)
                        refine lv_goto (tgt := 196) hx hb dX5_ticks_262 (by decide) ?_
                        have q3 : (sI (htM w9 (wlM (t1M μ) k).2) 2 (va_up (kI (htM w9 (wlM (t1M μ) k).2) 2) w9 ((kI (htM w9 (wlM (t1M μ) k).2) 2 w9) + (paM (htM w9 (wlM (t1M μ) k).2) w9)))) = (htM (w9 + 1) (wlM (t1M μ) k).2) := (by show _ = h1M (htM w9 (wlM (t1M μ) k).2) w9; unfold h1M; rw [c239] <;> rfl)
                        rw [q3] at hM
                        exact ih196 (w9 + 1) (by omega) (by omega) _ _ _ hM hV hS ls (lv_sub hl [2, 3, 0] rfl)
                      · replace c239 : kO (htM w9 (wlM (t1M μ) k).2) 30 w9 = none := (oI_m1 (fun k9 e9 => by have := h30 w9 k9 (by omega) e9; omega)).mp c239
                        refine lv_iload_n hx hb dX5_ticks_242 rfl (lv_at hl 0 rfl) ?_
                        refine lv_goto (tgt := 258) hx hb dX5_ticks_243 (by decide) ?_
                        refine m_iast hx hb hK hV hS 0 (i := nI w9) (x := ((kI (htM w9 (wlM (t1M μ) k).2) 2 w9) - 3)) (q_m2 hM (by omega) ((kI (htM w9 (wlM (t1M μ) k).2) 2 w9) - 3)) rfl (vp_in_nI (by omega) (by omega)) dX5_ticks_258 (fun h H locs hV hS hM => ?_)
                        refine lv_iinc (v := nI (w9 + 1)) (lv' := [(2, .int (nI (w9 + 1))), (3, .int ((kI (htM w9 (wlM (t1M μ) k).2) 2 w9) - 3)), (0, .ref (B 100)), (1, .int ((wlM (t1M μ) k).1))]) hx hb dX5_ticks_259 hl (k := 3) rfl (show nI w9 + Int32.ofInt 1 = _ from nI_add w9 1) (by decide) rfl (fun ls hl => ?_)
                        refine lv_goto (tgt := 196) hx hb dX5_ticks_262 (by decide) ?_
                        have q4 : (sI (htM w9 (wlM (t1M μ) k).2) 2 (va_up (kI (htM w9 (wlM (t1M μ) k).2) 2) w9 ((kI (htM w9 (wlM (t1M μ) k).2) 2 w9) - 3))) = (htM (w9 + 1) (wlM (t1M μ) k).2) := (by show _ = h1M (htM w9 (wlM (t1M μ) k).2) w9; unfold h1M; rw [c239]; dsimp only; rw [if_neg c211] <;> rfl)
                        rw [q4] at hM
                        exact ih196 (w9 + 1) (by omega) (by omega) _ _ _ hM hV hS ls (lv_sub hl [2, 3, 0] rfl)
              have q5 : (wlM (t1M μ) k).2 = (htM 0 (wlM (t1M μ) k).2) := rfl
              rw [q5] at hM
              have q6 : 0 = nI 0 := rfl
              replace hl : lv_has ls 4 [(2, .int (nI 0)), (0, .ref (B 100)), (1, .int ((wlM (t1M μ) k).1))] := (congrArg (lv_has ls 4) (m_lc (congrArg Value.int q6) (m_lc rfl (m_lc rfl rfl)))).mp hl
              exact lp196 ((kN μ 3 0 - 0) + 1) 0 (Nat.zero_le _) (Nat.lt_succ_self _) _ _ _ hM hV hS ls (lv_sub hl [1, 2, 0] rfl)
            · replace c123 : ¬ kN (wlM (t1M μ) k).2 3 0 ≤ k := fun q9 => c123 ((nI_leI (a := kN (wlM (t1M μ) k).2 3 0) (b := k) (by omega) (by omega)).mpr q9)
              refine lv_iload_n hx hb dX5_ticks_126 rfl (lv_at hl 1 rfl) ?_
              refine lv_aload_n hx hb dX5_ticks_127 rfl (lv_at hl 0 rfl) ?_
              refine m_get (C := RX5) (T := TX5) (N := 34) hx hb hts hi_X5 hown hK hV 30 (v := .ref (B 30)) (g_m30 hM) rfl (by decide) k82 (fun _ h9 => h9) dX5_ticks_128 ?_
              refine lv_iload_n hx hb dX5_ticks_131 rfl (lv_at hl 2 rfl) ?_
              refine m_iald hx hb hK hV 0 (i := nI k) (x := oI (kO (wlM (t1M μ) k).2 30 k)) (a_m30 hM) rfl (vp_in_nI (by omega) (by omega)) (by rw [nI_clamp (by omega)] <;> first | rfl | (show oI (va_up _ _ _ _) = _; rw [vu_s] <;> rfl) | (show va_up _ _ _ _ = _; rw [vu_s] <;> rfl)) dX5_ticks_132 ?_
              refine lv_iconst (v := (-1)) hx hb dX5_ticks_133 (by decide) ?_
              refine lv_icmp_ne (tgt := 141) hx hb dX5_ticks_134 (by decide) (fun c134 => ?_) (fun c134 => ?_)
              · obtain ⟨k134, c134⟩ : ∃ z, kO (wlM (t1M μ) k).2 30 k = some z := Option.ne_none_iff_exists'.mp (fun q9 => c134 ((oI_m1 (fun k9 e9 => by have := h30 k k9 (by omega) e9; omega)).mpr q9))
                have bk134 := h30 k k134 (by omega) c134
                refine lv_aload_n hx hb dX5_ticks_141 rfl (lv_at hl 0 rfl) ?_
                refine lv_iload_n hx hb dX5_ticks_142 rfl (lv_at hl 2 rfl) ?_
                refine lv_aload_n hx hb dX5_ticks_143 rfl (lv_at hl 0 rfl) ?_
                refine m_get (C := RX5) (T := TX5) (N := 34) hx hb hts hi_X5 hown hK hV 30 (v := .ref (B 30)) (g_m30 hM) rfl (by decide) k82 (fun _ h9 => h9) dX5_ticks_144 ?_
                refine lv_iload_n hx hb dX5_ticks_147 rfl (lv_at hl 2 rfl) ?_
                refine m_iald hx hb hK hV 0 (i := nI k) (x := nI k134) (a_m30 hM) rfl (vp_in_nI (by omega) (by omega)) (by rw [nI_clamp (by omega)] <;> first | (show oI (kO (wlM (t1M μ) k).2 30 k) = _; rw [c134]; rfl) | (show oI (va_up _ _ _ _) = _; rw [vu_s, c134]; rfl)) dX5_ticks_148 ?_
                refine m_calli (va_runV (As := [.int (nI k), .int (nI k134)]) (rest := [.int ((wlM (t1M μ) k).1)]) ⟨hx, hb, hml, hown, hts⟩ (c_X5_works (l := l) (H.size) hM k k134 (by omega) (by omega) (hdI.fr fw)) (cwV 2 hts gX5_ticks_X5_works rfl rfl rfl (by decide +kernel) ⟨by decide, by decide⟩) (m_preV (r := (RX5, TX5, 34)) hE hV hS hA (hM.at 100 (by decide)) rfl) rfl rfl hl.1 rfl (lv_room (by first | exact Nat.le_of_ble_eq_true rfl | simp [rf_cat, ct_ref, ct_int, ct_null, ct_long])) dX5_ticks_149 ⟨by decide, by decide⟩) hV hS hA (fun r h H locs hV hS hp _ => ?_)
                obtain ⟨hM, e2⟩ := hp
                subst e2
                have e30 : kO (wkM ((wlM (t1M μ) k).2) k k134) 30 k = some k134 := by rw [wkM_30]; exact c134
                refine lv_iadd hx hb dX5_ticks_152 ?_
                refine lv_istore_n (lv' := [(1, .int (((wlM (t1M μ) k).1) + (wuM ((wlM (t1M μ) k).2) k k134))), (0, .ref (B 100)), (2, .int (nI k))]) hx hb dX5_ticks_153 rfl hl (by decide) rfl (fun ls hl => ?_)
                refine lv_aload_n hx hb dX5_ticks_154 rfl (lv_at hl 1 rfl) ?_
                refine lv_dup hx hb dX5_ticks_155 rfl ?_
                refine m_get (C := RX5) (T := TX5) (N := 34) hx hb hts hi_X5 hown hK hV 28 (v := .int (kI (wkM ((wlM (t1M μ) k).2) k k134) 28 0)) (by have z9 := g_m28 hM; exact z9) rfl (by decide) k211 (fun _ h9 => h9) dX5_ticks_156 ?_
                refine lv_aload_n hx hb dX5_ticks_159 rfl (lv_at hl 1 rfl) ?_
                refine m_get (C := RX5) (T := TX5) (N := 34) hx hb hts hi_X5 hown hK hV 30 (v := .ref (B 30)) (g_m30 hM) rfl (by decide) k82 (fun _ h9 => h9) dX5_ticks_160 ?_
                refine lv_iload_n hx hb dX5_ticks_163 rfl (lv_at hl 2 rfl) ?_
                refine m_iald hx hb hK hV 0 (i := nI k) (x := nI k134) (a_m30 hM) rfl (vp_in_nI (by omega) (by omega)) (by rw [nI_clamp (by omega)] <;> first | (show oI (kO (wkM ((wlM (t1M μ) k).2) k k134) 30 k) = _; rw [e30]; rfl) | (show oI (va_up _ _ _ _) = _; rw [vu_s, e30]; rfl)) dX5_ticks_164 ?_
                refine lv_iconst (v := (-1)) hx hb dX5_ticks_165 (by decide) ?_
                refine lv_icmp_ne (tgt := 173) hx hb dX5_ticks_166 (by decide) (fun c166 => ?_) (fun c166 => ?_)
                · refine lv_iconst (v := 1) hx hb dX5_ticks_173 (by decide) ?_
                  refine lv_iadd hx hb dX5_ticks_174 ?_
                  refine m_put (C := RX5) (T := TX5) (N := 34) (v := .int ((kI (wkM ((wlM (t1M μ) k).2) k k134) 28 0) + 1)) hx hb hts hi_X5 tyX5 tyX5_ok nmX5 hown hK hV hS 28 (p_m28 hM ((kI (wkM ((wlM (t1M μ) k).2) k k134) 28 0) + 1)) rfl (by decide) k211 (fun _ h9 => h9) rfl (tyX5_ok 28 (by decide)) rfl rfl dX5_ticks_175 (fun h H locs hV hS hM => ?_)
                  refine lv_aload_n hx hb dX5_ticks_178 rfl (lv_at hl 1 rfl) ?_
                  refine lv_dup hx hb dX5_ticks_179 rfl ?_
                  refine m_get (C := RX5) (T := TX5) (N := 34) hx hb hts hi_X5 hown hK hV 29 (v := .int (kI (wkM ((wlM (t1M μ) k).2) k k134) 29 0)) (by have z9 := g_m29 hM; exact z9) rfl (by decide) k214 (fun _ h9 => h9) dX5_ticks_180 ?_
                  refine lv_iconst (v := 1) hx hb dX5_ticks_183 (by decide) ?_
                  refine lv_iadd hx hb dX5_ticks_184 ?_
                  refine m_put (C := RX5) (T := TX5) (N := 34) (v := .int ((kI (wkM ((wlM (t1M μ) k).2) k k134) 29 0) + 1)) hx hb hts hi_X5 tyX5 tyX5_ok nmX5 hown hK hV hS 29 (p_m29 hM ((kI (wkM ((wlM (t1M μ) k).2) k k134) 29 0) + 1)) rfl (by decide) k214 (fun _ h9 => h9) rfl (tyX5_ok 29 (by decide)) rfl rfl dX5_ticks_185 (fun h H locs hV hS hM => ?_)
                  refine lv_iinc (v := nI (k + 1)) (lv' := [(2, .int (nI (k + 1))), (1, .int (((wlM (t1M μ) k).1) + (wuM ((wlM (t1M μ) k).2) k k134))), (0, .ref (B 100))]) hx hb dX5_ticks_188 hl (k := 2) rfl (show nI k + Int32.ofInt 1 = _ from nI_add k 1) (by decide) rfl (fun ls hl => ?_)
                  refine lv_goto (tgt := 118) hx hb dX5_ticks_191 (by decide) ?_
                  have w9 : wlM (t1M μ) (k + 1) = wl1 (wlM (t1M μ) k) k := rfl
                  have q7 : (sI (sI (wkM ((wlM (t1M μ) k).2) k k134) 28 (va_up (kI (wkM ((wlM (t1M μ) k).2) k k134) 28) 0 ((kI (wkM ((wlM (t1M μ) k).2) k k134) 28 0) + 1))) 29 (va_up (kI (sI (wkM ((wlM (t1M μ) k).2) k k134) 28 (va_up (kI (wkM ((wlM (t1M μ) k).2) k k134) 28) 0 ((kI (wkM ((wlM (t1M μ) k).2) k k134) 28 0) + 1))) 29) 0 ((kI (wkM ((wlM (t1M μ) k).2) k k134) 29 0) + 1))) = (wlM (t1M μ) (k + 1)).2 := (by rw [w9]; unfold wl1; rw [c134] <;> rfl)
                  rw [q7] at hM
                  have q8 : (((wlM (t1M μ) k).1) + (wuM ((wlM (t1M μ) k).2) k k134)) = ((wlM (t1M μ) (k + 1)).1) := (by rw [w9]; unfold wl1; rw [c134] <;> rfl)
                  replace hl : lv_has ls 4 [(2, .int (nI (k + 1))), (1, .int ((wlM (t1M μ) (k + 1)).1)), (0, .ref (B 100))] := (congrArg (lv_has ls 4) (m_lc rfl (m_lc (congrArg Value.int q8) (m_lc rfl rfl)))).mp hl
                  exact ih118 (k + 1) (by omega) (by omega) _ _ _ hM hV hS ls (lv_sub hl [2, 1, 0] rfl)
                · exact absurd (show nI k134 < 0 by rw [show nI k134 = -1 from by first | exact c166 | exact Decidable.not_not.mp c166]; decide) (nI_pos (by omega))
              · replace c134 : kO (wlM (t1M μ) k).2 30 k = none := (oI_m1 (fun k9 e9 => by have := h30 k k9 (by omega) e9; omega)).mp c134
                refine lv_iconst (v := 0) hx hb dX5_ticks_137 (by decide) ?_
                refine lv_goto (tgt := 152) hx hb dX5_ticks_138 (by decide) ?_
                refine lv_iadd hx hb dX5_ticks_152 ?_
                refine lv_istore_n (lv' := [(1, .int (((wlM (t1M μ) k).1) + 0)), (0, .ref (B 100)), (2, .int (nI k))]) hx hb dX5_ticks_153 rfl hl (by decide) rfl (fun ls hl => ?_)
                refine lv_aload_n hx hb dX5_ticks_154 rfl (lv_at hl 1 rfl) ?_
                refine lv_dup hx hb dX5_ticks_155 rfl ?_
                refine m_get (C := RX5) (T := TX5) (N := 34) hx hb hts hi_X5 hown hK hV 28 (v := .int (kI (wlM (t1M μ) k).2 28 0)) (by have z9 := g_m28 hM; exact z9) rfl (by decide) k211 (fun _ h9 => h9) dX5_ticks_156 ?_
                refine lv_aload_n hx hb dX5_ticks_159 rfl (lv_at hl 1 rfl) ?_
                refine m_get (C := RX5) (T := TX5) (N := 34) hx hb hts hi_X5 hown hK hV 30 (v := .ref (B 30)) (g_m30 hM) rfl (by decide) k82 (fun _ h9 => h9) dX5_ticks_160 ?_
                refine lv_iload_n hx hb dX5_ticks_163 rfl (lv_at hl 2 rfl) ?_
                refine m_iald hx hb hK hV 0 (i := nI k) (x := (-1)) (a_m30 hM) rfl (vp_in_nI (by omega) (by omega)) (by rw [nI_clamp (by omega)] <;> first | (show oI (kO (wlM (t1M μ) k).2 30 k) = _; rw [c134]; rfl) | (show oI (va_up _ _ _ _) = _; rw [vu_s, c134]; rfl)) dX5_ticks_164 ?_
                refine lv_iconst (v := (-1)) hx hb dX5_ticks_165 (by decide) ?_
                refine lv_icmp_ne (tgt := 173) hx hb dX5_ticks_166 (by decide) (fun c166 => (absurd (by decide) c166)) (fun c166 => ?_)
                refine lv_iconst (v := 0) hx hb dX5_ticks_169 (by decide) ?_
                refine lv_goto (tgt := 174) hx hb dX5_ticks_170 (by decide) ?_
                refine lv_iadd hx hb dX5_ticks_174 ?_
                refine m_put (C := RX5) (T := TX5) (N := 34) (v := .int ((kI (wlM (t1M μ) k).2 28 0) + 0)) hx hb hts hi_X5 tyX5 tyX5_ok nmX5 hown hK hV hS 28 (p_m28 hM ((kI (wlM (t1M μ) k).2 28 0) + 0)) rfl (by decide) k211 (fun _ h9 => h9) rfl (tyX5_ok 28 (by decide)) rfl rfl dX5_ticks_175 (fun h H locs hV hS hM => ?_)
                refine lv_aload_n hx hb dX5_ticks_178 rfl (lv_at hl 1 rfl) ?_
                refine lv_dup hx hb dX5_ticks_179 rfl ?_
                refine m_get (C := RX5) (T := TX5) (N := 34) hx hb hts hi_X5 hown hK hV 29 (v := .int (kI (wlM (t1M μ) k).2 29 0)) (by have z9 := g_m29 hM; exact z9) rfl (by decide) k214 (fun _ h9 => h9) dX5_ticks_180 ?_
                refine lv_iconst (v := 1) hx hb dX5_ticks_183 (by decide) ?_
                refine lv_iadd hx hb dX5_ticks_184 ?_
                refine m_put (C := RX5) (T := TX5) (N := 34) (v := .int ((kI (wlM (t1M μ) k).2 29 0) + 1)) hx hb hts hi_X5 tyX5 tyX5_ok nmX5 hown hK hV hS 29 (p_m29 hM ((kI (wlM (t1M μ) k).2 29 0) + 1)) rfl (by decide) k214 (fun _ h9 => h9) rfl (tyX5_ok 29 (by decide)) rfl rfl dX5_ticks_185 (fun h H locs hV hS hM => ?_)
                refine lv_iinc (v := nI (k + 1)) (lv' := [(2, .int (nI (k + 1))), (1, .int (((wlM (t1M μ) k).1) + 0)), (0, .ref (B 100))]) hx hb dX5_ticks_188 hl (k := 2) rfl (show nI k + Int32.ofInt 1 = _ from nI_add k 1) (by decide) rfl (fun ls hl => ?_)
                refine lv_goto (tgt := 118) hx hb dX5_ticks_191 (by decide) ?_
                have w9 : wlM (t1M μ) (k + 1) = wl1 (wlM (t1M μ) k) k := rfl
                have q9 : (sI (sI (wlM (t1M μ) k).2 28 (va_up (kI (wlM (t1M μ) k).2 28) 0 ((kI (wlM (t1M μ) k).2 28 0) + 0))) 29 (va_up (kI (sI (wlM (t1M μ) k).2 28 (va_up (kI (wlM (t1M μ) k).2 28) 0 ((kI (wlM (t1M μ) k).2 28 0) + 0))) 29) 0 ((kI (wlM (t1M μ) k).2 29 0) + 1))) = (wlM (t1M μ) (k + 1)).2 := (by rw [w9]; unfold wl1; rw [c134] <;> rfl)
                rw [q9] at hM
                have q10 : (((wlM (t1M μ) k).1) + 0) = ((wlM (t1M μ) (k + 1)).1) := (by rw [w9]; unfold wl1; rw [c134] <;> rfl)
                replace hl : lv_has ls 4 [(2, .int (nI (k + 1))), (1, .int ((wlM (t1M μ) (k + 1)).1)), (0, .ref (B 100))] := (congrArg (lv_has ls 4) (m_lc rfl (m_lc (congrArg Value.int q10) (m_lc rfl rfl)))).mp hl
                exact ih118 (k + 1) (by omega) (by omega) _ _ _ hM hV hS ls (lv_sub hl [2, 1, 0] rfl)
        have q11 : (csM (rlM i μ)) = (wlM (t1M μ) 0).2 := (by rw [show i = kN μ 24 0 by omega]; rfl)
        rw [q11] at hM
        have q12 : 0 = ((wlM (t1M μ) 0).1) := rfl
        have q13 : 0 = nI 0 := rfl
        replace hl : lv_has ls 4 [(2, .int (nI 0)), (1, .int ((wlM (t1M μ) 0).1)), (0, .ref (B 100))] := (congrArg (lv_has ls 4) (m_lc (congrArg Value.int q13) (m_lc (congrArg Value.int q12) (m_lc rfl rfl)))).mp hl
        exact lp118 ((kN μ 3 0 - 0) + 1) 0 (Nat.zero_le _) (Nat.lt_succ_self _) _ _ _ hM hV hS ls (lv_sub hl [2, 1, 0] rfl)
      · replace c7 : ¬ kN (rlM i μ) 24 0 ≤ i := fun q9 => c7 ((nI_leI (a := kN (rlM i μ) 24 0) (b := i) (by omega) (by omega)).mpr q9)
        refine lv_aload_n hx hb dX5_ticks_10 rfl (lv_at hl 0 rfl) ?_
        refine m_get (C := RX5) (T := TX5) (N := 34) hx hb hts hi_X5 hown hK hV 14 (v := .ref (B 14)) (g_m14 hM) rfl (by decide) k48 (fun _ h9 => h9) dX5_ticks_11 ?_
        refine lv_iload_n hx hb dX5_ticks_14 rfl (lv_at hl 1 rfl) ?_
        refine m_iald hx hb hK hV 0 (i := nI i) (x := (kI (rlM i μ) 14 i)) (a_m14 hM) rfl (vp_in_nI (by omega) (by omega)) (by rw [nI_clamp (by omega)] <;> first | rfl | (show oI (va_up _ _ _ _) = _; rw [vu_s] <;> rfl) | (show va_up _ _ _ _ = _; rw [vu_s] <;> rfl)) dX5_ticks_15 ?_
        refine lv_if_le (tgt := 104) hx hb dX5_ticks_16 (by decide) (fun c16 => ?_) (fun c16 => ?_)
        · refine lv_iinc (v := nI (i + 1)) (lv' := [(1, .int (nI (i + 1))), (0, .ref (B 100))]) hx hb dX5_ticks_104 hl (k := 1) rfl (show nI i + Int32.ofInt 1 = _ from nI_add i 1) (by decide) rfl (fun ls hl => ?_)
          refine lv_goto (tgt := 2) hx hb dX5_ticks_107 (by decide) ?_
          have q14 : (rlM i μ) = (rlM (i + 1) μ) := (by show _ = rl1M (rlM i μ) i; unfold rl1M; rw [if_neg (fun q => Int32.not_lt.mpr c16 q.1)] <;> rfl)
          rw [q14] at hM
          exact ih2 (i + 1) (by omega) (by omega) _ _ _ hM hV hS ls (lv_sub hl [1, 0] rfl)
        · refine lv_aload_n hx hb dX5_ticks_19 rfl (lv_at hl 0 rfl) ?_
          refine m_get (C := RX5) (T := TX5) (N := 34) hx hb hts hi_X5 hown hK hV 21 (v := .ref (B 21)) (g_m21 hM) rfl (by decide) k69 (fun _ h9 => h9) dX5_ticks_20 ?_
          refine lv_iload_n hx hb dX5_ticks_23 rfl (lv_at hl 1 rfl) ?_
          refine m_zald hx hb hK hV 2 (i := nI i) (x := bI (kB (rlM i μ) 21 i)) (a_m21 hM) rfl (vp_in_nI (by omega) (by omega)) (by rw [nI_clamp (by omega)] <;> first | rfl | (show oI (va_up _ _ _ _) = _; rw [vu_s] <;> rfl) | (show va_up _ _ _ _ = _; rw [vu_s] <;> rfl)) dX5_ticks_24 ?_
          refine lv_if_ne (tgt := 104) hx hb dX5_ticks_25 (by decide) (fun c25 => ?_) (fun c25 => ?_)
          · replace c25 : kB (rlM i μ) 21 i = true := bI_1.mp c25
            refine lv_iinc (v := nI (i + 1)) (lv' := [(1, .int (nI (i + 1))), (0, .ref (B 100))]) hx hb dX5_ticks_104 hl (k := 1) rfl (show nI i + Int32.ofInt 1 = _ from nI_add i 1) (by decide) rfl (fun ls hl => ?_)
            refine lv_goto (tgt := 2) hx hb dX5_ticks_107 (by decide) ?_
            have q15 : (rlM i μ) = (rlM (i + 1) μ) := (by show _ = rl1M (rlM i μ) i; unfold rl1M; rw [if_neg (fun q => absurd q.2.1 (by rw [c25]; decide))] <;> rfl)
            rw [q15] at hM
            exact ih2 (i + 1) (by omega) (by omega) _ _ _ hM hV hS ls (lv_sub hl [1, 0] rfl)
          · replace c25 : kB (rlM i μ) 21 i = false := bI_0.mp c25
            refine lv_aload_n hx hb dX5_ticks_28 rfl (lv_at hl 0 rfl) ?_
            refine m_get (C := RX5) (T := TX5) (N := 34) hx hb hts hi_X5 hown hK hV 16 (v := .ref (B 16)) (g_m16 hM) rfl (by decide) k54 (fun _ h9 => h9) dX5_ticks_29 ?_
            refine lv_iload_n hx hb dX5_ticks_32 rfl (lv_at hl 1 rfl) ?_
            refine m_iald hx hb hK hV 0 (i := nI i) (x := (kI (rlM i μ) 16 i)) (a_m16 hM) rfl (vp_in_nI (by omega) (by omega)) (by rw [nI_clamp (by omega)] <;> first | rfl | (show oI (va_up _ _ _ _) = _; rw [vu_s] <;> rfl) | (show va_up _ _ _ _ = _; rw [vu_s] <;> rfl)) dX5_ticks_33 ?_
            refine lv_aload_n hx hb dX5_ticks_34 rfl (lv_at hl 0 rfl) ?_
            refine m_get (C := RX5) (T := TX5) (N := 34) hx hb hts hi_X5 hown hK hV 0 (v := .int (kI (rlM i μ) 0 0)) (by have z9 := g_m0 hM; exact z9) rfl (by decide) k129 (fun _ h9 => h9) dX5_ticks_35 ?_
            refine lv_icmp_ne (tgt := 104) hx hb dX5_ticks_38 (by decide) (fun c38 => ?_) (fun c38 => ?_)
            · refine lv_iinc (v := nI (i + 1)) (lv' := [(1, .int (nI (i + 1))), (0, .ref (B 100))]) hx hb dX5_ticks_104 hl (k := 1) rfl (show nI i + Int32.ofInt 1 = _ from nI_add i 1) (by decide) rfl (fun ls hl => ?_)
              refine lv_goto (tgt := 2) hx hb dX5_ticks_107 (by decide) ?_
              have q16 : (rlM i μ) = (rlM (i + 1) μ) := (by show _ = rl1M (rlM i μ) i; unfold rl1M; rw [if_neg (fun q => c38 q.2.2.1)] <;> rfl)
              rw [q16] at hM
              exact ih2 (i + 1) (by omega) (by omega) _ _ _ hM hV hS ls (lv_sub hl [1, 0] rfl)
            · refine lv_aload_n hx hb dX5_ticks_41 rfl (lv_at hl 0 rfl) ?_
              refine m_get (C := RX5) (T := TX5) (N := 34) hx hb hts hi_X5 hown hK hV 17 (v := .ref (B 17)) (g_m17 hM) rfl (by decide) k57 (fun _ h9 => h9) dX5_ticks_42 ?_
              refine lv_iload_n hx hb dX5_ticks_45 rfl (lv_at hl 1 rfl) ?_
              refine m_iald hx hb hK hV 0 (i := nI i) (x := (kI (rlM i μ) 17 i)) (a_m17 hM) rfl (vp_in_nI (by omega) (by omega)) (by rw [nI_clamp (by omega)] <;> first | rfl | (show oI (va_up _ _ _ _) = _; rw [vu_s] <;> rfl) | (show va_up _ _ _ _ = _; rw [vu_s] <;> rfl)) dX5_ticks_46 ?_
              refine lv_aload_n hx hb dX5_ticks_47 rfl (lv_at hl 0 rfl) ?_
              refine m_get (C := RX5) (T := TX5) (N := 34) hx hb hts hi_X5 hown hK hV 0 (v := .int (kI (rlM i μ) 0 0)) (by have z9 := g_m0 hM; exact z9) rfl (by decide) k129 (fun _ h9 => h9) dX5_ticks_48 ?_
              refine lv_icmp_eq (tgt := 104) hx hb dX5_ticks_51 (by decide) (fun c51 => ?_) (fun c51 => ?_)
              · refine lv_iinc (v := nI (i + 1)) (lv' := [(1, .int (nI (i + 1))), (0, .ref (B 100))]) hx hb dX5_ticks_104 hl (k := 1) rfl (show nI i + Int32.ofInt 1 = _ from nI_add i 1) (by decide) rfl (fun ls hl => ?_)
                refine lv_goto (tgt := 2) hx hb dX5_ticks_107 (by decide) ?_
                have q17 : (rlM i μ) = (rlM (i + 1) μ) := (by show _ = rl1M (rlM i μ) i; unfold rl1M; rw [if_neg (fun q => q.2.2.2 c51)] <;> rfl)
                rw [q17] at hM
                exact ih2 (i + 1) (by omega) (by omega) _ _ _ hM hV hS ls (lv_sub hl [1, 0] rfl)
              · refine lv_aload_n hx hb dX5_ticks_54 rfl (lv_at hl 0 rfl) ?_
                refine m_get (C := RX5) (T := TX5) (N := 34) hx hb hts hi_X5 hown hK hV 18 (v := .ref (B 18)) (g_m18 hM) rfl (by decide) k60 (fun _ h9 => h9) dX5_ticks_55 ?_
                refine lv_iload_n hx hb dX5_ticks_58 rfl (lv_at hl 1 rfl) ?_
                refine lv_dup2_11 hx hb dX5_ticks_59 rfl rfl ?_
                refine m_iald hx hb hK hV 0 (i := nI i) (x := (kI (rlM i μ) 18 i)) (a_m18 hM) rfl (vp_in_nI (by omega) (by omega)) (by rw [nI_clamp (by omega)] <;> first | rfl | (show oI (va_up _ _ _ _) = _; rw [vu_s] <;> rfl) | (show va_up _ _ _ _ = _; rw [vu_s] <;> rfl)) dX5_ticks_60 ?_
                refine lv_aload_n hx hb dX5_ticks_61 rfl (lv_at hl 0 rfl) ?_
                refine m_get (C := RX5) (T := TX5) (N := 34) hx hb hts hi_X5 hown hK hV 13 (v := .ref (B 13)) (g_m13 hM) rfl (by decide) k45 (fun _ h9 => h9) dX5_ticks_62 ?_
                refine lv_iload_n hx hb dX5_ticks_65 rfl (lv_at hl 1 rfl) ?_
                refine m_iald hx hb hK hV 0 (i := nI i) (x := (kI (rlM i μ) 13 i)) (a_m13 hM) rfl (vp_in_nI (by omega) (by omega)) (by rw [nI_clamp (by omega)] <;> first | rfl | (show oI (va_up _ _ _ _) = _; rw [vu_s] <;> rfl) | (show va_up _ _ _ _ = _; rw [vu_s] <;> rfl)) dX5_ticks_66 ?_
                refine lv_if_le (tgt := 74) hx hb dX5_ticks_67 (by decide) (fun c67 => ?_) (fun c67 => ?_)
                · refine lv_iconst (v := 0) hx hb dX5_ticks_74 (by decide) ?_
                  refine lv_iadd hx hb dX5_ticks_75 ?_
                  refine m_iast hx hb hK hV hS 0 (i := nI i) (x := ((kI (rlM i μ) 18 i) + 0)) (q_m18 hM (by omega) ((kI (rlM i μ) 18 i) + 0)) rfl (vp_in_nI (by omega) (by omega)) dX5_ticks_76 (fun h H locs hV hS hM => ?_)
                  refine lv_aload_n hx hb dX5_ticks_77 rfl (lv_at hl 0 rfl) ?_
                  refine m_get (C := RX5) (T := TX5) (N := 34) hx hb hts hi_X5 hown hK hV 13 (v := .ref (B 13)) (g_m13 hM) rfl (by decide) k45 (fun _ h9 => h9) dX5_ticks_78 ?_
                  refine lv_iload_n hx hb dX5_ticks_81 rfl (lv_at hl 1 rfl) ?_
                  refine lv_aload_n hx hb dX5_ticks_82 rfl (lv_at hl 0 rfl) ?_
                  refine m_get (C := RX5) (T := TX5) (N := 34) hx hb hts hi_X5 hown hK hV 15 (v := .ref (B 15)) (g_m15 hM) rfl (by decide) k51 (fun _ h9 => h9) dX5_ticks_83 ?_
                  refine lv_iload_n hx hb dX5_ticks_86 rfl (lv_at hl 1 rfl) ?_
                  refine m_iald hx hb hK hV 0 (i := nI i) (x := (kI (rlM i μ) 15 i)) (a_m15 hM) rfl (vp_in_nI (by omega) (by omega)) (by rw [nI_clamp (by omega)] <;> first | rfl | (show oI (va_up _ _ _ _) = _; rw [vu_s] <;> rfl) | (show va_up _ _ _ _ = _; rw [vu_s] <;> rfl)) dX5_ticks_87 ?_
                  refine m_iast hx hb hK hV hS 0 (i := nI i) (x := (kI (rlM i μ) 15 i)) (q_m13 hM (by omega) (kI (rlM i μ) 15 i)) rfl (vp_in_nI (by omega) (by omega)) dX5_ticks_88 (fun h H locs hV hS hM => ?_)
                  refine lv_aload_n hx hb dX5_ticks_89 rfl (lv_at hl 0 rfl) ?_
                  refine m_get (C := RX5) (T := TX5) (N := 34) hx hb hts hi_X5 hown hK hV 16 (v := .ref (B 16)) (g_m16 hM) rfl (by decide) k54 (fun _ h9 => h9) dX5_ticks_90 ?_
                  refine lv_iload_n hx hb dX5_ticks_93 rfl (lv_at hl 1 rfl) ?_
                  refine lv_dup2_11 hx hb dX5_ticks_94 rfl rfl ?_
                  refine m_iald hx hb hK hV 0 (i := nI i) (x := (kI (rlM i μ) 16 i)) (a_m16 hM) rfl (vp_in_nI (by omega) (by omega)) (by rw [nI_clamp (by omega)] <;> first | rfl | (show oI (va_up _ _ _ _) = _; rw [vu_s] <;> rfl) | (show va_up _ _ _ _ = _; rw [vu_s] <;> rfl)) dX5_ticks_95 ?_
                  refine lv_aload_n hx hb dX5_ticks_96 rfl (lv_at hl 0 rfl) ?_
                  refine m_get (C := RX5) (T := TX5) (N := 34) hx hb hts hi_X5 hown hK hV 14 (v := .ref (B 14)) (g_m14 hM) rfl (by decide) k48 (fun _ h9 => h9) dX5_ticks_97 ?_
                  refine lv_iload_n hx hb dX5_ticks_100 rfl (lv_at hl 1 rfl) ?_
                  refine m_iald hx hb hK hV 0 (i := nI i) (x := (kI (rlM i μ) 14 i)) (a_m14 hM) rfl (vp_in_nI (by omega) (by omega)) (by rw [nI_clamp (by omega)] <;> first | rfl | (show oI (va_up _ _ _ _) = _; rw [vu_s] <;> rfl) | (show va_up _ _ _ _ = _; rw [vu_s] <;> rfl)) dX5_ticks_101 ?_
                  refine lv_iadd hx hb dX5_ticks_102 ?_
                  refine m_iast hx hb hK hV hS 0 (i := nI i) (x := ((kI (rlM i μ) 16 i) + (kI (rlM i μ) 14 i))) (q_m16 hM (by omega) ((kI (rlM i μ) 16 i) + (kI (rlM i μ) 14 i))) rfl (vp_in_nI (by omega) (by omega)) dX5_ticks_103 (fun h H locs hV hS hM => ?_)
                  refine lv_iinc (v := nI (i + 1)) (lv' := [(1, .int (nI (i + 1))), (0, .ref (B 100))]) hx hb dX5_ticks_104 hl (k := 1) rfl (show nI i + Int32.ofInt 1 = _ from nI_add i 1) (by decide) rfl (fun ls hl => ?_)
                  refine lv_goto (tgt := 2) hx hb dX5_ticks_107 (by decide) ?_
                  have q18 : (sI (sI (sI (rlM i μ) 18 (va_up (kI (rlM i μ) 18) i ((kI (rlM i μ) 18 i) + 0))) 13 (va_up (kI (sI (rlM i μ) 18 (va_up (kI (rlM i μ) 18) i ((kI (rlM i μ) 18 i) + 0))) 13) i (kI (rlM i μ) 15 i))) 16 (va_up (kI (sI (sI (rlM i μ) 18 (va_up (kI (rlM i μ) 18) i ((kI (rlM i μ) 18 i) + 0))) 13 (va_up (kI (sI (rlM i μ) 18 (va_up (kI (rlM i μ) 18) i ((kI (rlM i μ) 18 i) + 0))) 13) i (kI (rlM i μ) 15 i))) 16) i ((kI (rlM i μ) 16 i) + (kI (rlM i μ) 14 i)))) = (rlM (i + 1) μ) := (by show _ = rl1M (rlM i μ) i; unfold rl1M; rw [if_pos ⟨Int32.not_le.mp c16, c25, c38, c51⟩, if_neg (Int32.not_lt.mpr c67)] <;> rfl)
                  rw [q18] at hM
                  exact ih2 (i + 1) (by omega) (by omega) _ _ _ hM hV hS ls (lv_sub hl [1, 0] rfl)
                · refine lv_iconst (v := 1) hx hb dX5_ticks_70 (by decide) ?_
                  refine lv_goto (tgt := 75) hx hb dX5_ticks_71 (by decide) ?_
                  refine lv_iadd hx hb dX5_ticks_75 ?_
                  refine m_iast hx hb hK hV hS 0 (i := nI i) (x := ((kI (rlM i μ) 18 i) + 1)) (q_m18 hM (by omega) ((kI (rlM i μ) 18 i) + 1)) rfl (vp_in_nI (by omega) (by omega)) dX5_ticks_76 (fun h H locs hV hS hM => ?_)
                  refine lv_aload_n hx hb dX5_ticks_77 rfl (lv_at hl 0 rfl) ?_
                  refine m_get (C := RX5) (T := TX5) (N := 34) hx hb hts hi_X5 hown hK hV 13 (v := .ref (B 13)) (g_m13 hM) rfl (by decide) k45 (fun _ h9 => h9) dX5_ticks_78 ?_
                  refine lv_iload_n hx hb dX5_ticks_81 rfl (lv_at hl 1 rfl) ?_
                  refine lv_aload_n hx hb dX5_ticks_82 rfl (lv_at hl 0 rfl) ?_
                  refine m_get (C := RX5) (T := TX5) (N := 34) hx hb hts hi_X5 hown hK hV 15 (v := .ref (B 15)) (g_m15 hM) rfl (by decide) k51 (fun _ h9 => h9) dX5_ticks_83 ?_
                  refine lv_iload_n hx hb dX5_ticks_86 rfl (lv_at hl 1 rfl) ?_
                  refine m_iald hx hb hK hV 0 (i := nI i) (x := (kI (rlM i μ) 15 i)) (a_m15 hM) rfl (vp_in_nI (by omega) (by omega)) (by rw [nI_clamp (by omega)] <;> first | rfl | (show oI (va_up _ _ _ _) = _; rw [vu_s] <;> rfl) | (show va_up _ _ _ _ = _; rw [vu_s] <;> rfl)) dX5_ticks_87 ?_
                  refine m_iast hx hb hK hV hS 0 (i := nI i) (x := (kI (rlM i μ) 15 i)) (q_m13 hM (by omega) (kI (rlM i μ) 15 i)) rfl (vp_in_nI (by omega) (by omega)) dX5_ticks_88 (fun h H locs hV hS hM => ?_)
                  refine lv_aload_n hx hb dX5_ticks_89 rfl (lv_at hl 0 rfl) ?_
                  refine m_get (C := RX5) (T := TX5) (N := 34) hx hb hts hi_X5 hown hK hV 16 (v := .ref (B 16)) (g_m16 hM) rfl (by decide) k54 (fun _ h9 => h9) dX5_ticks_90 ?_
                  refine lv_iload_n hx hb dX5_ticks_93 rfl (lv_at hl 1 rfl) ?_
                  refine lv_dup2_11 hx hb dX5_ticks_94 rfl rfl ?_
                  refine m_iald hx hb hK hV 0 (i := nI i) (x := (kI (rlM i μ) 16 i)) (a_m16 hM) rfl (vp_in_nI (by omega) (by omega)) (by rw [nI_clamp (by omega)] <;> first | rfl | (show oI (va_up _ _ _ _) = _; rw [vu_s] <;> rfl) | (show va_up _ _ _ _ = _; rw [vu_s] <;> rfl)) dX5_ticks_95 ?_
                  refine lv_aload_n hx hb dX5_ticks_96 rfl (lv_at hl 0 rfl) ?_
                  refine m_get (C := RX5) (T := TX5) (N := 34) hx hb hts hi_X5 hown hK hV 14 (v := .ref (B 14)) (g_m14 hM) rfl (by decide) k48 (fun _ h9 => h9) dX5_ticks_97 ?_
                  refine lv_iload_n hx hb dX5_ticks_100 rfl (lv_at hl 1 rfl) ?_
                  refine m_iald hx hb hK hV 0 (i := nI i) (x := (kI (rlM i μ) 14 i)) (a_m14 hM) rfl (vp_in_nI (by omega) (by omega)) (by rw [nI_clamp (by omega)] <;> first | rfl | (show oI (va_up _ _ _ _) = _; rw [vu_s] <;> rfl) | (show va_up _ _ _ _ = _; rw [vu_s] <;> rfl)) dX5_ticks_101 ?_
                  refine lv_iadd hx hb dX5_ticks_102 ?_
                  refine m_iast hx hb hK hV hS 0 (i := nI i) (x := ((kI (rlM i μ) 16 i) + (kI (rlM i μ) 14 i))) (q_m16 hM (by omega) ((kI (rlM i μ) 16 i) + (kI (rlM i μ) 14 i))) rfl (vp_in_nI (by omega) (by omega)) dX5_ticks_103 (fun h H locs hV hS hM => ?_)
                  refine lv_iinc (v := nI (i + 1)) (lv' := [(1, .int (nI (i + 1))), (0, .ref (B 100))]) hx hb dX5_ticks_104 hl (k := 1) rfl (show nI i + Int32.ofInt 1 = _ from nI_add i 1) (by decide) rfl (fun ls hl => ?_)
                  refine lv_goto (tgt := 2) hx hb dX5_ticks_107 (by decide) ?_
                  have q19 : (sI (sI (sI (rlM i μ) 18 (va_up (kI (rlM i μ) 18) i ((kI (rlM i μ) 18 i) + 1))) 13 (va_up (kI (sI (rlM i μ) 18 (va_up (kI (rlM i μ) 18) i ((kI (rlM i μ) 18 i) + 1))) 13) i (kI (rlM i μ) 15 i))) 16 (va_up (kI (sI (sI (rlM i μ) 18 (va_up (kI (rlM i μ) 18) i ((kI (rlM i μ) 18 i) + 1))) 13 (va_up (kI (sI (rlM i μ) 18 (va_up (kI (rlM i μ) 18) i ((kI (rlM i μ) 18 i) + 1))) 13) i (kI (rlM i μ) 15 i))) 16) i ((kI (rlM i μ) 16 i) + (kI (rlM i μ) 14 i)))) = (rlM (i + 1) μ) := (by show _ = rl1M (rlM i μ) i; unfold rl1M; rw [if_pos ⟨Int32.not_le.mp c16, c25, c38, c51⟩, if_pos (Int32.not_le.mp c67)] <;> rfl)
                  rw [q19] at hM
                  exact ih2 (i + 1) (by omega) (by omega) _ _ _ hM hV hS ls (lv_sub hl [1, 0] rfl)
  have q20 : μ = (rlM 0 μ) := rfl
  rw [q20] at hM
  have q21 : 0 = nI 0 := rfl
  replace hl : lv_has ls 4 [(1, .int (nI 0)), (0, .ref (B 100))] := (congrArg (lv_has ls 4) (m_lc (congrArg Value.int q21) (m_lc rfl rfl))).mp hl
  exact lp2 ((kN μ 24 0 - 0) + 1) 0 (Nat.zero_le _) (Nat.lt_succ_self _) _ _ _ hM hV hS ls (lv_sub hl [1, 0] rfl)
set_option maxHeartbeats 4000000 in
set_option maxRecDepth 100000 in
theorem c_X5_pass {l : Launch} {D : va_G} {cs : mC} {df : Nat} {P : Nat → Prop} {h0 : mH} {B : Nat → Nat} {μ : KS} {hh : mH} (sz : Nat) (hM : DRep cs P h0 B μ hh) (x0 : Int32) (hdI : dI μ) : Met l yX5_pass wsX5_pass ({ frames := 11, cells := 0, slots := 0, locals := 265 }) (mPre [.ref (B 100), .int x0] D cs df hh sz) (va_Qi ((fun (r : Int32) (h1 : mH) => ∃ μ1 : KS, DRep cs P h0 B μ1 h1 ∧ om_pass μ x0 r μ1)) (mB D hh sz) (mA hh sz)) 0 0 (mA hh sz) := by
  refine Met.ofW (cc := cX5_pass) (maxL := 4) (ret := (some .int)) (by decide) rfl ?_
  intro p e s m args below meth c s₁ B0 hml hv
  obtain ⟨hargs, hsz, hV, hE⟩ := hv
  subst hsz
  have hx := B0.exec
  have hb := B0.bytes
  have hr := B0.returns
  have hlocks := B0.notSynchronized
  have hts := atoms_spec (ws := wsX5_pass) B0.pre
  have hown : s.vm.findClass RX5 = some m.cls := findClass_of_methodNamed B0.named
  have hK := hE.1.1
  have hA : ∀ q : Nat, s.heap.size ≤ q → mA hh s.heap.size q := mA.top
  have hS : va_S (mA hh s.heap.size) s.heap s.heap [] := va_S.rf
  have kk217 : (Cond.constantLong RX5 217 (50)).before args s = true := hts _ (by decide +kernel)
  have hi_X5 : ∀ w ∈ u_ws RX5 TX5 34, w ∈ wsX5_pass := by decide +kernel
  have k129 : (Cond.fieldLink RX5 129 "TaskKernelModel" "now" "I").before args s = true := hts _ (by decide +kernel)
  have k91 : (Cond.fieldLink RX5 91 "TaskKernelModel" "thrown" "I").before args s = true := hts _ (by decide +kernel)
  have hl := lv_entry ([.ref (B 100), .int x0]) (n := 4) (by first | exact Nat.le_of_ble_eq_true rfl | simp [lg_sl, rf_cat, ct_ref, ct_int, ct_null, ct_long])
  have hent := lg_entry_eq m ([.ref (B 100), .int x0]) 4
  rw [← hargs] at hent
  rw [hent]
  generalize (lg_sl ([.ref (B 100), .int x0]) ++ List.replicate (4 - (lg_sl ([.ref (B 100), .int x0])).length) Slot.unset).toArray = ls at hl ⊢
  replace hl : lv_has ls 4 [(0, .ref (B 100)), (1, .int x0)] := hl
  have hwf := hM.wf
  obtain ⟨⟨y0, y1, y2, y3⟩, y4, y5, y6, y7⟩ := hwf
  refine lv_aload_n hx hb dX5_pass_0 rfl (lv_at hl 0 rfl) ?_
  refine lv_iload_n hx hb dX5_pass_1 rfl (lv_at hl 1 rfl) ?_
  refine lv_i2l (v := (x0).toInt64) hx hb dX5_pass_2 rfl ?_
  refine lv_lconst (v := 1) hx hb dX5_pass_3 (by decide) ?_
  refine lv_ldc2 (v := 50) hx hb hown kk217 dX5_pass_4 ?_
  refine m_calli (va_runS (As := [.long ((x0).toInt64), .long 1, .long 50]) (rest := [.ref (B 100)]) ⟨hx, hb, hml, hown, hts⟩ (c_X5_in (l := l) (D := D) (cs := cs) (df := df) (hh := hh) (s.heap.size) ((x0).toInt64) 1 50) (va_cwS 3 hts gX5_pass_X5_in rfl rfl rfl (by decide +kernel) ⟨by decide, by decide⟩) (m_preS hE hV hS hA) rfl rfl hl.1 rfl (lv_room (by first | exact Nat.le_of_ble_eq_true rfl | simp [rf_cat, ct_ref, ct_int, ct_null, ct_long])) dX5_pass_7 ⟨by decide, by decide⟩) hV hS hA (fun r h1 H locs hV hS hp _ => ?_)
  obtain ⟨e1, e2⟩ := hp
  subst e2
  rw [e1] at hV; clear e1
  refine m_topi (y := bI (rg x0 1 50)) (congrArg bI (inL_rg (by decide) (by decide))) ?_
  refine lv_if_ne (tgt := 17) hx hb dX5_pass_10 (by decide) (fun c10 => ?_) (fun c10 => ?_)
  · replace c10 : (rg x0 1 50) = true := bI_1.mp c10
    refine lv_aload_n hx hb dX5_pass_17 rfl (lv_at hl 0 rfl) ?_
    refine m_get (C := RX5) (T := TX5) (N := 34) hx hb hts hi_X5 hown hK hV 0 (v := .int (kI μ 0 0)) (by have z9 := g_m0 hM; exact z9) rfl (by decide) k129 (fun _ h9 => h9) dX5_pass_18 ?_
    refine lv_iload_n hx hb dX5_pass_21 rfl (lv_at hl 1 rfl) ?_
    refine lv_iadd hx hb dX5_pass_22 ?_
    refine lv_sipush (v := 900) hx hb dX5_pass_23 (by decide) ?_
    refine lv_icmp_le (tgt := 33) hx hb dX5_pass_26 (by decide) (fun c26 => ?_) (fun c26 => ?_)
    · refine lv_iconst (v := 0) hx hb dX5_pass_33 (by decide) ?_
      refine m_put (C := RX5) (T := TX5) (N := 34) (v := .int 0) hx hb hts hi_X5 tyX5 tyX5_ok nmX5 hown hK hV hS 33 (p_m33 hM 0) rfl (by decide) k91 (fun _ h9 => h9) rfl (tyX5_ok 33 (by decide)) rfl rfl dX5_pass_34 (fun h H locs hV hS hM => ?_)
      refine lv_aload_n hx hb dX5_pass_37 rfl (lv_at hl 0 rfl) ?_
      refine m_get (C := RX5) (T := TX5) (N := 34) hx hb hts hi_X5 hown hK hV 33 (v := .int 0) (by have z9 := g_m33 hM; exact z9) rfl (by decide) k91 (fun _ h9 => h9) dX5_pass_38 ?_
      refine lv_if_le (tgt := 46) hx hb dX5_pass_41 (by decide) (fun c41 => ?_) (fun c41 => (absurd (by decide) c41))
      have c11 := of_decide_eq_true c10
      obtain ⟨n, hn0, e0, hn⟩ := inR_mid (x := x0) (n := 51) (by decide) (fun z => absurd (Int32.le_trans c11.1 (Int32.le_of_lt z)) (by decide)) (fun z => absurd (Int32.le_trans z c11.2) (by decide))
      rw [e0] at hl
      have hn1 : 1 ≤ n := by
        rcases Nat.eq_zero_or_pos n with z | z
        · exact absurd c11.1 (by rw [e0, z]; decide)
        · exact z
      refine lv_iconst (v := 0) hx hb dX5_pass_46 (by decide) ?_
      refine lv_istore_n (lv' := [(2, .int 0), (0, .ref (B 100)), (1, .int (nI n))]) hx hb dX5_pass_47 rfl hl (by decide) rfl (fun ls hl => ?_)
      refine lv_iconst (v := 0) hx hb dX5_pass_48 (by decide) ?_
      refine lv_istore_n (lv' := [(3, .int 0), (2, .int 0), (0, .ref (B 100)), (1, .int (nI n))]) hx hb dX5_pass_49 rfl hl (by decide) rfl (fun ls hl => ?_)
      have lp50 : ∀ (fu : Nat) (i : Nat), (i ≤ n) → n - i < fu → ∀ (h : mH) (H : Heap) (locs : List Loc), DRep cs P h0 B ((tnM (thS μ 0) i).2) h → mV D h (mA hh s.heap.size) H → va_S (mA hh s.heap.size) s.heap H locs → ∀ (ls : Array Slot), lv_has ls 4 [(0, .ref (B 100)), (1, .int (nI n)), (2, .int ((tnM (thS μ 0) i).1)), (3, .int (nI i))] → W p l e ({ frames := 11, cells := 0, slots := 0, locals := 265 } : Room) s m args below meth c H locs 0 0 (MQ below (va_Qi ((fun (r : Int32) (h1 : mH) => ∃ μ1 : KS, DRep cs P h0 B μ1 h1 ∧ om_pass μ x0 r μ1)) (mB D hh s.heap.size) (mA hh s.heap.size)) args s 0 0 (mA hh s.heap.size)) (F0 m 50 ls []) := by
        intro fu
        induction fu with
        | zero =>
          intro i hi hfu
          exact absurd hfu (Nat.not_lt_zero _)
        | succ fu ih50 =>
          intro i hi hfu h H locs hM hV hS ls hl
          refine lv_iload_n hx hb dX5_pass_50 rfl (lv_at hl 3 rfl) ?_
          refine lv_iload_n hx hb dX5_pass_51 rfl (lv_at hl 1 rfl) ?_
          refine lv_icmp_ge (tgt := 68) hx hb dX5_pass_52 (by decide) (fun c52 => ?_) (fun c52 => ?_)
          · replace c52 : n ≤ i := (nI_leI (a := n) (b := i) (by omega) (by omega)).mp c52
            refine lv_iload_n hx hb dX5_pass_68 rfl (lv_at hl 2 rfl) ?_
            exact m_iret (v := ((tnM (thS μ 0) i).1)) hx hb hr hlocks hV hS (⟨_, (by rw [show i = n by omega] at hM; exact hM), Or.inr (Or.inr ⟨n, hn0, hn1, c26, rfl, by rw [show i = n by omega]⟩)⟩) dX5_pass_69
          · replace c52 : ¬ n ≤ i := fun q9 => c52 ((nI_leI (a := n) (b := i) (by omega) (by omega)).mpr q9)
            refine lv_iload_n hx hb dX5_pass_55 rfl (lv_at hl 2 rfl) ?_
            refine lv_aload_n hx hb dX5_pass_56 rfl (lv_at hl 0 rfl) ?_
            refine m_calli (va_runV (As := []) (rest := [.int ((tnM (thS μ 0) i).1)]) ⟨hx, hb, hml, hown, hts⟩ (c_X5_ticks (l := l) (H.size) hM (hdI.fr (fr.tr (ν := thS μ 0) ⟨rfl, rfl, rfl, fun _ _ h => Or.inl h⟩ (tnM_fr (thS μ 0) (by show kN μ 3 0 ≤ 3; omega) _)))) (cwV 0 hts gX5_pass_X5_ticks rfl rfl rfl (by decide +kernel) ⟨by decide, by decide⟩) (m_preV (r := (RX5, TX5, 34)) hE hV hS hA (hM.at 100 (by decide)) rfl) rfl rfl hl.1 rfl (lv_room (by first | exact Nat.le_of_ble_eq_true rfl | simp [rf_cat, ct_ref, ct_int, ct_null, ct_long])) dX5_pass_57 ⟨by decide, by decide⟩) hV hS hA (fun r h H locs hV hS hp _ => ?_)
            obtain ⟨hM, e2⟩ := hp
            subst e2
            refine lv_iadd hx hb dX5_pass_60 ?_
            refine lv_istore_n (lv' := [(2, .int (((tnM (thS μ 0) i).1) + ((tkM ((tnM (thS μ 0) i).2)).1))), (0, .ref (B 100)), (1, .int (nI n)), (3, .int (nI i))]) hx hb dX5_pass_61 rfl hl (by decide) rfl (fun ls hl => ?_)
            refine lv_iinc (v := nI (i + 1)) (lv' := [(3, .int (nI (i + 1))), (2, .int (((tnM (thS μ 0) i).1) + ((tkM ((tnM (thS μ 0) i).2)).1))), (0, .ref (B 100)), (1, .int (nI n))]) hx hb dX5_pass_62 hl (k := 3) rfl (show nI i + Int32.ofInt 1 = _ from nI_add i 1) (by decide) rfl (fun ls hl => ?_)
            refine lv_goto (tgt := 50) hx hb dX5_pass_65 (by decide) ?_
            have q1 : (tkM ((tnM (thS μ 0) i).2)).2 = (tnM (thS μ 0) (i + 1)).2 := rfl
            rw [q1] at hM
            have q2 : (((tnM (thS μ 0) i).1) + ((tkM ((tnM (thS μ 0) i).2)).1)) = ((tnM (thS μ 0) (i + 1)).1) := rfl
            replace hl : lv_has ls 4 [(3, .int (nI (i + 1))), (2, .int ((tnM (thS μ 0) (i + 1)).1)), (0, .ref (B 100)), (1, .int (nI n))] := (congrArg (lv_has ls 4) (m_lc rfl (m_lc (congrArg Value.int q2) (m_lc rfl (m_lc rfl rfl))))).mp hl
            exact ih50 (i + 1) (by omega) (by omega) _ _ _ hM hV hS ls (lv_sub hl [2, 3, 1, 0] rfl)
      have q3 : (sI μ 33 (va_up (kI μ 33) 0 0)) = (tnM (thS μ 0) 0).2 := rfl
      rw [q3] at hM
      have q4 : 0 = ((tnM (thS μ 0) 0).1) := rfl
      have q5 : 0 = nI 0 := rfl
      replace hl : lv_has ls 4 [(3, .int (nI 0)), (2, .int ((tnM (thS μ 0) 0).1)), (0, .ref (B 100)), (1, .int (nI n))] := (congrArg (lv_has ls 4) (m_lc (congrArg Value.int q5) (m_lc (congrArg Value.int q4) (m_lc rfl (m_lc rfl rfl))))).mp hl
      exact lp50 ((n - 0) + 1) 0 (Nat.zero_le _) (Nat.lt_succ_self _) _ _ _ hM hV hS ls (lv_sub hl [2, 3, 1, 0] rfl)
    · refine lv_iconst (v := 2) hx hb dX5_pass_29 (by decide) ?_
      refine lv_goto (tgt := 34) hx hb dX5_pass_30 (by decide) ?_
      refine m_put (C := RX5) (T := TX5) (N := 34) (v := .int 2) hx hb hts hi_X5 tyX5 tyX5_ok nmX5 hown hK hV hS 33 (p_m33 hM 2) rfl (by decide) k91 (fun _ h9 => h9) rfl (tyX5_ok 33 (by decide)) rfl rfl dX5_pass_34 (fun h H locs hV hS hM => ?_)
      refine lv_aload_n hx hb dX5_pass_37 rfl (lv_at hl 0 rfl) ?_
      refine m_get (C := RX5) (T := TX5) (N := 34) hx hb hts hi_X5 hown hK hV 33 (v := .int 2) (by have z9 := g_m33 hM; exact z9) rfl (by decide) k91 (fun _ h9 => h9) dX5_pass_38 ?_
      refine lv_if_le (tgt := 46) hx hb dX5_pass_41 (by decide) (fun c41 => (absurd c41 (by decide))) (fun c41 => ?_)
      refine lv_iconst (v := (-1)) hx hb dX5_pass_44 (by decide) ?_
      exact m_iret (v := (-1)) hx hb hr hlocks hV hS (⟨_, hM, Or.inr (Or.inl ⟨c10, c26, rfl⟩)⟩) dX5_pass_45
  · replace c10 : (rg x0 1 50) = false := bI_0.mp c10
    refine lv_iconst (v := 1) hx hb dX5_pass_13 (by decide) ?_
    refine lv_goto (tgt := 34) hx hb dX5_pass_14 (by decide) ?_
    refine m_put (C := RX5) (T := TX5) (N := 34) (v := .int 1) hx hb hts hi_X5 tyX5 tyX5_ok nmX5 hown hK hV hS 33 (p_m33 hM 1) rfl (by decide) k91 (fun _ h9 => h9) rfl (tyX5_ok 33 (by decide)) rfl rfl dX5_pass_34 (fun h H locs hV hS hM => ?_)
    refine lv_aload_n hx hb dX5_pass_37 rfl (lv_at hl 0 rfl) ?_
    refine m_get (C := RX5) (T := TX5) (N := 34) hx hb hts hi_X5 hown hK hV 33 (v := .int 1) (by have z9 := g_m33 hM; exact z9) rfl (by decide) k91 (fun _ h9 => h9) dX5_pass_38 ?_
    refine lv_if_le (tgt := 46) hx hb dX5_pass_41 (by decide) (fun c41 => (absurd c41 (by decide))) (fun c41 => ?_)
    refine lv_iconst (v := (-1)) hx hb dX5_pass_44 (by decide) ?_
    exact m_iret (v := (-1)) hx hb hr hlocks hV hS (⟨_, hM, Or.inl ⟨c10, rfl⟩⟩) dX5_pass_45
set_option maxHeartbeats 4000000 in
set_option maxRecDepth 100000 in
theorem c_X5_usedShare {l : Launch} {D : va_G} {cs : mC} {df : Nat} {P : Nat → Prop} {h0 : mH} {B : Nat → Nat} {μ : KS} {hh : mH} (sz : Nat) (hM : DRep cs P h0 B μ hh) (hnn : ¬ kI μ 29 0 = 0 → vf_n32 (FP.fdiv (FP.i2f (kI μ 28 0)) (FP.i2f (kI μ 29 0)))) : Met l yX5_usedShare wsX5_usedShare ({ frames := 0, cells := 0, slots := 0, locals := 0 }) (mPre [.ref (B 100)] D cs df hh sz) (va_Qf ((fun (r : UInt32) (h1 : mH) => ∃ μ1 : KS, DRep cs P h0 B μ1 h1 ∧ om_usedShare μ r μ1)) (mB D hh sz) (mA hh sz)) 0 0 (mA hh sz) := by
  refine Met.ofW (cc := cX5_usedShare) (maxL := 1) (ret := (some .float)) (by decide) rfl ?_
  intro p e s m args below meth c s₁ B0 hml hv
  obtain ⟨hargs, hsz, hV, hE⟩ := hv
  subst hsz
  have hx := B0.exec
  have hb := B0.bytes
  have hr := B0.returns
  have hlocks := B0.notSynchronized
  have hts := atoms_spec (ws := wsX5_usedShare) B0.pre
  have hown : s.vm.findClass RX5 = some m.cls := findClass_of_methodNamed B0.named
  have hK := hE.1.1
  have hA : ∀ q : Nat, s.heap.size ≤ q → mA hh s.heap.size q := mA.top
  have hS : va_S (mA hh s.heap.size) s.heap s.heap [] := va_S.rf
  have hi_X5 : ∀ w ∈ u_ws RX5 TX5 34, w ∈ wsX5_usedShare := by decide +kernel
  have k214 : (Cond.fieldLink RX5 214 "TaskKernelModel" "offered" "I").before args s = true := hts _ (by decide +kernel)
  have k91 : (Cond.fieldLink RX5 91 "TaskKernelModel" "thrown" "I").before args s = true := hts _ (by decide +kernel)
  have k211 : (Cond.fieldLink RX5 211 "TaskKernelModel" "used" "I").before args s = true := hts _ (by decide +kernel)
  have hl := lv_entry ([.ref (B 100)]) (n := 1) (by first | exact Nat.le_of_ble_eq_true rfl | simp [lg_sl, rf_cat, ct_ref, ct_int, ct_null, ct_long])
  have hent := lg_entry_eq m ([.ref (B 100)]) 1
  rw [← hargs] at hent
  rw [hent]
  generalize (lg_sl ([.ref (B 100)]) ++ List.replicate (1 - (lg_sl ([.ref (B 100)])).length) Slot.unset).toArray = ls at hl ⊢
  replace hl : lv_has ls 1 [(0, .ref (B 100))] := hl
  have hwf := hM.wf
  obtain ⟨⟨y0, y1, y2, y3⟩, y4, y5, y6, y7⟩ := hwf
  refine lv_aload_n hx hb dX5_usedShare_0 rfl (lv_at hl 0 rfl) ?_
  refine lv_aload_n hx hb dX5_usedShare_1 rfl (lv_at hl 0 rfl) ?_
  refine m_get (C := RX5) (T := TX5) (N := 34) hx hb hts hi_X5 hown hK hV 29 (v := .int (kI μ 29 0)) (by have z9 := g_m29 hM; exact z9) rfl (by decide) k214 (fun _ h9 => h9) dX5_usedShare_2 ?_
  refine lv_if_ne (tgt := 12) hx hb dX5_usedShare_5 (by decide) (fun c5 => ?_) (fun c5 => ?_)
  · refine lv_iconst (v := 0) hx hb dX5_usedShare_12 (by decide) ?_
    refine m_put (C := RX5) (T := TX5) (N := 34) (v := .int 0) hx hb hts hi_X5 tyX5 tyX5_ok nmX5 hown hK hV hS 33 (p_m33 hM 0) rfl (by decide) k91 (fun _ h9 => h9) rfl (tyX5_ok 33 (by decide)) rfl rfl dX5_usedShare_13 (fun h H locs hV hS hM => ?_)
    refine lv_aload_n hx hb dX5_usedShare_16 rfl (lv_at hl 0 rfl) ?_
    refine m_get (C := RX5) (T := TX5) (N := 34) hx hb hts hi_X5 hown hK hV 33 (v := .int 0) (by have z9 := g_m33 hM; exact z9) rfl (by decide) k91 (fun _ h9 => h9) dX5_usedShare_17 ?_
    refine lv_if_ne (tgt := 37) hx hb dX5_usedShare_20 (by decide) (fun c20 => (absurd (by decide) c20)) (fun c20 => ?_)
    refine lv_aload_n hx hb dX5_usedShare_23 rfl (lv_at hl 0 rfl) ?_
    refine m_get (C := RX5) (T := TX5) (N := 34) hx hb hts hi_X5 hown hK hV 28 (v := .int (kI μ 28 0)) (by have z9 := g_m28 hM; exact z9) rfl (by decide) k211 (fun _ h9 => h9) dX5_usedShare_24 ?_
    refine lv_i2f hx hb dX5_usedShare_27 ?_
    refine lv_aload_n hx hb dX5_usedShare_28 rfl (lv_at hl 0 rfl) ?_
    refine m_get (C := RX5) (T := TX5) (N := 34) hx hb hts hi_X5 hown hK hV 29 (v := .int (kI μ 29 0)) (by have z9 := g_m29 hM; exact z9) rfl (by decide) k214 (fun _ h9 => h9) dX5_usedShare_29 ?_
    refine lv_i2f hx hb dX5_usedShare_32 ?_
    refine lv_fdiv hx hb dX5_usedShare_33 (hnn c5) ?_
    refine lv_goto (tgt := 38) hx hb dX5_usedShare_34 (by decide) ?_
    exact m_fret (v := (FP.fdiv (FP.i2f (kI μ 28 0)) (FP.i2f (kI μ 29 0)))) hx hb hr hlocks hV hS (⟨_, hM, Or.inr ⟨c5, rfl, rfl⟩⟩) dX5_usedShare_38
  · refine lv_iconst (v := 1) hx hb dX5_usedShare_8 (by decide) ?_
    refine lv_goto (tgt := 13) hx hb dX5_usedShare_9 (by decide) ?_
    refine m_put (C := RX5) (T := TX5) (N := 34) (v := .int 1) hx hb hts hi_X5 tyX5 tyX5_ok nmX5 hown hK hV hS 33 (p_m33 hM 1) rfl (by decide) k91 (fun _ h9 => h9) rfl (tyX5_ok 33 (by decide)) rfl rfl dX5_usedShare_13 (fun h H locs hV hS hM => ?_)
    refine lv_aload_n hx hb dX5_usedShare_16 rfl (lv_at hl 0 rfl) ?_
    refine m_get (C := RX5) (T := TX5) (N := 34) hx hb hts hi_X5 hown hK hV 33 (v := .int 1) (by have z9 := g_m33 hM; exact z9) rfl (by decide) k91 (fun _ h9 => h9) dX5_usedShare_17 ?_
    refine lv_if_ne (tgt := 37) hx hb dX5_usedShare_20 (by decide) (fun c20 => ?_) (fun c20 => (absurd c20 (by decide)))
    refine lv_fconst0 hx hb dX5_usedShare_37 ?_
    exact m_fret (v := 0) hx hb hr hlocks hV hS (⟨_, hM, Or.inl ⟨c5, rfl⟩⟩) dX5_usedShare_38
set_option maxHeartbeats 4000000 in
set_option maxRecDepth 100000 in
theorem c_X5_meanHeat {l : Launch} {D : va_G} {cs : mC} {df : Nat} {P : Nat → Prop} {h0 : mH} {B : Nat → Nat} {μ : KS} {hh : mH} (sz : Nat) (hM : DRep cs P h0 B μ hh) (hnn : ¬ kN μ 3 0 = 0 → vf_n64 (FP.ddiv (FP.i2d (sumI (fun c => kI μ 2 c) (kN μ 3 0))) (FP.i2d (nI (kN μ 3 0))))) : Met l yX5_meanHeat wsX5_meanHeat ({ frames := 0, cells := 0, slots := 0, locals := 0 }) (mPre [.ref (B 100)] D cs df hh sz) (va_Qd ((fun (r : UInt64) (h1 : mH) => ∃ μ1 : KS, DRep cs P h0 B μ1 h1 ∧ om_meanHeat μ r μ1)) (mB D hh sz) (mA hh sz)) 0 0 (mA hh sz) := by
  refine Met.ofW (cc := cX5_meanHeat) (maxL := 3) (ret := (some .double)) (by decide) rfl ?_
  intro p e s m args below meth c s₁ B0 hml hv
  obtain ⟨hargs, hsz, hV, hE⟩ := hv
  subst hsz
  have hx := B0.exec
  have hb := B0.bytes
  have hr := B0.returns
  have hlocks := B0.notSynchronized
  have hts := atoms_spec (ws := wsX5_meanHeat) B0.pre
  have hown : s.vm.findClass RX5 = some m.cls := findClass_of_methodNamed B0.named
  have hK := hE.1.1
  have hA : ∀ q : Nat, s.heap.size ≤ q → mA hh s.heap.size q := mA.top
  have hS : va_S (mA hh s.heap.size) s.heap s.heap [] := va_S.rf
  have hi_X5 : ∀ w ∈ u_ws RX5 TX5 34, w ∈ wsX5_meanHeat := by decide +kernel
  have k100 : (Cond.fieldLink RX5 100 "TaskKernelModel" "cores" "I").before args s = true := hts _ (by decide +kernel)
  have k91 : (Cond.fieldLink RX5 91 "TaskKernelModel" "thrown" "I").before args s = true := hts _ (by decide +kernel)
  have k13 : (Cond.fieldLink RX5 13 "TaskKernelModel" "heats" "[I").before args s = true := hts _ (by decide +kernel)
  have hl := lv_entry ([.ref (B 100)]) (n := 3) (by first | exact Nat.le_of_ble_eq_true rfl | simp [lg_sl, rf_cat, ct_ref, ct_int, ct_null, ct_long])
  have hent := lg_entry_eq m ([.ref (B 100)]) 3
  rw [← hargs] at hent
  rw [hent]
  generalize (lg_sl ([.ref (B 100)]) ++ List.replicate (3 - (lg_sl ([.ref (B 100)])).length) Slot.unset).toArray = ls at hl ⊢
  replace hl : lv_has ls 3 [(0, .ref (B 100))] := hl
  have hwf := hM.wf
  obtain ⟨⟨y0, y1, y2, y3⟩, y4, y5, y6, y7⟩ := hwf
  refine lv_iconst (v := 0) hx hb dX5_meanHeat_0 (by decide) ?_
  refine lv_istore_n (lv' := [(1, .int 0), (0, .ref (B 100))]) hx hb dX5_meanHeat_1 rfl hl (by decide) rfl (fun ls hl => ?_)
  refine lv_iconst (v := 0) hx hb dX5_meanHeat_2 (by decide) ?_
  refine lv_istore_n (lv' := [(2, .int 0), (1, .int 0), (0, .ref (B 100))]) hx hb dX5_meanHeat_3 rfl hl (by decide) rfl (fun ls hl => ?_)
  have lp4 : ∀ (fu : Nat) (i : Nat), (i ≤ kN μ 3 0) → kN μ 3 0 - i < fu → ∀ (h : mH) (H : Heap) (locs : List Loc), DRep cs P h0 B μ h → mV D h (mA hh s.heap.size) H → va_S (mA hh s.heap.size) s.heap H locs → ∀ (ls : Array Slot), lv_has ls 3 [(0, .ref (B 100)), (1, .int (sumI (fun c => kI μ 2 c) i)), (2, .int (nI i))] → W p l e ({ frames := 0, cells := 0, slots := 0, locals := 0 } : Room) s m args below meth c H locs 0 0 (MQ below (va_Qd ((fun (r : UInt64) (h1 : mH) => ∃ μ1 : KS, DRep cs P h0 B μ1 h1 ∧ om_meanHeat μ r μ1)) (mB D hh s.heap.size) (mA hh s.heap.size)) args s 0 0 (mA hh s.heap.size)) (F0 m 4 ls []) := by
    intro fu
    induction fu with
    | zero =>
      intro i hi hfu
      exact absurd hfu (Nat.not_lt_zero _)
    | succ fu ih4 =>
      intro i hi hfu h H locs hM hV hS ls hl
      refine lv_iload_n hx hb dX5_meanHeat_4 rfl (lv_at hl 2 rfl) ?_
      refine lv_aload_n hx hb dX5_meanHeat_5 rfl (lv_at hl 0 rfl) ?_
      refine m_get (C := RX5) (T := TX5) (N := 34) hx hb hts hi_X5 hown hK hV 3 (v := .int (nI (kN μ 3 0))) (by have z9 := g_m3 hM; exact z9) rfl (by decide) k100 (fun _ h9 => h9) dX5_meanHeat_6 ?_
      refine lv_icmp_ge (tgt := 27) hx hb dX5_meanHeat_9 (by decide) (fun c9 => ?_) (fun c9 => ?_)
      · replace c9 : kN μ 3 0 ≤ i := (nI_leI (a := kN μ 3 0) (b := i) (by omega) (by omega)).mp c9
        have ei : i = kN μ 3 0 := by omega
        subst ei
        refine lv_aload_n hx hb dX5_meanHeat_27 rfl (lv_at hl 0 rfl) ?_
        refine lv_aload_n hx hb dX5_meanHeat_28 rfl (lv_at hl 0 rfl) ?_
        refine m_get (C := RX5) (T := TX5) (N := 34) hx hb hts hi_X5 hown hK hV 3 (v := .int (nI (kN μ 3 0))) (by have z9 := g_m3 hM; exact z9) rfl (by decide) k100 (fun _ h9 => h9) dX5_meanHeat_29 ?_
        refine lv_if_ne (tgt := 39) hx hb dX5_meanHeat_32 (by decide) (fun c32 => ?_) (fun c32 => ?_)
        · replace c32 : ¬ kN μ 3 0 = 0 := fun q9 => c32 ((nI_eq (a := kN μ 3 0) (b := 0) (by omega) (by omega)).mpr q9)
          refine lv_iconst (v := 0) hx hb dX5_meanHeat_39 (by decide) ?_
          refine m_put (C := RX5) (T := TX5) (N := 34) (v := .int 0) hx hb hts hi_X5 tyX5 tyX5_ok nmX5 hown hK hV hS 33 (p_m33 hM 0) rfl (by decide) k91 (fun _ h9 => h9) rfl (tyX5_ok 33 (by decide)) rfl rfl dX5_meanHeat_40 (fun h H locs hV hS hM => ?_)
          refine lv_aload_n hx hb dX5_meanHeat_43 rfl (lv_at hl 0 rfl) ?_
          refine m_get (C := RX5) (T := TX5) (N := 34) hx hb hts hi_X5 hown hK hV 33 (v := .int 0) (by have z9 := g_m33 hM; exact z9) rfl (by decide) k91 (fun _ h9 => h9) dX5_meanHeat_44 ?_
          refine lv_if_ne (tgt := 61) hx hb dX5_meanHeat_47 (by decide) (fun c47 => (absurd (by decide) c47)) (fun c47 => ?_)
          refine lv_iload_n hx hb dX5_meanHeat_50 rfl (lv_at hl 1 rfl) ?_
          refine lv_i2d hx hb dX5_meanHeat_51 ?_
          refine lv_aload_n hx hb dX5_meanHeat_52 rfl (lv_at hl 0 rfl) ?_
          refine m_get (C := RX5) (T := TX5) (N := 34) hx hb hts hi_X5 hown hK hV 3 (v := .int (nI (kN μ 3 0))) (by have z9 := g_m3 hM; exact z9) rfl (by decide) k100 (fun _ h9 => h9) dX5_meanHeat_53 ?_
          refine lv_i2d hx hb dX5_meanHeat_56 ?_
          refine lv_ddiv hx hb dX5_meanHeat_57 (hnn c32) ?_
          refine lv_goto (tgt := 62) hx hb dX5_meanHeat_58 (by decide) ?_
          exact m_dret (v := (FP.ddiv (FP.i2d (sumI (fun c => kI μ 2 c) (kN μ 3 0))) (FP.i2d (nI (kN μ 3 0))))) hx hb hr hlocks hV hS (⟨_, hM, Or.inr ⟨c32, rfl, rfl⟩⟩) dX5_meanHeat_62
        · replace c32 : kN μ 3 0 = 0 := (nI_eq (a := kN μ 3 0) (b := 0) (by omega) (by omega)).mp c32
          refine lv_iconst (v := 1) hx hb dX5_meanHeat_35 (by decide) ?_
          refine lv_goto (tgt := 40) hx hb dX5_meanHeat_36 (by decide) ?_
          refine m_put (C := RX5) (T := TX5) (N := 34) (v := .int 1) hx hb hts hi_X5 tyX5 tyX5_ok nmX5 hown hK hV hS 33 (p_m33 hM 1) rfl (by decide) k91 (fun _ h9 => h9) rfl (tyX5_ok 33 (by decide)) rfl rfl dX5_meanHeat_40 (fun h H locs hV hS hM => ?_)
          refine lv_aload_n hx hb dX5_meanHeat_43 rfl (lv_at hl 0 rfl) ?_
          refine m_get (C := RX5) (T := TX5) (N := 34) hx hb hts hi_X5 hown hK hV 33 (v := .int 1) (by have z9 := g_m33 hM; exact z9) rfl (by decide) k91 (fun _ h9 => h9) dX5_meanHeat_44 ?_
          refine lv_if_ne (tgt := 61) hx hb dX5_meanHeat_47 (by decide) (fun c47 => ?_) (fun c47 => (absurd c47 (by decide)))
          refine lv_dconst0 hx hb dX5_meanHeat_61 ?_
          exact m_dret (v := 0) hx hb hr hlocks hV hS (⟨_, hM, Or.inl ⟨c32, rfl⟩⟩) dX5_meanHeat_62
      · replace c9 : ¬ kN μ 3 0 ≤ i := fun q9 => c9 ((nI_leI (a := kN μ 3 0) (b := i) (by omega) (by omega)).mpr q9)
        refine lv_iload_n hx hb dX5_meanHeat_12 rfl (lv_at hl 1 rfl) ?_
        refine lv_aload_n hx hb dX5_meanHeat_13 rfl (lv_at hl 0 rfl) ?_
        refine m_get (C := RX5) (T := TX5) (N := 34) hx hb hts hi_X5 hown hK hV 2 (v := .ref (B 2)) (g_m2 hM) rfl (by decide) k13 (fun _ h9 => h9) dX5_meanHeat_14 ?_
        refine lv_iload_n hx hb dX5_meanHeat_17 rfl (lv_at hl 2 rfl) ?_
        refine m_iald hx hb hK hV 0 (i := nI i) (x := (kI μ 2 i)) (a_m2 hM) rfl (vp_in_nI (by omega) (by omega)) (by rw [nI_clamp (by omega)] <;> first | rfl | (show oI (va_up _ _ _ _) = _; rw [vu_s] <;> rfl) | (show va_up _ _ _ _ = _; rw [vu_s] <;> rfl)) dX5_meanHeat_18 ?_
        refine lv_iadd hx hb dX5_meanHeat_19 ?_
        refine lv_istore_n (lv' := [(1, .int ((sumI (fun c => kI μ 2 c) i) + (kI μ 2 i))), (0, .ref (B 100)), (2, .int (nI i))]) hx hb dX5_meanHeat_20 rfl hl (by decide) rfl (fun ls hl => ?_)
        refine lv_iinc (v := nI (i + 1)) (lv' := [(2, .int (nI (i + 1))), (1, .int ((sumI (fun c => kI μ 2 c) i) + (kI μ 2 i))), (0, .ref (B 100))]) hx hb dX5_meanHeat_21 hl (k := 2) rfl (show nI i + Int32.ofInt 1 = _ from nI_add i 1) (by decide) rfl (fun ls hl => ?_)
        refine lv_goto (tgt := 4) hx hb dX5_meanHeat_24 (by decide) ?_
        have q1 : ((sumI (fun c => kI μ 2 c) i) + (kI μ 2 i)) = (sumI (fun c => kI μ 2 c) (i + 1)) := by simp [sumI]
        replace hl : lv_has ls 3 [(2, .int (nI (i + 1))), (1, .int (sumI (fun c => kI μ 2 c) (i + 1))), (0, .ref (B 100))] := (congrArg (lv_has ls 3) (m_lc rfl (m_lc (congrArg Value.int q1) (m_lc rfl rfl)))).mp hl
        exact ih4 (i + 1) (by omega) (by omega) _ _ _ hM hV hS ls (lv_sub hl [2, 1, 0] rfl)
  have q2 : 0 = (sumI (fun c => kI μ 2 c) 0) := rfl
  have q3 : 0 = nI 0 := rfl
  replace hl : lv_has ls 3 [(2, .int (nI 0)), (1, .int (sumI (fun c => kI μ 2 c) 0)), (0, .ref (B 100))] := (congrArg (lv_has ls 3) (m_lc (congrArg Value.int q3) (m_lc (congrArg Value.int q2) (m_lc rfl rfl)))).mp hl
  exact lp4 ((kN μ 3 0 - 0) + 1) 0 (Nat.zero_le _) (Nat.lt_succ_self _) _ _ _ hM hV hS ls (lv_sub hl [2, 1, 0] rfl)
